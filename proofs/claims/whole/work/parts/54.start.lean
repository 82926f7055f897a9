/-! one call on both sides, over one state -/
theorem st_step {n E b t : Nat} {σ : zS} (h : Rl n E b t σ σ) (h0 : 1 ≤ n) (hn : n ≤ 8) (p q r : Int32) (v : Int64) : Rl n E b t σ (fx_stepS n E σ p q r v) ∧ fx_stepB n σ p q r = fm_stepB n (fx_stepS n E σ p q r v) p q r ∧ ∃ E2 b2 t2, Rl n E2 b2 t2 (fm_stepS n E (fx_stepS n E σ p q r v) p q r v) (fm_stepS n E (fx_stepS n E σ p q r v) p q r v) := by
  have R1 := Rl_M h (kM_step n E σ p q r v)
  exact ⟨R1, op_stepB R1 h0 hn p q r, _, b, t, Rl_K (op_stepS R1 h0 hn p q r v) (kX_step n E _ p q r v)⟩
theorem st_asks {n E b t : Nat} {σ : zS} (h : Rl n E b t σ σ) (h0 : 1 ≤ n) (hn : n ≤ 8) (p q r : Int32) : Rl n E b t σ (fx_asksS n E σ p q r) ∧ fx_asksB n E σ p q r = fm_asksB n E (fx_asksS n E σ p q r) p q r ∧ ∃ E2 b2 t2, Rl n E2 b2 t2 (fm_asksS n E (fx_asksS n E σ p q r) p q r) (fm_asksS n E (fx_asksS n E σ p q r) p q r) := by
  have R1 := Rl_M h (kM_asks n E σ p q r)
  exact ⟨R1, op_asksB R1 h0 hn p q r, _, b, t, Rl_K (op_asksS R1 h0 hn p q r) (kX_asks n E _ p q r)⟩
theorem st_throw {n E b t : Nat} {σ : zS} (h : Rl n E b t σ σ) (h0 : 1 ≤ n) (hn : n ≤ 8) (p q : Int32) : Rl n E b t σ (fx_throwS n E σ p q) ∧ fx_throwB n E σ p q = fm_throwB n E (fx_throwS n E σ p q) p q ∧ ∃ E2 b2 t2, Rl n E2 b2 t2 (fm_throwS n E (fx_throwS n E σ p q) p q) (fm_throwS n E (fx_throwS n E σ p q) p q) := by
  have R1 := Rl_M h (kM_throw n E σ p q)
  exact ⟨R1, op_throwB R1 h0 hn p q, _, b, t, Rl_K (op_throwS R1 h0 hn p q) (kX_throw n E _ p q)⟩
theorem st_safe {n E b t : Nat} {σ : zS} (h : Rl n E b t σ σ) (h0 : 1 ≤ n) (hn : n ≤ 8) (p : Int32) (v : Int64) : Rl n E b t σ (fx_safeS n σ p v) ∧ fx_safeB n σ p = fm_safeB n (fx_safeS n σ p v) p ∧ ∃ E2 b2 t2, Rl n E2 b2 t2 (fm_safeS n (fx_safeS n σ p v) p v) (fm_safeS n (fx_safeS n σ p v) p v) := by
  have R1 := Rl_M h (kM_safe n σ p v)
  exact ⟨R1, op_safeB R1 h0 hn p, E, b, t, Rl_K (op_safeS R1 h0 hn p v) (kX_safe n _ p v)⟩
theorem st_bar {n E b t : Nat} {σ : zS} (h : Rl n E b t σ σ) (p q : Int32) : Rl n E b t σ (fx_barS σ p q) ∧ fx_barB σ p q = fm_barB (fx_barS σ p q) p q ∧ ∃ E2 b2 t2, Rl n E2 b2 t2 (fm_barS (fx_barS σ p q) p q) (fm_barS (fx_barS σ p q) p q) := by
  have R1 := Rl_M h (kM_bar σ p q)
  exact ⟨R1, op_barB R1 p q, E, b, t, Rl_K (op_barS R1 p q) (kX_bar _ p q)⟩
theorem st_rest {n E b t : Nat} {σ : zS} (h : Rl n E b t σ σ) (h0 : 1 ≤ n) (hn : n ≤ 8) (p : Int32) : Rl n E b t σ (fx_restS n σ p) ∧ fx_restB n σ p = fm_restB n (fx_restS n σ p) p ∧ ∃ E2 b2 t2, Rl n E2 b2 t2 (fm_restS n (fx_restS n σ p) p) (fm_restS n (fx_restS n σ p) p) := by
  have R1 := Rl_M h (kM_rest n σ p)
  exact ⟨R1, op_restB R1 h0 hn p, E, b, t, Rl_K (op_restS R1 h0 hn p) (kX_rest n _ p)⟩
theorem st_close {n E b t : Nat} {σ : zS} (h : Rl n E b t σ σ) (hn : n ≤ 8) : Rl n E b t σ (fx_closeS n σ) ∧ fx_closeR n σ = fm_closeR n E (fx_closeS n σ) ∧ ∃ E2 b2 t2, Rl n E2 b2 t2 (fm_closeS (fx_closeS n σ)) (fm_closeS (fx_closeS n σ)) := by
  have R1 := Rl_M h (kM_close n σ)
  exact ⟨R1, op_closeR R1, E, b, t, Rl_K (op_closeS R1 hn) (kX_close _)⟩
theorem st_play {n E b t : Nat} {σ : zS} (h : Rl n E b t σ σ) (hn : n ≤ 8) (v : Int64) (q : Int32) : Rl n E b t σ (fx_playS n E b σ v q) ∧ fx_playR n E b σ v q = fm_playR n E b t (fx_playS n E b σ v q) v q ∧ ∃ E2 b2 t2, Rl n E2 b2 t2 (fm_playS n E b t (fx_playS n E b σ v q) v q) (fm_playS n E b t (fx_playS n E b σ v q) v q) := by
  have R1 := Rl_M h (kM_play n E b σ v q)
  obtain ⟨p1, b2, t2, p2⟩ := op_play R1 hn v q
  exact ⟨R1, p1, E, b2, t2, Rl_K p2 (kX_play n E b t _ v q)⟩
/-! the start -/
def st0 (g g1 g2 : Nat → Int32) : zS := (fun f => match f with | 1 => fun _ => -1 | 3 => fun _ => -1 | 4 => fun _ => -1 | 7 => fun _ => -1 | 19 => g | 27 => g1 | 37 => g2 | _ => fun _ => 0, fun _ _ => 0)
theorem Rl_0 {n : Nat} (hn : n ≤ 8) {g g1 g2 : Nat → Int32} (hg : ∀ w, w < 16 → g w = -1) (hg1 : ∀ w, w < 16 → g1 w = -1) (hg2 : ∀ u, u < 8 → g2 u = -1) : Rl n 0 0 0 (st0 g g1 g2) (st0 g g1 g2) := by
  refine ⟨⟨rfl, rfl, Nat.zero_le _, fun e he => absurd he (Nat.not_lt_zero e)⟩, fun e he => absurd he (Nat.not_lt_zero e), fun e f he => absurd he (Nat.not_lt_zero e), fun u hu => ⟨rfl, zin_nI (k := 0) (by omega) (by omega), fun e he => absurd he (Nat.not_lt_zero e), Or.inl rfl, Or.inl ⟨rfl, hg2 u (by omega), rfl⟩⟩, ⟨rfl, rfl, Nat.zero_le _, fun w hw => (hg w hw).trans (hg1 w hw).symm, fun s w hs => absurd hs (Nat.not_lt_zero s), fun _ _ => rfl, fun _ _ => rfl, fun s k hs => absurd hs (Nat.not_lt_zero s)⟩, fun s w hs hw => ?_, ⟨rfl, rfl, Nat.zero_le _, fun k hk => absurd hk (Nat.not_lt_zero k)⟩, rfl, Or.inl rfl⟩
  show (0 : Int32) = zb (fx_hasWay 0 (nI w))
  rw [hasWay_bt _ (by omega), b_0]
  rfl
def ad2 (a a2 : Nat → Nat) (i : Nat) : Nat := if i < 21 then a i else if i < 64 then a2 i else a i
def kap (κ : KA) (a a2 : Nat → Nat) : KA := (κ.1, ad2 a a2, κ.2.2)
/-- the cells of the class in their order -/
def utS (κ : KA) (a : Nat → Nat) (g : Nat → Int32) : va_W := [(a 0, .inr (5, [.ref (a 1), .ref (a 2), .ref (a 8), .ref (a 10), .ref (a 14), .ref (a 20), .int 0])), (a 1, .inl (cQ κ, nA κ, .inr (.inr (.inr (.inr (fun u => some (a (64 + u)))))))),
  (a 2, .inr (1, [.ref (a 3), .ref (a 4), .ref (a 5), .ref (a 6), .ref (a 7), .int 0])), (a 3, .inl (cI κ, 300, .inl (fun _ => 0))), (a 4, .inl (cI κ, 300, .inl (fun _ => 0))), (a 5, .inl (cI κ, 300, .inl (fun _ => 0))), (a 6, .inl (cI κ, 300, .inl (fun _ => 0))), (a 7, .inl (cJ κ, 300, .inr (.inl (fun _ => 0)))),
  (a 8, .inr (2, [.ref (a 9), .int 0, .long 0])), (a 9, .inl (cI κ, nA κ, .inl (fun _ => 0))),
  (a 10, .inr (3, [.ref (a 11), .ref (a 12), .ref (a 13), .int 0])), (a 11, .inl (cI κ, nA κ * 64, .inl (fun _ => 0))), (a 12, .inl (cI κ, nA κ * 64, .inl (fun _ => 0))), (a 13, .inl (cI κ, nA κ * 64, .inl (fun _ => 0))),
  (a 14, .inr (4, [.ref (a 15), .ref (a 16), .ref (a 17), .ref (a 18), .ref (a 19), .int 0])), (a 15, .inl (cJ κ, nA κ * 4, .inr (.inl (fun _ => 0)))), (a 16, .inl (cJ κ, nA κ * 4, .inr (.inl (fun _ => 0)))), (a 17, .inl (cI κ, 16, .inl g)), (a 18, .inl (cJ κ, 64 * (nA κ * 4), .inr (.inl (fun _ => 0)))), (a 19, .inl (cI κ, 1024, .inl (fun _ => 0))),
  (a 20, .inl (cI κ, 64, .inl (fun _ => 0)))]
theorem ad2_u (a a2 : Nat → Nat) (u : Nat) : ad2 a a2 (64 + u) = a (64 + u) := by
  unfold ad2
  rw [if_neg (by omega), if_neg (by omega)]
set_option maxRecDepth 100000 in
theorem wA_start (κ : KA) (a a2 : Nat → Nat) (g g1 g2 : Nat → Int32) : wA (kap κ a a2) (st0 g g1 g2) = (utS κ a g ++ moW κ a2 g1 g2) ++ utU (nA κ) (fun i => a (64 + i)) := by
  have e1 : (fun u => some (aA (kap κ a a2) (64 + u))) = fun u => some (a (64 + u)) := funext fun u => congrArg some (ad2_u a a2 u)
  have e2 : (List.range (nA (kap κ a a2))).map (uC (kap κ a a2) (st0 g g1 g2)) = utU (nA κ) (fun i => a (64 + i)) := by
    unfold utU
    refine List.map_congr_left (fun u _ => ?_)
    show (ad2 a a2 (64 + u), _) = (a (64 + u), _)
    rw [ad2_u]
    rfl
  unfold wA
  rw [e2]
  congr 1
  unfold sC
  rw [e1]
  rfl
theorem zB_start {κ : KA} {a a2 : Nat → Nat} {g g1 g2 : Nat → Int32} {A : Nat → Prop} {H0 H : Heap} {s : State} {locs : List Loc} {nw : List zN} (B : zB κ.1 vwCl (tysA κ) nw (zk ((utW κ a g ++ moW κ a2 g1 g2) ++ utU (nA κ) (fun i => a (64 + i)))) A H0 s zz H locs) (hN : ∀ x ∈ nwA, va_Nw (zNw x) s) : BA (kap κ a a2) A H0 s (st0 g g1 g2) H locs := by
  obtain ⟨hK, hP, hD, hS, hA, -⟩ := B
  have hP2 : va_P κ.1 vwCl (utW κ a g ++ (moW κ a2 g1 g2 ++ utU (nA κ) (fun i => a (64 + i)))) H := by rw [← List.append_assoc]; exact hP
  have hD2 : va_D A (utW κ a g ++ (moW κ a2 g1 g2 ++ utU (nA κ) (fun i => a (64 + i)))) := by rw [← List.append_assoc]; exact hD
  have hP3 := hP2.part (cx := utS κ a g) [0, 1, 2, 3, 4, 5, 6, 7, 8, 9, 10, 11, 12, 13, 14, 16, 17, 19, 18, 15, 20] rfl
  have hD3 := hD2.part (cx := utS κ a g) [0, 1, 2, 3, 4, 5, 6, 7, 8, 9, 10, 11, 12, 13, 14, 16, 17, 19, 18, 15, 20] rfl rfl
  rw [← List.append_assoc] at hP3 hD3
  refine ⟨hK, ?_, ?_, hS, hA, hN⟩
  · rw [wA_start]; exact hP3
  · rw [wA_start]; exact hD3
/-- how many units, both ways -/
theorem clamp (arg : Int32) : ∃ n, 1 ≤ n ∧ n ≤ 8 ∧ (if (1 : Int32) < (if arg < nI 8 then arg else nI 8) then (if arg < nI 8 then arg else nI 8) else 1) = nI n ∧ (if (1 : Int32) ≤ arg then (if arg ≤ nI 8 then arg else nI 8) else 1) = nI n := by
  by_cases h1 : (1 : Int32) ≤ arg
  · by_cases h8 : arg ≤ nI 8
    · have h0 : ¬ arg < 0 := fun q => by
        have a := Int32.lt_iff_toInt_lt.mp q
        have b := Int32.le_iff_toInt_le.mp h1
        rw [show (1 : Int32).toInt = 1 from by decide] at b
        rw [show (0 : Int32).toInt = 0 from by decide] at a
        omega
      obtain ⟨n, hn, rfl⟩ := nI_of h0
      have a1 : 1 ≤ n := (nI_leI (a := 1) (b := n) (by omega) hn).mp h1
      have a8 : n ≤ 8 := (nI_leI (a := n) (b := 8) hn (by omega)).mp h8
      refine ⟨n, a1, a8, ?_, by rw [if_pos h1, if_pos h8]⟩
      by_cases c8 : nI n < nI 8
      · rw [if_pos c8]
        by_cases c1 : (1 : Int32) < nI n
        · rw [if_pos c1]
        · rw [if_neg c1]
          have : ¬ 1 < n := fun q => c1 (nI_lt (a := 1) q hn)
          rw [show n = 1 by omega]; rfl
      · rw [if_neg c8]
        have : ¬ n < 8 := fun q => c8 (nI_lt q (by omega))
        rw [show n = 8 by omega]
        exact if_pos (by decide)
    · have c8 : ¬ arg < nI 8 := fun q => h8 (by
        have := Int32.lt_iff_toInt_lt.mp q
        exact Int32.le_iff_toInt_le.mpr (by omega))
      refine ⟨8, by omega, by omega, ?_, by rw [if_pos h1, if_neg h8]⟩
      rw [if_neg c8]
      exact if_pos (by decide)
  · refine ⟨1, by omega, by omega, ?_, by rw [if_neg h1]; rfl⟩
    have c8 : arg < nI 8 := by
      have a : ¬ (1 : Int32).toInt ≤ arg.toInt := fun q => h1 (Int32.le_iff_toInt_le.mpr q)
      rw [show (1 : Int32).toInt = 1 from by decide] at a
      exact Int32.lt_iff_toInt_lt.mpr (by rw [nI_toInt (by omega)]; omega)
    have c1 : ¬ (1 : Int32) < arg := fun q => h1 (by
      have := Int32.lt_iff_toInt_lt.mp q
      exact Int32.le_iff_toInt_le.mpr (by omega))
    rw [if_pos c8, if_neg c1]; rfl
