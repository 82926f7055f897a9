/-! The class's methods as functions of a state. Int fields: 0 own second, 1 last entry, 2 mode, 3 held in, 4 next throw, 5 ways now, 6 odd before, 7 outcome (of a unit); 8 kinds, 9 units, 10 seconds, 11 targets, 12 size (of the entries); 13 units, 14 size (of the order); 15 seconds, 16 units, 17 outcomes, 18 size (of the turns); 19 owners, 20 past owners, 21 seconds (of the board); 22 barred; 23 closed. Long fields: 0 values of the entries, 1 g, 2 values, 3 safe values, 4 past values. -/
def tn (x : Int32) : Nat := x.toNatClampNeg
def zin (x : Int32) (N : Nat) : Prop := x = nI (tn x) ∧ tn x < N
def zfi (σ : zS) (f : Nat) (h : Nat → Int32) : zS := (fun g j => if g = f then h j else σ.1 g j, σ.2)
def zfl (σ : zS) (f : Nat) (h : Nat → Int64) : zS := (σ.1, fun g j => if g = f then h j else σ.2 g j)
def fx_ended (σ : zS) (u : Nat) : Bool := !decide (σ.1 0 u ≤ σ.1 1 u)
def fx_acts (σ : zS) (u : Nat) : Bool := !decide (σ.1 2 u = 2) && !fx_ended σ u
def fx_asked (σ : zS) (u : Nat) : Int32 := σ.1 5 u &&& (σ.1 6 u ^^^ (-1))
def fx_given (σ : zS) (u : Nat) : Int32 := σ.1 5 u &&& σ.1 6 u
def fx_isUnit (n : Nat) (x : Int32) : Bool := !decide (x < 0) && !decide (nI n ≤ x)
def fx_isWay (x : Int32) : Bool := !decide (x < 0) && !decide (16 ≤ x)
def fx_isOut (u o : Int32) : Bool := !decide (o < 0) && decide (o / 4 = u)
def fx_hasWay (b w : Int32) : Bool := !decide ((b >>> (w &&& 31)) &&& 1 = 0)
def fx_hasOut (n : Nat) (k : Int32) : Bool := !decide (k < 0) && !decide (nI (n * 4) ≤ k)
def fx_wasDone (σ : zS) (x : Int32) : Bool := !decide (x < 0) && !decide (σ.1 21 0 ≤ x)
def fx_valueAt (n : Nat) (σ : zS) (k x : Int32) : Int64 := if fx_hasOut n k = true then (if x = -1 then σ.2 2 (tn k) else if fx_wasDone σ x = true then σ.2 4 (tn x * (n * 4) + tn k) else 0) else 0
def fx_ownerAt (σ : zS) (w x : Int32) : Int32 := if fx_isWay w = true then (if x = -1 then σ.1 19 (tn w) else if fx_wasDone σ x = true then σ.1 20 (tn x * 16 + tn w) else -1) else -1
def fx_safe1 (j : Nat) (σ : zS) : zS := zl σ 2 j (σ.2 3 j)
def fx_makeSafe (σ : zS) (u : Nat) : zS := zit fx_safe1 4 (u * 4) σ
def fx_ownsAll (σ : zS) (u b : Int32) : Nat → Nat → Bool
  | 0, _ => true
  | c + 1, k => if fx_hasWay b (nI k) = true ∧ ¬ σ.1 19 k = u then false else fx_ownsAll σ u b c (k + 1)
def fx_give1 (u b : Int32) (k : Nat) (σ : zS) : zS := if fx_hasWay b (nI k) = true ∧ σ.1 19 k = u then zi σ 19 k (-1) else σ
def fx_giveBack (σ : zS) (u b : Int32) : zS := zit (fx_give1 u b) 16 0 σ
def fx_keep (n b : Nat) (σ : zS) : zS := zi (zfi (zfl σ 4 (va_cpy (σ.2 2) (σ.2 4) 0 (b * (n * 4)) (n * 4))) 20 (va_cpy (σ.1 19) (σ.1 20) 0 (b * 16) 16)) 21 0 (nI (b + 1))
def fx_fill1 (k : Nat) (σ : zS) : zS := zi σ 19 k (-1)
def fx_shut (n : Nat) (σ : zS) : zS := zit fx_fill1 16 0 (zfl σ 2 (va_cpy (σ.2 3) (σ.2 2) 0 0 (n * 4)))
def fx_add (σ : zS) (E : Nat) (a b c d : Int32) (v : Int64) : zS := zi (zl (zi (zi (zi (zi σ 8 E a) 9 E b) 10 E c) 11 E d) 0 E v) 12 0 (nI (E + 1))
def fx_find (σ : zS) (a b c d : Int32) : Nat → Nat → Int32
  | 0, _ => -1
  | n + 1, k => if σ.1 8 k = a ∧ σ.1 9 k = b ∧ σ.1 10 k = c ∧ σ.1 11 k = d then nI k else fx_find σ a b c d n (k + 1)
def fx_brief0 (u : Nat) (σ : zS) : zS := zi (zi (zi σ 4 u (-1)) 5 u 0) 6 u 0
def fx_brief1 (e : Nat) (σ : zS) : zS :=
  if σ.1 8 e = 2 ∧ σ.1 10 e = σ.1 0 (tn (σ.1 9 e)) then zi σ 4 (tn (σ.1 9 e)) (nI e)
  else if σ.1 8 e = 1 ∧ σ.1 10 e = σ.1 0 (tn (σ.1 9 e)) then zi σ 5 (tn (σ.1 9 e)) (σ.1 5 (tn (σ.1 9 e)) ||| ((1 : Int32) <<< (σ.1 11 e &&& 31)))
  else if σ.1 8 e = 1 ∧ ¬ σ.1 0 (tn (σ.1 9 e)) ≤ σ.1 10 e then zi σ 6 (tn (σ.1 9 e)) (σ.1 6 (tn (σ.1 9 e)) ^^^ ((1 : Int32) <<< (σ.1 11 e &&& 31)))
  else σ
def fx_brief (n E : Nat) (σ : zS) : zS := zit fx_brief1 E 0 (zit fx_brief0 n 0 σ)
def fx_steps1 (e : Nat) (σ : zS) : zS := if σ.1 8 e = 0 ∧ σ.1 7 (tn (σ.1 9 e)) = 0 ∧ σ.1 10 e = σ.1 0 (tn (σ.1 9 e)) then zl σ 2 (tn (σ.1 11 e)) (σ.2 0 e) else σ
def fx_doSteps (E : Nat) (σ : zS) : zS := zit fx_steps1 E 0 σ
def fx_gather1 (u : Nat) (σ : zS) : zS := if fx_acts σ u = true then zi (zi σ 13 (tn (σ.1 14 0)) (nI u)) 14 0 (σ.1 14 0 + 1) else σ
def fx_gather (n : Nat) (σ : zS) : zS := zit fx_gather1 n 0 (zi σ 14 0 0)
/-- places from i down, each takes what stands before it -/
def fx_shift : Nat → Nat → zS → zS
  | 0, _, σ => σ
  | c + 1, i, σ => fx_shift c (i - 1) (zi σ 13 i (σ.1 13 (i - 1)))
def fx_move (σ : zS) (f t : Nat) : zS := zi (fx_shift (f - t) f σ) 13 t (σ.1 13 f)
def fx_lcg (g : Int64) : Int64 := g * 6364136223846793005 + 1442695040888963407
def fx_pick (g : Int64) (r : Nat) : Int32 :=
  Int64.toInt32 ((g.toUInt64 >>> ((Int32.toInt64 33).toUInt64 &&& Int64.toUInt64 63)).toInt64 - (g.toUInt64 >>> ((Int32.toInt64 33).toUInt64 &&& Int64.toUInt64 63)).toInt64 / Int32.toInt64 (nI r) * Int32.toInt64 (nI r))
def fx_draw1 (N k : Nat) (σ : zS) : zS := fx_move (zl σ 1 0 (fx_lcg (σ.2 1 0))) (k + tn (fx_pick (fx_lcg (σ.2 1 0)) (N - k))) k
def fx_draw (N : Nat) (σ : zS) : zS := zit (fx_draw1 N) N 0 σ
def fx_turn (σ : zS) (t : Nat) (a b c : Int32) : zS := zi (zi (zi (zi σ 15 t a) 16 t b) 17 t c) 18 0 (nI (t + 1))
def fx_look (σ : zS) (k x : Int32) : Int32 := if ¬ k < 0 ∧ k < σ.1 18 0 then (if x = 0 then σ.1 15 (tn k) else if x = 1 then σ.1 16 (tn k) else if x = 2 then σ.1 17 (tn k) else -1) else -1
def fx_takes (n : Nat) (σ : zS) (u x : Int32) : Bool := decide (fx_isUnit n u = true ∧ ¬ x < 0 ∧ ¬ 200 < x ∧ σ.1 23 0 = 0 ∧ ¬ x < σ.1 0 (tn u) ∧ ¬ 300 ≤ σ.1 12 0)
def fx_tell (σ : zS) (E : Nat) (a : Int32) (u : Nat) (c d : Int32) (v : Int64) : zS := zi (fx_add σ E a (nI u) c d v) 1 u (if σ.1 1 u < c then c else σ.1 1 u)
def fx_mode (σ : zS) (u : Nat) : Int32 := if σ.1 23 0 = 0 then (if fx_ended σ u = true then 3 else σ.1 2 u) else 4
def fx_acting (σ : zS) : Nat → Nat → Int32 → Int32
  | 0, _, r => r
  | c + 1, k, r => fx_acting σ c (k + 1) (if fx_mode σ k = 0 ∨ fx_mode σ k = 1 then r + 1 else r)
def fx_turn0 (u : Nat) (σ : zS) : zS := zi σ 7 u (-1)
def fx_turn1 (i : Nat) (σ : zS) : zS := zi σ 7 (tn (σ.1 13 i)) (if σ.1 4 (tn (σ.1 13 i)) = -1 then 1 else 2)
def fx_takeTurns (n N : Nat) (σ : zS) : zS := zit fx_turn1 N 0 (zit fx_turn0 n 0 σ)
def fx_hold1 (x : Int32) (u : Nat) (σ : zS) : zS := if σ.1 7 u = 2 then fx_makeSafe (zi (zi (zi σ 8 (tn (σ.1 4 u)) 3) 2 u 2) 3 u x) u else σ
def fx_hold (n : Nat) (x : Int32) (σ : zS) : zS := zit (fx_hold1 x) n 0 σ
def fx_least (σ : zS) (w : Int32) : Nat → Nat → Int32
  | 0, _ => -1
  | c + 1, k => if σ.1 7 k = 1 ∧ fx_hasWay (fx_asked σ k) w = true then nI k else fx_least σ w c (k + 1)
def fx_grant1 (n : Nat) (b : Int32) (w : Nat) (σ : zS) : zS := if σ.1 19 w = -1 ∧ fx_hasWay b (nI w) = false then zi σ 19 w (fx_least σ (nI w) n 0) else σ
def fx_grant (n : Nat) (b : Int32) (σ : zS) : zS := zit (fx_grant1 n b) 16 0 σ
def fx_set1 (u : Nat) (σ : zS) : zS := if σ.1 7 u = 1 ∧ fx_ownsAll σ (nI u) (fx_asked σ u) 16 0 = true then zi σ 7 u 0 else σ
def fx_set2 (u : Nat) (σ : zS) : zS :=
  if σ.1 7 u = 0 then zi (zi (fx_giveBack σ (nI u) (fx_given σ u)) 0 u ((fx_giveBack σ (nI u) (fx_given σ u)).1 0 u + 1)) 2 u 0
  else if σ.1 7 u = 1 then zi σ 2 u 1 else σ
def fx_settle (n E : Nat) (σ : zS) : zS := zit fx_set2 n 0 (fx_doSteps E (zit fx_set1 n 0 σ))
theorem zix {x : Int32} (h : ¬ x < 0) : x = nI (tn x) := by
  obtain ⟨j, hj, rfl⟩ := nI_of h
  unfold tn
  rw [nI_clamp hj]
theorem zixlt {x : Int32} {n : Nat} (h : ¬ x < 0) (h2 : ¬ nI n ≤ x) (hn : n < 2 ^ 31) : tn x < n := by
  obtain ⟨j, hj, rfl⟩ := nI_of h
  unfold tn
  rw [nI_clamp hj]
  rcases Nat.lt_or_ge j n with q | q
  · exact q
  · exact absurd (nI_le q hj) h2
theorem zixlt' {x : Int32} {n : Nat} (h : ¬ x < 0) (h2 : x < nI n) (hn : n < 2 ^ 31) : tn x < n := by
  obtain ⟨j, hj, rfl⟩ := nI_of h
  unfold tn
  rw [nI_clamp hj]
  exact (nI_ltI hj hn).mp h2
theorem tn_nI {k : Nat} (h : k < 2 ^ 31) : tn (nI k) = k := nI_clamp h
theorem fx_isUnit_in {n : Nat} {x : Int32} (h : fx_isUnit n x = true) (hn : n ≤ 8) : x = nI (tn x) ∧ tn x < n := by
  simp only [fx_isUnit, Bool.and_eq_true, Bool.not_eq_true', decide_eq_false_iff_not] at h
  exact ⟨zix h.1, zixlt h.1 h.2 (by omega)⟩
theorem fx_hasOut_in {n : Nat} {x : Int32} (h : fx_hasOut n x = true) (hn : n ≤ 8) : x = nI (tn x) ∧ tn x < n * 4 := by
  simp only [fx_hasOut, Bool.and_eq_true, Bool.not_eq_true', decide_eq_false_iff_not] at h
  exact ⟨zix h.1, zixlt h.1 h.2 (by omega)⟩
theorem fx_isWay_in {x : Int32} (h : fx_isWay x = true) : x = nI (tn x) ∧ tn x < 16 := by
  simp only [fx_isWay, Bool.and_eq_true, Bool.not_eq_true', decide_eq_false_iff_not] at h
  exact ⟨zix h.1, zixlt (n := 16) h.1 h.2 (by omega)⟩
theorem fx_wasDone_in {σ : zS} {b : Nat} {x : Int32} (h : fx_wasDone σ x = true) (hs : σ.1 21 0 = nI b) (hb : b ≤ 64) : x = nI (tn x) ∧ tn x < b := by
  simp only [fx_wasDone, Bool.and_eq_true, Bool.not_eq_true', decide_eq_false_iff_not] at h
  rw [hs] at h
  exact ⟨zix h.1, zixlt h.1 h.2 (by omega)⟩
theorem zmad {x y : Int32} {a b : Nat} (N : Nat) (hx : x = nI a) (hy : y = nI b) : x * nI N + y = nI (a * N + b) := by
  rw [hx, hy, pk_mul, nI_add]
theorem zidx {a i N M : Nat} (ha : a < M) (hi : i < N) : a * N + i < M * N := by
  have h : (a + 1) * N ≤ M * N := Nat.mul_le_mul_right N ha
  rw [Nat.add_mul, Nat.one_mul] at h
  omega
theorem wf_15 (κ : KA) (σ : zS) (h : Nat → Int64) : (wA κ σ).set 15 (aA κ 15, .inl (cJ κ, nA κ * 4, .inr (.inl h))) = wA κ (zfl σ 2 h) := rfl
theorem wf_18 (κ : KA) (σ : zS) (h : Nat → Int64) : (wA κ σ).set 18 (aA κ 18, .inl (cJ κ, 64 * (nA κ * 4), .inr (.inl h))) = wA κ (zfl σ 4 h) := rfl
theorem wf_19 (κ : KA) (σ : zS) (h : Nat → Int32) : (wA κ σ).set 19 (aA κ 19, .inl (cI κ, 1024, .inl h)) = wA κ (zfi σ 20 h) := rfl
theorem zcp {b M N : Nat} (h : b < M) : b * N + N ≤ M * N := by
  have h := Nat.mul_le_mul_right N (show b + 1 ≤ M from h)
  rw [Nat.add_mul, Nat.one_mul] at h
  exact h
theorem zit_k1 {step : Nat → zS → zS} {g : Nat} (h : ∀ k σ, (step k σ).1 g = σ.1 g) : ∀ (c k : Nat) (σ : zS), (zit step c k σ).1 g = σ.1 g
  | 0, _, _ => rfl
  | c + 1, k, σ => (zit_k1 h c (k + 1) (step k σ)).trans (h k σ)
theorem zit_k2 {step : Nat → zS → zS} {g : Nat} (h : ∀ k σ, (step k σ).2 g = σ.2 g) : ∀ (c k : Nat) (σ : zS), (zit step c k σ).2 g = σ.2 g
  | 0, _, _ => rfl
  | c + 1, k, σ => (zit_k2 h c (k + 1) (step k σ)).trans (h k σ)
theorem fx_shift_k1 {g : Nat} (hg : g ≠ 13) : ∀ (c i : Nat) (σ : zS), (fx_shift c i σ).1 g = σ.1 g
  | 0, _, _ => rfl
  | c + 1, i, σ => (fx_shift_k1 hg c (i - 1) _).trans (zi_nf _ _ hg)
theorem fx_move_k1 {g : Nat} (hg : g ≠ 13) (σ : zS) (f t : Nat) : (fx_move σ f t).1 g = σ.1 g := (zi_nf _ _ hg).trans (fx_shift_k1 hg _ _ _)
/-- an int remainder of a nonnegative long -/
theorem fx_pick_in (g : Int64) {r : Nat} (h0 : 0 < r) (hr : r ≤ 8) : fx_pick g r = nI (tn (fx_pick g r)) ∧ tn (fx_pick g r) < r := by
  have hx : ∃ a : Nat, a < 2 ^ 31 ∧ (g.toUInt64 >>> ((Int32.toInt64 33).toUInt64 &&& Int64.toUInt64 63)).toInt64 = lN a := by
    have e := uN_sk g (k := 33) (by omega)
    have h1 := uN_lt g
    refine ⟨uN g / 2 ^ 33, by omega, uN_inj ?_⟩
    show uN (g.toUInt64 >>> ((nI 33).toInt64.toUInt64 &&& Int64.toUInt64 63)).toInt64 = _
    rw [e]
    exact (lN_nat (by omega)).symm
  obtain ⟨a, ha, e⟩ := hx
  have hp : fx_pick g r = nI (a % r) := by
    unfold fx_pick
    rw [e, nI_l (show r < 2 ^ 31 by omega), pk_lRem (by omega) h0 (by omega), lN_i]
  have hlt := Nat.mod_lt a h0
  rw [hp, tn_nI (by omega)]
  exact ⟨rfl, hlt⟩
theorem zaddp {x : Int32} {k a : Nat} (h : x = nI a) : nI k + x = nI (k + a) := by rw [h, nI_add]
theorem zr_ne {a : Nat} (h0 : 0 < a) (h : a < 2 ^ 31) : ¬ Int32.toInt64 (nI a) = 0 := by
  rw [nI_l h]
  intro e
  have := (lN_eq (b := 0) h (by omega)).mp e
  omega
