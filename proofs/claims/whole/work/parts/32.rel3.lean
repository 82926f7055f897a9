/-! close -/
theorem closeN_eq {n E b t : Nat} {x y : zS} (h : Rl n E b t x y) (h0 : x.1 23 0 = 0) : ∀ (c k : Nat) (r : Int32), k + c ≤ n → fx_closeN x c k r = fm_closeN y E c k r
  | 0, _, _, _ => rfl
  | c + 1, k, r, hk => by
    unfold fx_closeN fm_closeN
    rw [closeN_eq h h0 c (k + 1) _ (by omega)]
    have hg := going_iff h (show k < n by omega)
    have hm2 := mode2_iff h (show k < n by omega)
    have hm : fx_mode x k = 3 ↔ ¬ (fm_goes y E k = true ∨ ¬ y.1 37 k = -1) := by
      rw [← hg]
      constructor
      · intro q z
        rcases z with (z | z) | z
        · rw [q] at z; exact absurd z (by decide)
        · rw [q] at z; exact absurd z (by decide)
        · have := hm2.mpr ⟨h0, z⟩
          rw [q] at this; exact absurd this (by decide)
      · intro q
        have q1 : ¬ fx_mode x k = 2 := fun z => q (Or.inr (hm2.mp z).2)
        have q2 : ¬ (fx_mode x k = 0 ∨ fx_mode x k = 1) := fun z => q (Or.inl z)
        obtain ⟨-, -, -, -, cm⟩ := h.2.2.2.1 k (by omega)
        unfold fx_mode at q1 q2 ⊢
        rw [if_pos h0] at q1 q2 ⊢
        by_cases e : fx_ended x k = true
        · rw [if_pos e]
        · rw [if_neg e] at q1 q2 ⊢
          rcases cm with ⟨m1, -⟩ | ⟨m1, -⟩ | ⟨m1, -⟩
          · exact absurd (Or.inl m1) q2
          · exact absurd (Or.inr m1) q2
          · exact absurd m1 q1
    by_cases q : fm_goes y E k = true ∨ ¬ y.1 37 k = -1
    · rw [if_pos q, if_neg (fun z => hm.mp z q)]
    · rw [if_neg q, if_pos (hm.mpr q), Int32.add_zero]
theorem op_closeR {n E b t : Nat} {x y : zS} (h : Rl n E b t x y) : fx_closeR n x = fm_closeR n E y := by
  unfold fx_closeR fm_closeR
  rw [← h.2.2.2.2.2.2.2.1]
  by_cases q : x.1 23 0 = 0
  · rw [if_pos q, if_pos q]; exact closeN_eq h q n 0 0 (by omega)
  · rw [if_neg q, if_neg q]
theorem zit_s (step : Nat → zS → zS) (c k : Nat) (σ : zS) : zit step (c + 1) k σ = zit step c (k + 1) (step k σ) := rfl
theorem own1_facts (f : Nat) (step : Nat → zS → zS) (hs : ∀ k σ, step k σ = zi σ f k (-1)) : ∀ (c k : Nat) (σ : zS), (∀ j, k ≤ j → j < k + c → (zit step c k σ).1 f j = -1) ∧ (∀ j, j < k → (zit step c k σ).1 f j = σ.1 f j) ∧ (∀ g, g ≠ f → (zit step c k σ).1 g = σ.1 g) ∧ (zit step c k σ).2 = σ.2
  | 0, k, σ => ⟨fun j h1 h2 => absurd h2 (by omega), fun _ _ => rfl, fun _ _ => rfl, rfl⟩
  | c + 1, k, σ => by
    obtain ⟨h1, h2, h3, h4⟩ := own1_facts f step hs c (k + 1) (step k σ)
    rw [hs] at h1 h2 h3 h4
    rw [zit_s, hs]
    refine ⟨fun j q1 q2 => ?_, fun j q => ?_, fun g hg => ?_, h4⟩
    · by_cases e : j = k
      · subst e; rw [h2 j (by omega), zi_eq]
      · exact h1 j (by omega) (by omega)
    · rw [h2 j (by omega), zi_ni _ _ (by omega)]
    · rw [h3 g hg, zi_nf _ _ hg]
theorem safe1_facts (f s : Nat) (hfs : f ≠ s) (step : Nat → zS → zS) (hs : ∀ k σ, step k σ = zl σ f k (σ.2 s k)) : ∀ (c k : Nat) (σ : zS), (∀ j, k ≤ j → j < k + c → (zit step c k σ).2 f j = σ.2 s j) ∧ (∀ j, (j < k ∨ k + c ≤ j) → (zit step c k σ).2 f j = σ.2 f j) ∧ (∀ g, g ≠ f → (zit step c k σ).2 g = σ.2 g) ∧ (zit step c k σ).1 = σ.1
  | 0, k, σ => ⟨fun j h1 h2 => absurd h2 (by omega), fun _ _ => rfl, fun _ _ => rfl, rfl⟩
  | c + 1, k, σ => by
    obtain ⟨h1, h2, h3, h4⟩ := safe1_facts f s hfs step hs c (k + 1) (step k σ)
    rw [hs] at h1 h2 h3 h4
    rw [zit_s, hs]
    refine ⟨fun j q1 q2 => ?_, fun j q => ?_, fun g hg => ?_, h4⟩
    · by_cases e : j = k
      · subst e; rw [h2 j (Or.inl (by omega)), zl_eq]
      · rw [h1 j (by omega) (by omega), zl_nf _ _ (Ne.symm hfs)]
    · rw [h2 j (by omega), zl_ni _ _ (by omega)]
    · rw [h3 g hg, zl_nf _ _ hg]
theorem op_closeS {n E b t : Nat} {x y : zS} (h : Rl n E b t x y) (hn : n ≤ 8) : Rl n E b t (fx_closeS n x) (fm_closeS y) := by
  obtain ⟨a1, a2, a3, a4, ⟨c1, c2, c3, c4, c5, c6, c7, c8⟩, a6, a7, a8⟩ := h
  unfold fx_closeS fm_closeS
  rw [← a8.1]
  by_cases q : x.1 23 0 = 0
  · rw [if_pos q, if_pos q]
    obtain ⟨f1, f2, f3, f4⟩ := own1_facts 19 fx_fill1 (fun _ _ => rfl) 16 0 (zfl x 2 (va_cpy (x.2 3) (x.2 2) 0 0 (n * 4)))
    obtain ⟨s1, s2, s3, s4⟩ := safe1_facts 5 6 (by decide) fm_safe1 (fun _ _ => rfl) 32 0 y
    obtain ⟨g1, g2, g3, g4⟩ := own1_facts 27 fm_own1 (fun _ _ => rfl) 16 0 (zit fm_safe1 32 0 y)
    have hx1 : ∀ g, g ≠ 19 → g ≠ 23 → (zi (fx_shut n x) 23 0 1).1 g = x.1 g := fun g h1 h2 => by
      rw [zi_nf _ _ h2]; unfold fx_shut; rw [f3 g h1]; rfl
    have hy1 : ∀ g, g ≠ 27 → g ≠ 25 → (zi (zit fm_own1 16 0 (zit fm_safe1 32 0 y)) 25 0 1).1 g = y.1 g := fun g h1 h2 => by
      rw [zi_nf _ _ h2, g3 g h1, s4]
    have hx2 : ∀ g, g ≠ 2 → (zi (fx_shut n x) 23 0 1).2 g = x.2 g := fun g h1 => by
      show (fx_shut n x).2 g = x.2 g
      unfold fx_shut
      rw [f4]
      funext j
      exact if_neg h1
    have hy2 : ∀ g, g ≠ 5 → (zi (zit fm_own1 16 0 (zit fm_safe1 32 0 y)) 25 0 1).2 g = y.2 g := fun g h1 => by
      show (zit fm_own1 16 0 (zit fm_safe1 32 0 y)).2 g = y.2 g
      rw [g4]; exact s3 g h1
    refine ⟨?_, ?_, ?_, ?_, ⟨?_, ?_, c3, ?_, ?_, ?_, ?_, ?_⟩, ?_, ?_, ?_⟩
    · unfold REnt
      rw [hx1 12 (by decide) (by decide), hy1 34 (by decide) (by decide), hx1 8 (by decide) (by decide), hx1 9 (by decide) (by decide), hx1 10 (by decide) (by decide), hx1 11 (by decide) (by decide), hy1 30 (by decide) (by decide), hy1 31 (by decide) (by decide), hy1 32 (by decide) (by decide), hy1 33 (by decide) (by decide), hx2 0 (by decide), hy2 8 (by decide)]
      exact a1
    · unfold IEnt
      rw [hx1 8 (by decide) (by decide), hx1 9 (by decide) (by decide), hx1 10 (by decide) (by decide), hx1 11 (by decide) (by decide)]
      exact a2
    · unfold IThr
      rw [hx1 8 (by decide) (by decide), hx1 9 (by decide) (by decide), hx1 10 (by decide) (by decide)]
      exact a3
    · unfold RUnit RMode
      rw [hx1 0 (by decide) (by decide), hx1 1 (by decide) (by decide), hx1 2 (by decide) (by decide), hx1 3 (by decide) (by decide), hx1 9 (by decide) (by decide), hx1 10 (by decide) (by decide), hy1 35 (by decide) (by decide), hy1 36 (by decide) (by decide), hy1 37 (by decide) (by decide)]
      exact a4
    · rw [hx1 21 (by decide) (by decide)]; exact c1
    · rw [hy1 26 (by decide) (by decide)]; exact c2
    · intro w hw
      rw [zi_nf _ _ (by decide), zi_nf _ _ (by decide), g1 w (by omega) (by omega)]
      exact f1 w (by omega) (by omega)
    · rw [hx1 20 (by decide) (by decide), hy1 28 (by decide) (by decide)]; exact c5
    · intro k hk
      show (fx_shut n x).2 2 k = (zit fm_own1 16 0 (zit fm_safe1 32 0 y)).2 5 k
      unfold fx_shut
      rw [f4, g4, s1 k (by omega) (by omega)]
      show (if 2 = 2 then va_cpy (x.2 3) (x.2 2) 0 0 (n * 4) k else x.2 2 k) = _
      rw [if_pos rfl, pk_cpy_in (by omega) (by omega), Nat.zero_add, Nat.sub_zero]
      exact c7 k hk
    · rw [hx2 3 (by decide), hy2 6 (by decide)]; exact c7
    · rw [hx2 4 (by decide), hy2 7 (by decide)]; exact c8
    · unfold RBar
      rw [hx1 22 (by decide) (by decide), hy1 29 (by decide) (by decide)]; exact a6
    · unfold RTurn
      rw [hx1 18 (by decide) (by decide), hx1 15 (by decide) (by decide), hx1 16 (by decide) (by decide), hx1 17 (by decide) (by decide), hy1 41 (by decide) (by decide), hy1 38 (by decide) (by decide), hy1 39 (by decide) (by decide), hy1 40 (by decide) (by decide)]
      exact a7
    · exact ⟨by rw [zi_eq, zi_eq], Or.inr (zi_eq _ _ _ _)⟩
  · rw [if_neg q, if_neg q]
    have hx : x.1 23 0 = 1 := by
      rcases a8.2 with z | z
      · exact absurd z q
      · exact z
    refine ⟨a1, a2, a3, a4, ⟨c1, c2, c3, c4, c5, c6, c7, c8⟩, a6, a7, ?_⟩
    exact ⟨by rw [zi_eq]; exact hx, a8.2⟩
/-! a new entry -/
theorem op_tell {n E b t u : Nat} {x y : zS} {kd c d : Int32} {v : Int64} (h : Rl n E b t x y) (hn : n ≤ 8) (hu : u < n) (hE : E < 300) (hc : zin c 201) (hk0 : kd = 0 → zin d (n * 4) ∧ tn d / 4 = u) (hk1 : kd = 1 → zin d 16) (hk2 : kd = 2 → d = 0 ∧ ∀ e, e < E → x.1 8 e = 2 → x.1 9 e = nI u → ¬ x.1 10 e = c) :
    Rl n (E + 1) b t (fx_tell x E kd u c d v) (fm_add y E kd (nI u) c d v) := by
  obtain ⟨⟨e1, e2, e3, e4⟩, a2, a3, a4, a5, a6, a7, a8⟩ := h
  have X : ∀ e, (fx_tell x E kd u c d v).1 8 e = (if e = E then kd else x.1 8 e) ∧ (fx_tell x E kd u c d v).1 9 e = (if e = E then nI u else x.1 9 e) ∧ (fx_tell x E kd u c d v).1 10 e = (if e = E then c else x.1 10 e) ∧ (fx_tell x E kd u c d v).1 11 e = (if e = E then d else x.1 11 e) := by
    intro e
    simp [fx_tell, fx_add, zi, zl]
  refine ⟨⟨rfl, rfl, by omega, ?_⟩, ?_, ?_, ?_, a5, a6, a7, a8⟩
  · intro e he
    by_cases q : e = E
    · subst q
      simp [fx_tell, fx_add, fm_add, zi, zl]
    · obtain ⟨b1, b2, b3, b4, b5⟩ := e4 e (by omega)
      simp [fx_tell, fx_add, fm_add, zi, zl, q, b1, b2, b3, b4, b5]
  · intro e he
    obtain ⟨x1, x2, x3, x4⟩ := X e
    rw [x1, x2, x3, x4]
    by_cases q : e = E
    · rw [if_pos q, if_pos q, if_pos q, if_pos q]
      refine ⟨zin_nI hu (by omega), hc, fun z => ?_, hk1, fun z => (hk2 z).1⟩
      rw [tn_nI (by omega)]
      exact hk0 z
    · rw [if_neg q, if_neg q, if_neg q, if_neg q]
      exact a2 e (by omega)
  · intro e f he hf
    obtain ⟨x1, x2, x3, -⟩ := X e
    obtain ⟨y1, y2, y3, -⟩ := X f
    rw [x1, x2, x3, y1, y2, y3]
    intro k1 k2 k3 k4
    by_cases q : e = E
    · by_cases r : f = E
      · omega
      · rw [if_pos q] at k1 k3 k4
        rw [if_neg r] at k2 k3 k4
        exact absurd k4.symm ((hk2 k1).2 f (by omega) k2 k3.symm)
    · by_cases r : f = E
      · rw [if_neg q] at k1 k3 k4
        rw [if_pos r] at k2 k3 k4
        exact absurd k4 ((hk2 k2).2 e (by omega) k1 k3)
      · rw [if_neg q] at k1 k3 k4
        rw [if_neg r] at k2 k3 k4
        exact a3 e f (by omega) (by omega) k1 k2 k3 k4
  · intro w hw
    obtain ⟨u1, u2, u3, u4, u5⟩ := a4 w hw
    have hl : (fx_tell x E kd u c d v).1 1 w = (if w = u then (if x.1 1 u < c then c else x.1 1 u) else x.1 1 w) := by
      simp [fx_tell, fx_add, zi, zl]
    have hge : x.1 1 w ≤ (fx_tell x E kd u c d v).1 1 w := by
      rw [hl]
      by_cases q : w = u
      · subst q
        rw [if_pos rfl]
        split
        · rename_i z
          rw [Int32.le_iff_toInt_le]; have := Int32.lt_iff_toInt_lt.mp z; omega
        · exact Int32.le_refl _
      · rw [if_neg q]; exact Int32.le_refl _
    refine ⟨u1, u2, ?_, ?_, ?_⟩
    · intro e he hq
      obtain ⟨-, x2, x3, -⟩ := X e
      rw [x2] at hq
      rw [x3]
      by_cases q : e = E
      · rw [if_pos q] at hq ⊢
        have hw2 : w = u := ((nI_eq (a := u) (b := w) (by omega) (by omega)).mp hq).symm
        subst hw2
        rw [hl, if_pos rfl]
        split
        · exact Int32.le_refl _
        · rename_i z
          rw [Int32.le_iff_toInt_le]
          rw [Int32.lt_iff_toInt_lt] at z
          omega
      · rw [if_neg q] at hq ⊢
        have := u3 e (by omega) hq
        rw [Int32.le_iff_toInt_le] at this hge ⊢
        omega
    · rw [hl]
      by_cases q : w = u
      · subst q
        rw [if_pos rfl]
        split
        · exact Or.inr ⟨E, by omega, by rw [(X E).2.1, if_pos rfl], by rw [(X E).2.2.1, if_pos rfl]⟩
        · rcases u4 with z | ⟨e, he, z1, z2⟩
          · exact Or.inl z
          · exact Or.inr ⟨e, by omega, by rw [(X e).2.1, if_neg (by omega)]; exact z1, by rw [(X e).2.2.1, if_neg (by omega)]; exact z2⟩
      · rw [if_neg q]
        rcases u4 with z | ⟨e, he, z1, z2⟩
        · exact Or.inl z
        · exact Or.inr ⟨e, by omega, by rw [(X e).2.1, if_neg (by omega)]; exact z1, by rw [(X e).2.2.1, if_neg (by omega)]; exact z2⟩
    · rcases u5 with z | z | ⟨m1, m2, m3, m4, m5⟩
      · exact Or.inl z
      · exact Or.inr (Or.inl z)
      · refine Or.inr (Or.inr ⟨m1, m2, m3, m4, ?_⟩)
        show x.1 0 w ≤ _
        rw [Int32.le_iff_toInt_le] at m5 hge ⊢
        omega
theorem find_eq {x y : zS} {a b c d d2 : Int32} {E : Nat} (h : ∀ e, e < E → ((x.1 8 e = a ∧ x.1 9 e = b ∧ x.1 10 e = c ∧ x.1 11 e = d) ↔ (y.1 30 e = a ∧ y.1 31 e = b ∧ y.1 32 e = c ∧ (d2 = -1 ∨ y.1 33 e = d2)))) : ∀ (m k : Nat), k + m = E → fx_find x a b c d m k = fm_find y a b c d2 m k
  | 0, _, _ => rfl
  | m + 1, k, hk => by
    unfold fx_find fm_find
    rw [find_eq h m (k + 1) (by omega)]
    have := h k (by omega)
    by_cases q : x.1 8 k = a ∧ x.1 9 k = b ∧ x.1 10 k = c ∧ x.1 11 k = d
    · rw [if_pos q, if_pos (this.mp q)]
    · rw [if_neg q, if_neg (fun z => q (this.mpr z))]
theorem find_neg {y : zS} {a b c d : Int32} {E : Nat} (hE : E ≤ 300) : fm_find y a b c d E 0 = -1 ↔ fm_find y a b c d E 0 < 0 := by
  constructor
  · intro q; rw [q]; decide
  · intro q
    rcases fm_find_in y a b c d E 0 (by omega) with z | z
    · exact z
    · rw [z.1] at q
      have h2 := z.2
      exact absurd q (nI_pos (by omega))
theorem fx_find_none {x : zS} {a b c d : Int32} : ∀ (m k : Nat), k + m < 2 ^ 31 → fx_find x a b c d m k = -1 → ∀ e, k ≤ e → e < k + m → ¬ (x.1 8 e = a ∧ x.1 9 e = b ∧ x.1 10 e = c ∧ x.1 11 e = d)
  | 0, _, _, _, e, h1, h2 => absurd h2 (by omega)
  | m + 1, k, hk, h, e, h1, h2 => by
    unfold fx_find at h
    by_cases q : x.1 8 k = a ∧ x.1 9 k = b ∧ x.1 10 k = c ∧ x.1 11 k = d
    · rw [if_pos q] at h
      have := congrArg Int32.toInt h
      rw [nI_toInt (by omega), show (-1 : Int32).toInt = -1 from by decide] at this
      omega
    · rw [if_neg q] at h
      by_cases z : e = k
      · subst z; exact q
      · exact fx_find_none m (k + 1) (by omega) h e (by omega) (by omega)
theorem sec2_in (b : Int32) : (¬ b < 0 ∧ ¬ 200 < b) ↔ fm_in b 0 200 = true := by
  simp only [fm_in, Bool.and_eq_true, Bool.not_eq_true', decide_eq_false_iff_not]
theorem takes_eq {n E b t : Nat} {x y : zS} (h : Rl n E b t x y) (h0 : 1 ≤ n) (hn : n ≤ 8) (p q : Int32) : fx_takes n x p q = (fm_isUnit n p && (fm_in q 0 200 && fm_isOpen y (tn p) q)) := by
  rw [Bool.eq_iff_iff]
  unfold fx_takes fm_isOpen
  simp only [Bool.and_eq_true, decide_eq_true_eq]
  rw [← isUnit_eq h0 hn, ← sec2_in, h.1.1, h.1.2.1, ← h.2.2.2.2.2.2.2.1]
  constructor
  · rintro ⟨h1, h2, h3, h4, h5, h6⟩
    refine ⟨h1, ⟨h2, h3⟩, h4, ?_, h6⟩
    rw [← (h.2.2.2.1 _ (fx_isUnit_in h1 hn).2).1]
    exact h5
  · rintro ⟨h1, ⟨h2, h3⟩, h4, h5, h6⟩
    refine ⟨h1, h2, h3, h4, ?_, h6⟩
    rw [(h.2.2.2.1 _ (fx_isUnit_in h1 hn).2).1]
    exact h5
theorem isOut_eq {u : Nat} (hu : u < 8) (c : Int32) : fx_isOut (nI u) c = fm_in c (4 * nI u) (4 * nI u + 3) := by
  rw [show (4 : Int32) * nI u = nI (4 * u) from pk_mul 4 u, show nI (4 * u) + 3 = nI (4 * u + 3) from nI_add _ 3]
  rw [Bool.eq_iff_iff]
  simp only [fx_isOut, fm_in, Bool.and_eq_true, Bool.not_eq_true', decide_eq_false_iff_not, decide_eq_true_eq]
  by_cases h : c < 0
  · constructor
    · exact fun z => absurd h z.1
    · intro z
      exfalso
      apply z.1
      rw [Int32.lt_iff_toInt_lt] at h ⊢
      rw [nI_toInt (by omega)]
      rw [show (0 : Int32).toInt = 0 from by decide] at h
      omega
  · obtain ⟨j, hj, rfl⟩ := nI_of h
    rw [show nI j / 4 = nI (j / 4) from pk_div (d := 4) hj (by omega) (by omega), nI_eq (by omega) (by omega), nI_ltI hj (by omega), nI_ltI (by omega) hj]
    constructor
    · rintro ⟨-, q⟩; omega
    · intro q; exact ⟨h, by omega⟩
theorem op_stepB {n E b t : Nat} {x y : zS} (h : Rl n E b t x y) (h0 : 1 ≤ n) (hn : n ≤ 8) (p q r : Int32) : fx_stepB n x p q r = fm_stepB n y p q r := by
  unfold fx_stepB fm_stepB
  rw [takes_eq h h0 hn]
  by_cases h1 : fm_isUnit n p = true
  · have hp := fm_isUnit_in h1 hn
    have : fx_isOut p r = fm_in r (4 * p) (4 * p + 3) := by
      rw [hp.1]
      exact isOut_eq (by omega) r
    rw [this]
    cases fm_isUnit n p <;> cases fm_in q 0 200 <;> cases fm_in r (4 * p) (4 * p + 3) <;> cases fm_isOpen y (tn p) q <;> rfl
  · have h2 : fm_isUnit n p = false := by cases e : fm_isUnit n p with
      | true => exact absurd e h1
      | false => rfl
    rw [h2]; rfl
theorem op_stepS {n E b t : Nat} {x y : zS} (h : Rl n E b t x y) (h0 : 1 ≤ n) (hn : n ≤ 8) (p q r : Int32) (v : Int64) : Rl n (if fx_stepB n x p q r = true then E + 1 else E) b t (fx_stepS n E x p q r v) (fm_stepS n E y p q r v) := by
  have hB := op_stepB h h0 hn p q r
  unfold fx_stepS fm_stepS
  rw [← hB]
  by_cases hc : fx_stepB n x p q r = true
  · rw [if_pos hc, if_pos hc, if_pos hc]
    have hc2 := hc
    unfold fx_stepB at hc2
    simp only [Bool.and_eq_true] at hc2
    have hu := fx_takes_in hc2.1 hn
    have hlt := fx_takes_lt hc2.1 h.1.1 h.1.2.2.1
    obtain ⟨-, q1, q2, -⟩ := of_decide_eq_true hc2.1
    have hq := fm_in_nat (N := 200) ((sec2_in q).mp ⟨q1, q2⟩) (by omega)
    have hr : zin r (n * 4) ∧ tn r / 4 = tn p := by
      have z := hc2.2
      rw [hu.1] at z
      simp only [fx_isOut, Bool.and_eq_true, Bool.not_eq_true', decide_eq_false_iff_not, decide_eq_true_eq] at z
      obtain ⟨j, hj, rfl⟩ := nI_of z.1
      have z2 := z.2
      rw [show nI j / 4 = nI (j / 4) from pk_div (d := 4) hj (by omega) (by omega), nI_eq (by omega) (by omega)] at z2
      have := hu.2
      refine ⟨zin_nI (by omega) (by omega), ?_⟩
      rw [tn_nI hj]
      exact z2
    have hres := op_tell (kd := 0) (c := q) (d := r) (v := v) h hn hu.2 hlt ⟨hq.1, by omega⟩ (fun _ => hr) (fun z => absurd z (by decide)) (fun z => absurd z (by decide))
    rw [show fm_add y E 0 p q r v = fm_add y E 0 (nI (tn p)) q r v by rw [← hu.1]]
    exact hres
  · rw [if_neg hc, if_neg hc, if_neg hc]; exact h
theorem op_asksB {n E b t : Nat} {x y : zS} (h : Rl n E b t x y) (h0 : 1 ≤ n) (hn : n ≤ 8) (p q r : Int32) : fx_asksB n E x p q r = fm_asksB n E y p q r := by
  unfold fx_asksB fm_asksB
  rw [takes_eq h h0 hn, isWay_eq]
  by_cases h1 : fm_in r 0 15 = true
  · have hr := fm_in_nat (N := 15) h1 (by omega)
    have hne : ¬ r = -1 := by
      intro z
      rw [z] at hr
      exact absurd hr.1 (by decide)
    have hf : fx_find x 1 p q r E 0 = fm_find y 1 p q r E 0 := find_eq (d2 := r) (fun e he => by
      obtain ⟨c1, c2, c3, c4, -⟩ := h.1.2.2.2 e he
      rw [c1, c2, c3, c4]
      constructor
      · rintro ⟨z1, z2, z3, z4⟩; exact ⟨z1, z2, z3, Or.inr z4⟩
      · rintro ⟨z1, z2, z3, z4⟩
        rcases z4 with z4 | z4
        · exact absurd z4 hne
        · exact ⟨z1, z2, z3, z4⟩) E 0 (by omega)
    rw [hf, decide_eq_decide.mpr (find_neg h.1.2.2.1)]
    cases fm_isUnit n p <;> cases fm_in q 0 200 <;> cases fm_in r 0 15 <;> cases fm_isOpen y (tn p) q <;> rfl
  · have h2 : fm_in r 0 15 = false := by cases e : fm_in r 0 15 with
      | true => exact absurd e h1
      | false => rfl
    rw [h2]
    cases fm_isUnit n p <;> cases fm_in q 0 200 <;> cases fm_isOpen y (tn p) q <;> rfl
theorem op_asksS {n E b t : Nat} {x y : zS} (h : Rl n E b t x y) (h0 : 1 ≤ n) (hn : n ≤ 8) (p q r : Int32) : Rl n (if fx_asksB n E x p q r = true then E + 1 else E) b t (fx_asksS n E x p q r) (fm_asksS n E y p q r) := by
  have hB := op_asksB h h0 hn p q r
  unfold fx_asksS fm_asksS
  rw [← hB]
  by_cases hc : fx_asksB n E x p q r = true
  · rw [if_pos hc, if_pos hc, if_pos hc]
    have hc2 := hc
    unfold fx_asksB at hc2
    simp only [Bool.and_eq_true] at hc2
    have hu := fx_takes_in hc2.1 hn
    have hlt := fx_takes_lt hc2.1 h.1.1 h.1.2.2.1
    obtain ⟨-, q1, q2, -⟩ := of_decide_eq_true hc2.1
    have hq := fm_in_nat (N := 200) ((sec2_in q).mp ⟨q1, q2⟩) (by omega)
    have hres := op_tell (kd := 1) (c := q) (d := r) (v := 0) h hn hu.2 hlt ⟨hq.1, by omega⟩ (fun z => absurd z (by decide)) (fun _ => fx_isWay_in hc2.2.1) (fun z => absurd z (by decide))
    rw [show fm_add y E 1 p q r 0 = fm_add y E 1 (nI (tn p)) q r 0 by rw [← hu.1]]
    exact hres
  · rw [if_neg hc, if_neg hc, if_neg hc]; exact h
theorem op_throwB {n E b t : Nat} {x y : zS} (h : Rl n E b t x y) (h0 : 1 ≤ n) (hn : n ≤ 8) (p q : Int32) : fx_throwB n E x p q = fm_throwB n E y p q := by
  unfold fx_throwB fm_throwB
  rw [takes_eq h h0 hn]
  have hf : fx_find x 2 p q 0 E 0 = fm_find y 2 p q (-1) E 0 := find_eq (d2 := -1) (fun e he => by
    obtain ⟨c1, c2, c3, c4, -⟩ := h.1.2.2.2 e he
    have hz := (h.2.1 e he).2.2.2.2
    rw [← c1, ← c2, ← c3]
    constructor
    · rintro ⟨z1, z2, z3, z4⟩; exact ⟨z1, z2, z3, Or.inl rfl⟩
    · rintro ⟨z1, z2, z3, z4⟩; exact ⟨z1, z2, z3, hz z1⟩) E 0 (by omega)
  rw [hf, decide_eq_decide.mpr (find_neg h.1.2.2.1)]
  cases fm_isUnit n p <;> cases fm_in q 0 200 <;> cases fm_isOpen y (tn p) q <;> rfl
theorem op_throwS {n E b t : Nat} {x y : zS} (h : Rl n E b t x y) (h0 : 1 ≤ n) (hn : n ≤ 8) (p q : Int32) : Rl n (if fx_throwB n E x p q = true then E + 1 else E) b t (fx_throwS n E x p q) (fm_throwS n E y p q) := by
  have hB := op_throwB h h0 hn p q
  unfold fx_throwS fm_throwS
  rw [← hB]
  by_cases hc : fx_throwB n E x p q = true
  · rw [if_pos hc, if_pos hc, if_pos hc]
    have hc2 := hc
    unfold fx_throwB at hc2
    simp only [Bool.and_eq_true, decide_eq_true_eq] at hc2
    have hu := fx_takes_in hc2.1 hn
    have hlt := fx_takes_lt hc2.1 h.1.1 h.1.2.2.1
    obtain ⟨-, q1, q2, -⟩ := of_decide_eq_true hc2.1
    have hq := fm_in_nat (N := 200) ((sec2_in q).mp ⟨q1, q2⟩) (by omega)
    have hno := fx_find_none E 0 (by omega) hc2.2
    have hres := op_tell (kd := 2) (c := q) (d := 0) (v := 0) h hn hu.2 hlt ⟨hq.1, by omega⟩ (fun z => absurd z (by decide)) (fun z => absurd z (by decide)) (fun _ => ⟨rfl, fun e he z1 z2 z3 => hno e (by omega) (by omega) ⟨z1, z2.trans hu.1.symm, z3, (h.2.1 e he).2.2.2.2 z1⟩⟩)
    rw [show fm_add y E 2 p q 0 0 = fm_add y E 2 (nI (tn p)) q 0 0 by rw [← hu.1]]
    exact hres
  · rw [if_neg hc, if_neg hc, if_neg hc]; exact h
