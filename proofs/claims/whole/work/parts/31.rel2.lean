theorem going_iff {n E b t : Nat} {x y : zS} (h : Rl n E b t x y) {u : Nat} (hu : u < n) : (fx_mode x u = 0 ∨ fx_mode x u = 1) ↔ fm_goes y E u = true := by
  have he := ended_eq h hu
  obtain ⟨-, -, -, hU, -, -, -, hc⟩ := h
  obtain ⟨-, -, -, -, hm⟩ := hU u hu
  simp only [fm_goes, decide_eq_true_eq]
  rw [← he, ← hc.1]
  unfold fx_mode
  by_cases h2 : x.1 23 0 = 0
  · rw [if_pos h2]
    by_cases q : fx_ended x u = true
    · rw [if_pos q, q]
      exact ⟨fun z => by rcases z with z | z <;> exact absurd z (by decide), fun z => absurd z.2.2 (by decide)⟩
    · rw [if_neg q]
      have q2 : fx_ended x u = false := by cases e : fx_ended x u with
        | true => exact absurd e q
        | false => rfl
      rcases hm with ⟨m1, m2, m3⟩ | ⟨m1, m2, m3⟩ | ⟨m1, m2, m3, m4, m5⟩
      · exact ⟨fun _ => ⟨h2, m2, q2⟩, fun _ => Or.inl m1⟩
      · exact ⟨fun _ => ⟨h2, m2, q2⟩, fun _ => Or.inr m1⟩
      · rw [m1, m2]
        exact ⟨fun z => by rcases z with z | z <;> exact absurd z (by decide), fun z => absurd z.2.1 m3⟩
  · rw [if_neg h2]
    exact ⟨fun z => by rcases z with z | z <;> exact absurd z (by decide), fun z => absurd z.1 h2⟩
theorem acting_eq {n E b t : Nat} {x y : zS} (h : Rl n E b t x y) : ∀ (c k : Nat) (r : Int32), k + c ≤ n → fx_acting x c k r = fm_going y E c k r
  | 0, _, _, _ => rfl
  | c + 1, k, r, hk => by
    unfold fx_acting fm_going
    rw [acting_eq h c (k + 1) _ (by omega)]
    have := going_iff h (show k < n by omega)
    by_cases q : fm_goes y E k = true
    · rw [if_pos q, if_pos (this.mpr q)]
    · rw [if_neg q, if_neg (fun z => q (this.mp z)), Int32.add_zero]
theorem op_count {n E b t : Nat} {x y : zS} (h : Rl n E b t x y) (h0 : 1 ≤ n) (hn : n ≤ 8) (a : Int32) : fx_count n x a = fm_count n E y a := by
  have ha := acting_eq h n 0 0 (by omega)
  have hh := h
  obtain ⟨⟨e1, e2, -, -⟩, -, -, hU, ⟨b1, b2, -⟩, -, ⟨t1, t2, -⟩, -⟩ := h
  unfold fx_count fm_count
  by_cases h4 : fm_in a 4 (3 + nI n) = true
  · have hi := fm_cnt_in h4 hn
    have hlt : ¬ a < 4 := by
      simp only [fm_in, Bool.and_eq_true, Bool.not_eq_true', decide_eq_false_iff_not] at h4
      exact h4.1
    have hne : ∀ k : Int32, k < 4 → ¬ a = k := fun k hk q => hlt (by rw [q]; exact hk)
    have h5 : fx_isUnit n (a - 4) = true := by
      simp only [fx_isUnit, Bool.and_eq_true, Bool.not_eq_true', decide_eq_false_iff_not]
      rw [hi.1]
      exact ⟨nI_pos (by omega), nI_ge hi.2 (by omega)⟩
    rw [if_pos h4, if_neg (hne 0 (by decide)), if_neg (hne 1 (by decide)), if_neg (hne 2 (by decide)), if_neg (hne 3 (by decide)), if_pos h5]
    exact (hU _ hi.2).1
  · rw [if_neg h4, b1, b2, t1, t2, e1, e2, ha]
    by_cases q0 : a = 0
    · rw [if_pos q0, if_pos q0]
    · rw [if_neg q0, if_neg q0]
      by_cases q1 : a = 1
      · rw [if_pos q1, if_pos q1]
      · rw [if_neg q1, if_neg q1]
        by_cases q2 : a = 2
        · rw [if_pos q2, if_pos q2]
        · rw [if_neg q2, if_neg q2]
          by_cases q3 : a = 3
          · rw [if_pos q3, if_pos q3]
          · rw [if_neg q3, if_neg q3, if_neg]
            intro hc
            apply h4
            have hu := fx_isUnit_in hc hn
            generalize tn (a - 4) = j at hu
            have ea : a = nI (j + 4) := by
              have e1 : a - 4 + 4 = nI j + nI 4 := congrArg (fun v : Int32 => v + 4) hu.1
              rw [Int32.sub_add_cancel, nI_add] at e1
              exact e1
            have hj := hu.2
            rw [ea]
            simp only [fm_in, Bool.and_eq_true, Bool.not_eq_true', decide_eq_false_iff_not]
            rw [show (3 : Int32) + nI n = nI (3 + n) from nI_add 3 n]
            exact ⟨show ¬ nI (j + 4) < nI 4 from nI_nlt (by omega) (by omega), nI_nlt (by omega) (by omega)⟩
theorem and1 (z : Int32) : z &&& 1 = 0 ↔ bt z 0 = false := by
  have h1 : ∀ i, i < 32 → bt 1 i = decide (i = 0) := by decide +kernel
  constructor
  · intro h
    have e := congrArg (fun v => bt v 0) h
    simp only [b_and, b_0, h1 0 (by omega), decide_true, Bool.and_true] at e
    exact e
  · intro h
    refine b_ext (fun i hi => ?_)
    rw [b_and, b_0, h1 i hi]
    by_cases q : i = 0
    · subst q; rw [h]; rfl
    · rw [decide_eq_false q, Bool.and_false]
theorem hasWay_bt (b : Int32) {w : Nat} (hw : w < 31) : fx_hasWay b (nI w) = bt b w := by
  unfold fx_hasWay
  have e := b_sshr w (by omega) b (i := 0) (by omega)
  rw [if_pos (by omega), Nat.add_zero] at e
  have h := and1 (b >>> (nI w &&& 31))
  rw [e] at h
  cases hb : bt b w with
  | true =>
    rw [hb] at h
    rw [decide_eq_false (fun z => absurd (h.mp z) (by decide))]; rfl
  | false =>
    rw [hb] at h
    rw [decide_eq_true (h.mpr rfl)]; rfl
theorem bt_one {w i : Nat} (hw : w < 32) (hi : i < 32) : bt ((1 : Int32) <<< (nI w &&& 31)) i = decide (i = w) := by
  have h1 : ∀ i, i < 32 → bt 1 i = decide (i = 0) := by decide +kernel
  rw [b_shl w hw 1 hi, h1 (i - w) (by omega)]
  rw [Bool.eq_iff_iff]
  simp only [Bool.and_eq_true, decide_eq_true_eq]
  omega
theorem zi_ne (σ : zS) {f i g j : Nat} (v : Int32) (h : ¬ (g = f ∧ j = i)) : (zi σ f i v).1 g j = σ.1 g j := if_neg h
theorem sec_in (b : Int32) : (¬ b < 0 ∧ ¬ 64 ≤ b) ↔ fm_in b 0 63 = true := by
  simp only [fm_in, Bool.and_eq_true, Bool.not_eq_true', decide_eq_false_iff_not, Int32.le_iff_toInt_le, Int32.lt_iff_toInt_lt, show (64 : Int32).toInt = 64 from by decide, show (63 : Int32).toInt = 63 from by decide, show (0 : Int32).toInt = 0 from by decide]
  omega
theorem op_barB {n E b t : Nat} {x y : zS} (h : Rl n E b t x y) (p q : Int32) : fx_barB x p q = fm_barB y p q := by
  obtain ⟨-, -, -, -, ⟨b1, b2, -⟩, hb, -, hc⟩ := h
  unfold fx_barB fm_barB
  rw [b1, b2, ← hc.1, ← isWay_eq]
  refine decide_eq_decide.mpr ?_
  constructor
  · rintro ⟨h1, h2, h3, h4, h5, h6⟩
    have hw := fx_isWay_in h1
    have h7 := (sec_in q).mp ⟨h2, h3⟩
    have hs := fm_in_nat (N := 63) h7 (by omega)
    refine ⟨h1, h7, h4, h5, ?_⟩
    rw [hb _ _ (by omega) hw.2, ← hw.1, h6]; rfl
  · rintro ⟨h1, h2, h4, h5, h6⟩
    have hw := fx_isWay_in h1
    have hs := fm_in_nat (N := 63) h2 (by omega)
    rw [hb _ _ (by omega) hw.2, ← hw.1] at h6
    exact ⟨h1, ((sec_in q).mpr h2).1, ((sec_in q).mpr h2).2, h4, h5, zb_eq0.mp h6⟩
theorem op_barS {n E b t : Nat} {x y : zS} (h : Rl n E b t x y) (p q : Int32) : Rl n E b t (fx_barS x p q) (fm_barS y p q) := by
  have hB := op_barB h p q
  unfold fx_barS fm_barS
  rw [← hB]
  by_cases hc : fx_barB x p q = true
  · rw [if_pos hc, if_pos hc]
    obtain ⟨h1, h2, h3, -, -, -⟩ := of_decide_eq_true hc
    have hw := fx_isWay_in h1
    have hs := fm_in_nat (N := 63) ((sec_in q).mp ⟨h2, h3⟩) (by omega)
    obtain ⟨a1, a2, a3, a4, a5, a6, a7, a8⟩ := h
    refine ⟨a1, a2, a3, a4, a5, ?_, a7, a8⟩
    intro s w hs6 hw6
    by_cases e : s = tn q ∧ w = tn p
    · obtain ⟨rfl, rfl⟩ := e
      rw [zi_eq, zi_eq, hasWay_bt _ (by omega), b_or]
      rw [show p = nI (tn p) from hw.1] 
      rw [tn_nI (by omega), bt_one (by omega) (by omega), decide_eq_true rfl, Bool.or_true]; rfl
    · rw [zi_ne _ _ (fun z => e (by omega)), a6 s w hs6 hw6]
      by_cases es : s = tn q
      · subst es
        rw [zi_eq, hasWay_bt _ (by omega), hasWay_bt _ (by omega), b_or]
        rw [show p = nI (tn p) from hw.1]
        rw [bt_one (by omega) (by omega), decide_eq_false (fun z => e ⟨rfl, z⟩), Bool.or_false]
      · rw [zi_ni _ _ es]
  · rw [if_neg hc, if_neg hc]; exact h
theorem op_safeB {n E b t : Nat} {x y : zS} (h : Rl n E b t x y) (h0 : 1 ≤ n) (hn : n ≤ 8) (a : Int32) : fx_safeB n x a = fm_safeB n y a := by
  unfold fx_safeB fm_safeB
  rw [hasOut_eq h0 hn, h.2.2.2.2.2.2.2.1]
theorem op_safeS {n E b t : Nat} {x y : zS} (h : Rl n E b t x y) (h0 : 1 ≤ n) (hn : n ≤ 8) (a : Int32) (v : Int64) : Rl n E b t (fx_safeS n x a v) (fm_safeS n y a v) := by
  have hB := op_safeB h h0 hn a
  unfold fx_safeS fm_safeS
  rw [← hB]
  by_cases hc : fx_safeB n x a = true
  · rw [if_pos hc, if_pos hc]
    obtain ⟨a1, a2, a3, a4, ⟨c1, c2, c3, c4, c5, c6, c7, c8⟩, a6, a7, a8⟩ := h
    refine ⟨a1, a2, a3, a4, ⟨c1, c2, c3, c4, c5, c6, ?_, c8⟩, a6, a7, a8⟩
    intro k hk
    by_cases e : k = tn a
    · subst e; rw [zl_eq, zl_eq]
    · rw [zl_ni _ _ e, zl_ni _ _ e]; exact c7 k hk
  · rw [if_neg hc, if_neg hc]; exact h
theorem op_restB {n E b t : Nat} {x y : zS} (h : Rl n E b t x y) (h0 : 1 ≤ n) (hn : n ≤ 8) (a : Int32) : fx_restB n x a = fm_restB n y a := by
  unfold fx_restB fm_restB
  rw [Bool.eq_iff_iff]
  simp only [Bool.and_eq_true, decide_eq_true_eq]
  rw [← isUnit_eq h0 hn, ← h.2.2.2.2.2.2.2.1]
  constructor
  · rintro ⟨h1, h2⟩
    exact ⟨h1, (mode2_iff h (fx_isUnit_in h1 hn).2).mp h2⟩
  · rintro ⟨h1, h2⟩
    exact ⟨h1, (mode2_iff h (fx_isUnit_in h1 hn).2).mpr h2⟩
theorem op_restS {n E b t : Nat} {x y : zS} (h : Rl n E b t x y) (h0 : 1 ≤ n) (hn : n ≤ 8) (a : Int32) : Rl n E b t (fx_restS n x a) (fm_restS n y a) := by
  have hB := op_restB h h0 hn a
  unfold fx_restS fm_restS
  rw [← hB]
  by_cases hc : fx_restB n x a = true
  · rw [if_pos hc, if_pos hc]
    have hh := h
    unfold fx_restB at hc
    simp only [Bool.and_eq_true, decide_eq_true_eq] at hc
    have hu := fx_isUnit_in hc.1 hn
    have hm := (mode2_iff hh hu.2).mp hc.2
    obtain ⟨a1, a2, a3, a4, a5, a6, a7, a8⟩ := h
    refine ⟨a1, a2, a3, ?_, a5, a6, a7, a8⟩
    intro u hun
    obtain ⟨c1, c2, c3, c4, c5⟩ := a4 u hun
    refine ⟨c1, c2, c3, c4, ?_⟩
    by_cases e : u = tn a
    · subst e
      refine Or.inl ⟨zi_eq _ _ _ _, zi_eq _ _ _ _, ?_⟩
      rcases c5 with ⟨m1, m2, m3⟩ | ⟨m1, m2, m3⟩ | ⟨m1, m2, m3, m4, m5⟩
      · exact m3
      · exact absurd m2 hm.2
      · exact m4
    · unfold RMode
      rw [zi_ni _ _ e, zi_ni _ _ e]
      exact c5
  · rw [if_neg hc, if_neg hc]; exact h
