/-! the order of a second -/
theorem acts_congr {σ τ : zS} (h0 : τ.1 0 = σ.1 0) (h1 : τ.1 1 = σ.1 1) (h2 : τ.1 2 = σ.1 2) (u : Nat) : fx_acts τ u = fx_acts σ u := by
  unfold fx_acts fx_ended
  rw [h0, h1, h2]
theorem gather_sel {n : Nat} (hn : n ≤ 8) (σ : zS) : (∀ g, g ∉ [13, 14] → (fx_gather n σ).1 g = σ.1 g) ∧ (fx_gather n σ).2 = σ.2 ∧ (fx_gather n σ).1 14 0 = nI (gp (fx_acts σ) n) ∧ ∀ i, i < gp (fx_acts σ) n → ∃ u, u < n ∧ (fx_gather n σ).1 13 i = nI u ∧ fx_acts σ u = true ∧ gp (fx_acts σ) u = i := by
  refine zit_inv (step := fx_gather1) (e := n) (fun k τ => (∀ g, g ∉ [13, 14] → τ.1 g = σ.1 g) ∧ τ.2 = σ.2 ∧ τ.1 14 0 = nI (gp (fx_acts σ) k) ∧ ∀ i, i < gp (fx_acts σ) k → ∃ u, u < k ∧ τ.1 13 i = nI u ∧ fx_acts σ u = true ∧ gp (fx_acts σ) u = i) ?_ n 0 (zi σ 14 0 0) (by omega) ⟨fun g hg => zi_nf _ _ (fun z => hg (by rw [z]; decide)), rfl, rfl, fun i h => absurd h (Nat.not_lt_zero i)⟩
  intro k τ hk ⟨h1, h2, h3, h4⟩
  have hle := gp_le (fx_acts σ) k
  have ha : fx_acts τ k = fx_acts σ k := acts_congr (h1 0 (by decide)) (h1 1 (by decide)) (h1 2 (by decide)) k
  have hg : gp (fx_acts σ) (k + 1) = gp (fx_acts σ) k + (if fx_acts σ k = true then 1 else 0) := rfl
  unfold fx_gather1
  rw [ha, h3, tn_nI (by omega), hg]
  by_cases q : fx_acts σ k = true
  · rw [if_pos q, if_pos q]
    refine ⟨fun g hgg => ?_, h2, ?_, fun i hi => ?_⟩
    · rw [zi_nf _ _ (fun z => hgg (by rw [z]; decide)), zi_nf _ _ (fun z => hgg (by rw [z]; decide))]; exact h1 g hgg
    · rw [zi_eq, nI_1]
    · rw [zi_nf _ _ (by decide)]
      by_cases e : i = gp (fx_acts σ) k
      · subst e
        rw [zi_eq]
        exact ⟨k, by omega, rfl, q, rfl⟩
      · rw [zi_ni _ _ e]
        obtain ⟨u, u1, u2⟩ := h4 i (by omega)
        exact ⟨u, by omega, u2⟩
  · rw [if_neg q, if_neg q]
    refine ⟨h1, h2, h3, fun i hi => ?_⟩
    obtain ⟨u, u1, u2⟩ := h4 i (by omega)
    exact ⟨u, by omega, u2⟩
theorem shift_at : ∀ (c i : Nat) (σ : zS), c ≤ i → ∀ j, (fx_shift c i σ).1 13 j = if i - c < j ∧ j ≤ i then σ.1 13 (j - 1) else σ.1 13 j
  | 0, i, σ, _, j => by rw [if_neg (by omega)]; rfl
  | c + 1, i, σ, h, j => by
    show (fx_shift c (i - 1) (zi σ 13 i (σ.1 13 (i - 1)))).1 13 j = _
    rw [shift_at c (i - 1) _ (by omega) j]
    by_cases q : i - 1 - c < j ∧ j ≤ i - 1
    · rw [if_pos q, if_pos (by omega), zi_ni _ _ (by omega)]
    · rw [if_neg q]
      by_cases e : j = i
      · subst e
        rw [zi_eq, if_pos (by omega)]
      · rw [zi_ni _ _ e, if_neg (by omega)]
theorem shift_2 : ∀ (c i : Nat) (σ : zS), (fx_shift c i σ).2 = σ.2
  | 0, _, _ => rfl
  | c + 1, i, σ => shift_2 c (i - 1) _
theorem move_2 (σ : zS) (f t : Nat) : (fx_move σ f t).2 = σ.2 := shift_2 (f - t) f σ
theorem move_at (σ : zS) {f t : Nat} (ht : t ≤ f) (j : Nat) : (fx_move σ f t).1 13 j = if j = t then σ.1 13 f else if t < j ∧ j ≤ f then σ.1 13 (j - 1) else σ.1 13 j := by
  unfold fx_move
  by_cases e : j = t
  · subst e; rw [zi_eq, if_pos rfl]
  · rw [zi_ni _ _ e, if_neg e, shift_at _ _ _ (by omega)]
    rw [show f - (f - t) = t by omega]
def lf (y : zS) (v : Nat) : Bool := !decide (y.1 43 v = 0)
theorem cl_gp (y : zS) : ∀ (c k : Nat), fm_cl y c k + gp (lf y) k = gp (lf y) (k + c)
  | 0, k => by rw [Nat.add_zero]; exact Nat.zero_add _
  | c + 1, k => by
    have ih := cl_gp y c (k + 1)
    have e : gp (lf y) (k + 1) = gp (lf y) k + (if lf y k = true then 1 else 0) := rfl
    rw [show k + (c + 1) = k + 1 + c by omega, ← ih, e]
    show (if y.1 43 k = 0 then 0 else 1) + fm_cl y c (k + 1) + gp (lf y) k = _
    unfold lf
    by_cases q : y.1 43 k = 0
    · rw [if_pos q, decide_eq_true q]; simp; 
    · rw [if_neg q, decide_eq_false q]; simp; omega
theorem who_gp (y : zS) : ∀ (c k q : Nat), q < fm_cl y c k → lf y (fm_who y c k q) = true ∧ gp (lf y) (fm_who y c k q) = gp (lf y) k + q
  | 0, _, _, h => absurd h (Nat.not_lt_zero _)
  | c + 1, k, q, h => by
    have e : gp (lf y) (k + 1) = gp (lf y) k + (if lf y k = true then 1 else 0) := rfl
    by_cases hc : ¬ y.1 43 k = 0 ∧ q ≤ 0
    · have ew : fm_who y (c + 1) k q = k := if_pos hc
      rw [ew]
      exact ⟨by unfold lf; rw [decide_eq_false hc.1]; rfl, by omega⟩
    · have ew : fm_who y (c + 1) k q = fm_who y c (k + 1) (if y.1 43 k = 0 then q else q - 1) := if_neg hc
      have h : q < (if y.1 43 k = 0 then 0 else 1) + fm_cl y c (k + 1) := h
      rw [ew]
      by_cases z : y.1 43 k = 0
      · rw [if_pos z] at h ⊢
        obtain ⟨i1, i2⟩ := who_gp y c (k + 1) q (by omega)
        refine ⟨i1, ?_⟩
        rw [i2, e, show lf y k = false by unfold lf; rw [decide_eq_true z]; rfl]
        simp
      · rw [if_neg z] at h ⊢
        have : ¬ q ≤ 0 := fun w => hc ⟨z, w⟩
        obtain ⟨i1, i2⟩ := who_gp y c (k + 1) (q - 1) (by omega)
        refine ⟨i1, ?_⟩
        rw [i2, e, show lf y k = true by unfold lf; rw [decide_eq_false z]; rfl, if_pos rfl]
        omega
def Ord (n k m : Nat) (x y : zS) : Prop := gp (lf y) n = m ∧ ∀ i, i < m → ∃ u, u < n ∧ x.1 13 (k + i) = nI u ∧ lf y u = true ∧ gp (lf y) u = i
theorem Ord_step {n k m q : Nat} {x y x2 y2 : zS} (h : Ord n k (m + 1) x y) (hq : q < m + 1) (hx : x2.1 13 = x.1 13) (hy : y2.1 43 = (zi y 43 (fm_who y n 0 q) 0).1 43) : fm_who y n 0 q < n ∧ lf y (fm_who y n 0 q) = true ∧ x.1 13 (k + q) = nI (fm_who y n 0 q) ∧ Ord n (k + 1) m (fx_move x2 (k + q) k) y2 := by
  obtain ⟨h1, h2⟩ := h
  have hcl : fm_cl y n 0 = m + 1 := by
    have := cl_gp y n 0
    rw [Nat.zero_add] at this
    have z : gp (lf y) 0 = 0 := rfl
    omega
  obtain ⟨w1, w2⟩ := who_gp y n 0 q (by omega)
  have w3 := (fm_who_in y n 0 q (by omega)).2
  rw [Nat.zero_add] at w3
  have z0 : gp (lf y) 0 = 0 := rfl
  rw [z0, Nat.zero_add] at w2
  generalize fm_who y n 0 q = a at *
  obtain ⟨u, u1, u2, u3, u4⟩ := h2 q hq
  have hua : u = a := gp_inj (lf y) u3 w1 (by omega)
  subst hua
  have hlf : ∀ i, lf y2 i = (lf y i && !decide (i = u)) := by
    intro i
    unfold lf
    rw [hy]
    by_cases e : i = u
    · subst e; rw [zi_eq]; simp
    · rw [zi_ni _ _ e, decide_eq_false e]; simp
  have hout := gp_out w1 hlf
  refine ⟨w3, w1, u2, ?_, fun i hi => ?_⟩
  · have := hout n
    rw [if_pos u1] at this
    omega
  · rw [move_at _ (by omega), if_neg (by omega), hx]
    by_cases c : i < q
    · rw [if_pos (by omega)]
      obtain ⟨v, v1, v2, v3, v4⟩ := h2 i (by omega)
      have hvu : v < u := by
        rcases Nat.lt_trichotomy v u with z | z | z
        · exact z
        · subst z; omega
        · have := gp_lt (lf y) w1 z; omega
      refine ⟨v, v1, by rw [show k + 1 + i - 1 = k + i by omega]; exact v2, ?_, ?_⟩
      · rw [hlf, v3, decide_eq_false (by omega)]; rfl
      · have := hout v
        rw [if_neg (by omega)] at this
        omega
    · rw [if_neg (by omega)]
      obtain ⟨v, v1, v2, v3, v4⟩ := h2 (i + 1) (by omega)
      have hvu : u < v := by
        rcases Nat.lt_trichotomy v u with z | z | z
        · have := gp_lt (lf y) v3 z; omega
        · subst z; omega
        · exact z
      refine ⟨v, v1, by rw [show k + 1 + i = k + (i + 1) by omega]; exact v2, ?_, ?_⟩
      · rw [hlf, v3, decide_eq_false (by omega)]; rfl
      · have := hout v
        rw [if_pos (by omega)] at this
        omega
theorem turn39 (σ : zS) (E t u j : Nat) : (fm_turn σ E t u).1 39 j = if j = t then nI u else σ.1 39 j := by
  have e : (fm_turn σ E t u).1 39 = (fm_turn0 σ t u).1 39 := by
    unfold fm_turn
    split
    · refine (zit_k1 (step := fm_ask1 u E) (fun k τ => ?_) E 0 _).trans rfl
      unfold fm_ask1
      split
      · exact zi_nf _ _ (by decide)
      · rfl
    · rfl
  rw [e]
  unfold fm_turn0
  rw [zi_nf _ _ (by decide), zi_nf _ _ (by decide)]
  by_cases q : j = t
  · subst q; rw [zi_eq, if_pos rfl]
  · rw [zi_ni _ _ q, if_neg q]; rfl
theorem next39 (n E t m : Nat) (g : Int64) (y : zS) {u : Nat} (hu : fm_who y n 0 (tn (fx_pick (fx_lcg g) m)) = u) (j : Nat) : (fm_next n E t m g y).1 39 j = if j = t then nI u else y.1 39 j := by
  unfold fm_next
  rw [hu, turn39, zi_nf _ _ (by decide)]
theorem draw_eq {n E N : Nat} (hN : N ≤ 8) (hn : n ≤ 8) : ∀ (m k t : Nat) (g : Int64) (x y : zS), k + m = N → Ord n k m x y → x.2 1 0 = g →
    (zit (fx_draw1 N) m k x).2 1 0 = (fm_draw n E m t g y).1 ∧ (∀ i, k ≤ i → i < N → (zit (fx_draw1 N) m k x).1 13 i = (fm_draw n E m t g y).2.1 39 (t + (i - k))) ∧ (∀ i, i < k → (zit (fx_draw1 N) m k x).1 13 i = x.1 13 i) ∧ (∀ j, j < t → (fm_draw n E m t g y).2.1 39 j = y.1 39 j) ∧ (∀ i, k ≤ i → i < N → ∃ u, u < n ∧ (zit (fx_draw1 N) m k x).1 13 i = nI u ∧ lf y u = true) ∧ ∀ u, u < n → lf y u = true → ∃ i, k ≤ i ∧ i < N ∧ (zit (fx_draw1 N) m k x).1 13 i = nI u := by
  intro m
  induction m with
  | zero =>
    intro k t g x y hk hO hg
    refine ⟨hg, fun i h1 h2 => absurd h2 (by omega), fun _ _ => rfl, fun _ _ => rfl, fun i h1 h2 => absurd h2 (by omega), fun u hu hl => ?_⟩
    have h1 := hO.1
    have h2 := gp_lt (lf y) hl hu
    omega
  | succ m ih =>
    intro k t g x y hk hO hg
    have hp := fx_pick_in (fx_lcg g) (r := m + 1) (by omega) (by omega)
    obtain ⟨w1, w2, w3, w4⟩ := Ord_step (x2 := zl x 1 0 (fx_lcg g)) (y2 := fm_next n E t (m + 1) g y) hO hp.2 rfl (km_turn (by decide) _ _ _ _)
    have hstep : fx_draw1 N k x = fx_move (zl x 1 0 (fx_lcg g)) (k + tn (fx_pick (fx_lcg g) (m + 1))) k := by
      unfold fx_draw1
      rw [hg, show N - k = m + 1 by omega]
    have hg2 : (fx_move (zl x 1 0 (fx_lcg g)) (k + tn (fx_pick (fx_lcg g) (m + 1))) k).2 1 0 = fx_lcg g := by
      rw [move_2, zl_eq]
    obtain ⟨i1, i2, i3, i4, i5, i6⟩ := ih (k + 1) (t + 1) (fx_lcg g) (fx_move (zl x 1 0 (fx_lcg g)) (k + tn (fx_pick (fx_lcg g) (m + 1))) k) (fm_next n E t (m + 1) g y) (by omega) w4 hg2
    rw [← hstep] at i1 i2 i3 i5 i6 hg2
    have hz : zit (fx_draw1 N) (m + 1) k x = zit (fx_draw1 N) m (k + 1) (fx_draw1 N k x) := rfl
    have hd : fm_draw n E (m + 1) t g y = fm_draw n E m (t + 1) (fx_lcg g) (fm_next n E t (m + 1) g y) := rfl
    rw [hz, hd]
    obtain ⟨u, hu⟩ : ∃ u, fm_who y n 0 (tn (fx_pick (fx_lcg g) (m + 1))) = u := ⟨_, rfl⟩
    rw [hu] at w1 w2 w3
    have hk0 : (fx_draw1 N k x).1 13 k = nI u := by
      rw [hstep, move_at _ (by omega), if_pos rfl]
      exact w3
    have h39 : ∀ j, (fm_next n E t (m + 1) g y).1 39 j = if j = t then nI u else y.1 39 j := by
      exact next39 n E t (m + 1) g y hu
    have hlf : ∀ v, v ≠ u → lf (fm_next n E t (m + 1) g y) v = lf y v := by
      intro v hv
      unfold lf fm_next
      rw [hu, km_turn (by decide), zi_ni _ _ hv]
    refine ⟨i1, fun i h1 h2 => ?_, fun i hi => ?_, fun j hj => ?_, fun i h1 h2 => ?_, fun v hv hl => ?_⟩
    · by_cases e : i = k
      · subst e
        rw [i3 i (by omega), hk0, show t + (i - i) = t by omega, i4 t (by omega), h39, if_pos rfl]
      · rw [i2 i (by omega) h2, show t + 1 + (i - (k + 1)) = t + (i - k) by omega]
    · rw [i3 i (by omega), hstep, move_at _ (by omega), if_neg (by omega), if_neg (by omega)]
      rfl
    · rw [i4 j (by omega), h39, if_neg (by omega)]
    · by_cases e : i = k
      · subst e
        exact ⟨u, w1, by rw [i3 i (by omega), hk0], w2⟩
      · obtain ⟨v, v1, v2, v3⟩ := i5 i (by omega) h2
        refine ⟨v, v1, v2, ?_⟩
        by_cases z : v = u
        · subst z; exact w2
        · rw [← hlf v z]; exact v3
    · by_cases z : v = u
      · subst z
        exact ⟨k, by omega, by omega, by rw [i3 k (by omega), hk0]⟩
      · obtain ⟨i, q1, q2, q3⟩ := i6 v hv (by rw [hlf v z]; exact hl)
        exact ⟨i, by omega, q2, q3⟩
