/-! class and reference read the entries alike -/
theorem giveN_gp (σ : zS) (e : Nat) (f : Nat → Bool) (hf : ∀ k, f k = decide (σ.1 30 k = 1 ∧ σ.1 31 k = σ.1 31 e ∧ σ.1 33 k = σ.1 33 e ∧ ¬ σ.1 32 e ≤ σ.1 32 k)) : ∀ (c k : Nat), fm_giveN σ e c k (nI (gp f k)) = nI (gp f (k + c))
  | 0, _ => rfl
  | c + 1, k => by
    unfold fm_giveN
    rw [show k + (c + 1) = k + 1 + c by omega, ← giveN_gp σ e f hf c (k + 1)]
    congr 1
    show _ = nI (gp f k + (if f k = true then 1 else 0))
    rw [hf k]
    by_cases q : σ.1 30 k = 1 ∧ σ.1 31 k = σ.1 31 e ∧ σ.1 33 k = σ.1 33 e ∧ ¬ σ.1 32 e ≤ σ.1 32 k
    · rw [if_pos q, if_pos (decide_eq_true q)]; exact nI_1 _
    · rw [if_neg q, if_neg (by rw [decide_eq_false q]; decide), Int32.add_zero]; rfl
theorem isGive_odd {n E b t : Nat} {x y : zS} (h : Rl n E b t x y) {u w e : Nat} (hu : u < n) (he : e < E) (h1 : y.1 31 e = nI u) (h2 : y.1 32 e = y.1 35 u) (h3 : y.1 33 e = nI w) : fm_isGive y E e = cOdd x E u w := by
  obtain ⟨⟨-, -, hE3, hE⟩, -, -, hU, -, -, -, -⟩ := h
  have hg := giveN_gp y e (fun k => decide (y.1 30 k = 1 ∧ y.1 31 k = y.1 31 e ∧ y.1 33 k = y.1 33 e ∧ ¬ y.1 32 e ≤ y.1 32 k)) (fun _ => rfl) E 0
  have hc : gp (fun k => decide (y.1 30 k = 1 ∧ y.1 31 k = y.1 31 e ∧ y.1 33 k = y.1 33 e ∧ ¬ y.1 32 e ≤ y.1 32 k)) E = gp (cBef x u w) E := by
    refine gp_congr E (fun i hi => ?_)
    obtain ⟨a1, a2, a3, a4, -⟩ := hE i hi
    unfold cBef
    rw [a1, a2, a3, a4, (hU u hu).1, h1, h2, h3]
  have hl := gp_le (cBef x u w) E
  rw [Nat.zero_add, hc] at hg
  have hg2 : fm_giveN y e E 0 0 = nI (gp (cBef x u w) E) := hg
  unfold fm_isGive cOdd
  rw [hg2, show (2 : Int32) = nI 2 from rfl, pk_rem (by omega) (by omega) (by omega)]
  refine decide_eq_decide.mpr ?_
  have hm := Nat.mod_lt (gp (cBef x u w) E) (show 0 < 2 by omega)
  exact nI_eq (b := 1) (by omega) (by omega)
theorem thr_iff {n E b t : Nat} {x y : zS} (h : Rl n E b t x y) {u : Nat} (hu : u < n) : mThr y E u ↔ cThr x E u := by
  obtain ⟨⟨-, -, -, hE⟩, -, -, hU, -, -, -, -⟩ := h
  unfold mThr cThr
  rw [← (hU u hu).1]
  constructor
  · rintro ⟨e, he, q⟩
    obtain ⟨a1, a2, a3, -, -⟩ := hE e he
    exact ⟨e, he, by rw [a1, a2, a3]; exact q⟩
  · rintro ⟨e, he, q⟩
    obtain ⟨a1, a2, a3, -, -⟩ := hE e he
    exact ⟨e, he, by rw [← a1, ← a2, ← a3]; exact q⟩
theorem gask_iff {n E b t : Nat} {x y : zS} (h : Rl n E b t x y) {u w : Nat} (hu : u < n) (v : Bool) : (∃ e, e < E ∧ fm_isNow y e 1 u = true ∧ fm_isGive y E e = v ∧ y.1 33 e = nI w) ↔ (cNow x E u w ∧ cOdd x E u w = v) := by
  have hh := h
  obtain ⟨⟨-, -, -, hE⟩, -, -, hU, -, -, -, -⟩ := h
  constructor
  · rintro ⟨e, he, q1, q2, q3⟩
    obtain ⟨r1, r2, r3⟩ := of_decide_eq_true q1
    obtain ⟨a1, a2, a3, a4, -⟩ := hE e he
    refine ⟨⟨e, he, by rw [a1]; exact r1, by rw [a2]; exact r2, by rw [a3, (hU u hu).1]; exact r3, by rw [a4]; exact q3⟩, ?_⟩
    rw [← isGive_odd hh hu he r2 r3 q3]; exact q2
  · rintro ⟨⟨e, he, q1, q2, q3, q4⟩, q5⟩
    obtain ⟨a1, a2, a3, a4, -⟩ := hE e he
    have r1 : y.1 30 e = 1 := by rw [← a1]; exact q1
    have r2 : y.1 31 e = nI u := by rw [← a2]; exact q2
    have r3 : y.1 32 e = y.1 35 u := by rw [← a3, ← (hU u hu).1]; exact q3
    have r4 : y.1 33 e = nI w := by rw [← a4]; exact q4
    refine ⟨e, he, decide_eq_true ⟨r1, r2, r3⟩, ?_, r4⟩
    rw [isGive_odd hh hu he r2 r3 r4]; exact q5
theorem goes_acts {n E b t : Nat} {x y : zS} (h : Rl n E b t x y) (hc : x.1 23 0 = 0) {u : Nat} (hu : u < n) : fm_goes y E u = fx_acts x u := by
  have hg := going_iff h hu
  have hm := (h.2.2.2.1 u hu).2.2.2.2
  rw [Bool.eq_iff_iff, ← hg]
  unfold fx_mode fx_acts
  rw [if_pos hc]
  cases he : fx_ended x u with
  | true =>
    rw [if_pos rfl, Bool.not_true, Bool.and_false]
    exact ⟨fun z => by rcases z with z | z <;> exact absurd z (by decide), fun z => absurd z (by decide)⟩
  | false =>
    rw [if_neg (by decide), Bool.not_false, Bool.and_true]
    rcases hm with ⟨m1, -⟩ | ⟨m1, -⟩ | ⟨m1, -⟩
    · rw [m1]; decide
    · rw [m1]; decide
    · rw [m1]; decide
theorem bt_m1 {i : Nat} (hi : i < 32) : bt (-1) i = true := by
  have h : ∀ i, i < 32 → bt (-1) i = true := by decide +kernel
  exact h i hi
theorem asked_bt (X : zS) (u : Nat) {w : Nat} (hw : w < 16) : fx_hasWay (fx_asked X u) (nI w) = (bt (X.1 5 u) w && !bt (X.1 6 u) w) := by
  rw [hasWay_bt _ (by omega)]
  unfold fx_asked
  rw [b_and, b_xor, bt_m1 (by omega), Bool.xor_true]
theorem given_bt (X : zS) (u : Nat) {w : Nat} (hw : w < 16) : fx_hasWay (fx_given X u) (nI w) = (bt (X.1 5 u) w && bt (X.1 6 u) w) := by
  rw [hasWay_bt _ (by omega)]
  unfold fx_given
  rw [b_and]
theorem turns_facts {n N : Nat} (hn : n ≤ 8) (X : zS) (a : Nat → Bool) (hin : ∀ i, i < N → ∃ u, u < n ∧ X.1 13 i = nI u ∧ a u = true) (hsur : ∀ u, u < n → a u = true → ∃ i, i < N ∧ X.1 13 i = nI u) : (fx_takeTurns n N X).2 = X.2 ∧ ∀ u, u < n → (a u = true → (fx_takeTurns n N X).1 7 u = if X.1 4 u = -1 then 1 else 2) ∧ (¬ a u = true → (fx_takeTurns n N X).1 7 u = -1) := by
  have h0 : (∀ g, g ≠ 7 → (zit fx_turn0 n 0 X).1 g = X.1 g) ∧ (zit fx_turn0 n 0 X).2 = X.2 ∧ ∀ u, u < n → (zit fx_turn0 n 0 X).1 7 u = -1 := by
    refine zit_inv (step := fx_turn0) (e := n) (fun k τ => (∀ g, g ≠ 7 → τ.1 g = X.1 g) ∧ τ.2 = X.2 ∧ ∀ u, u < k → τ.1 7 u = -1) ?_ n 0 X (by omega) ⟨fun _ _ => rfl, rfl, fun u h => absurd h (Nat.not_lt_zero u)⟩
    intro k τ hk ⟨h1, h2, h3⟩
    refine ⟨fun g hg => (zi_nf _ _ hg).trans (h1 g hg), h2, fun u hu => ?_⟩
    unfold fx_turn0
    by_cases e : u = k
    · subst e; rw [zi_eq]
    · rw [zi_ni _ _ e]; exact h3 u (by omega)
  have key : (∀ g, g ≠ 7 → (zit fx_turn1 N 0 (zit fx_turn0 n 0 X)).1 g = X.1 g) ∧ (zit fx_turn1 N 0 (zit fx_turn0 n 0 X)).2 = X.2 ∧ ∀ u, u < n → ((∃ i, i < N ∧ X.1 13 i = nI u) → (zit fx_turn1 N 0 (zit fx_turn0 n 0 X)).1 7 u = if X.1 4 u = -1 then 1 else 2) ∧ (¬ (∃ i, i < N ∧ X.1 13 i = nI u) → (zit fx_turn1 N 0 (zit fx_turn0 n 0 X)).1 7 u = -1) := by
    refine zit_inv (step := fx_turn1) (e := N) (fun k τ => (∀ g, g ≠ 7 → τ.1 g = X.1 g) ∧ τ.2 = X.2 ∧ ∀ u, u < n → ((∃ i, i < k ∧ X.1 13 i = nI u) → τ.1 7 u = if X.1 4 u = -1 then 1 else 2) ∧ (¬ (∃ i, i < k ∧ X.1 13 i = nI u) → τ.1 7 u = -1)) ?_ N 0 _ (by omega) ⟨h0.1, h0.2.1, fun u hu => ⟨fun ⟨i, hi, _⟩ => absurd hi (Nat.not_lt_zero i), fun _ => h0.2.2 u hu⟩⟩
    intro k τ hk ⟨h1, h2, h3⟩
    obtain ⟨v, v1, v2, -⟩ := hin k hk
    unfold fx_turn1
    rw [h1 13 (by decide), h1 4 (by decide), v2, tn_nI (by omega)]
    refine ⟨fun g hg => (zi_nf _ _ hg).trans (h1 g hg), h2, fun u hu => ?_⟩
    by_cases e : u = v
    · subst e
      rw [zi_eq]
      exact ⟨fun _ => rfl, fun z => absurd ⟨k, by omega, v2⟩ z⟩
    · rw [zi_ni _ _ e]
      refine ⟨fun ⟨i, i1, i2⟩ => (h3 u hu).1 ⟨i, ?_, i2⟩, fun z => (h3 u hu).2 (fun ⟨i, i1, i2⟩ => z ⟨i, by omega, i2⟩)⟩
      by_cases c : i = k
      · subst c
        exact absurd ((nI_eq (by omega) (by omega)).mp (i2.symm.trans v2)) e
      · omega
  unfold fx_takeTurns
  refine ⟨key.2.1, fun u hu => ⟨fun z => (key.2.2 u hu).1 (hsur u hu z), fun z => (key.2.2 u hu).2 (fun ⟨i, i1, i2⟩ => z ?_)⟩⟩
  obtain ⟨v, v1, v2, v3⟩ := hin i i1
  rw [(nI_eq (by omega) (by omega)).mp (i2.symm.trans v2)]
  exact v3
def kHit (n : Nat) (x : zS) (e : Nat) : Prop := x.1 8 e = 2 ∧ ∃ v, v < n ∧ fx_acts x v = true ∧ x.1 9 e = nI v ∧ x.1 10 e = x.1 0 v
/-- after the turns -/
def StA (n E b t N : Nat) (x y X Y : zS) : Prop :=
  (∀ g, g ∉ [4, 5, 6, 13, 14, 7] → X.1 g = x.1 g) ∧
  (∀ g, g ≠ 1 → X.2 g = x.2 g) ∧
  (N ≤ n) ∧
  (∀ i, i < N → ∃ u, u < n ∧ X.1 13 i = nI u ∧ Y.1 39 (t + i) = nI u ∧ fx_acts x u = true) ∧
  (∀ u, u < n → (fx_acts x u = true → (cThr x E u → X.1 7 u = 2) ∧ (¬ cThr x E u → X.1 7 u = 1)) ∧ (¬ fx_acts x u = true → X.1 7 u = -1)) ∧
  (∀ u, u < n → cThr x E u → ∃ e, e < E ∧ X.1 4 u = nI e ∧ x.1 8 e = 2 ∧ x.1 9 e = nI u ∧ x.1 10 e = x.1 0 u) ∧
  (∀ u w, u < n → w < 16 → (fx_hasWay (fx_asked X u) (nI w) = true ↔ (cNow x E u w ∧ cOdd x E u w = false))) ∧
  (∀ u w, u < n → w < 16 → (fx_hasWay (fx_given X u) (nI w) = true ↔ (cNow x E u w ∧ cOdd x E u w = true))) ∧
  (∀ g, g ∉ [38, 39, 40, 41, 44, 30, 45, 43, 42] → Y.1 g = y.1 g) ∧
  (Y.2 = y.2) ∧
  (∀ j, j < t → Y.1 38 j = y.1 38 j ∧ Y.1 39 j = y.1 39 j ∧ Y.1 40 j = y.1 40 j) ∧
  (∀ j, t ≤ j → j < t + N → Y.1 38 j = nI b ∧ Y.1 40 j = 0) ∧
  (Y.1 41 0 = nI (t + N)) ∧
  (∀ u, u < n → (mThw Y u ↔ (fx_acts x u = true ∧ cThr x E u)) ∧ (mAct Y u ↔ (fx_acts x u = true ∧ ¬ cThr x E u))) ∧
  (∀ e, e < E → (kHit n x e → Y.1 30 e = 3) ∧ (¬ kHit n x e → Y.1 30 e = x.1 8 e)) ∧
  (∀ w v, w < 16 → v < n → (Y.1 45 (8 * w + v) = 0 ↔ ¬ (fx_acts x v = true ∧ ¬ cThr x E v ∧ (cNow x E v w ∧ cOdd x E v w = false) ∧ ¬ x.1 19 w = nI v)))
