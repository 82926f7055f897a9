/-! what a second's beginning lays down in the class -/
def cThr (x : zS) (E u : Nat) : Prop := ∃ e, e < E ∧ x.1 8 e = 2 ∧ x.1 9 e = nI u ∧ x.1 10 e = x.1 0 u
def cNow (x : zS) (E u w : Nat) : Prop := ∃ e, e < E ∧ x.1 8 e = 1 ∧ x.1 9 e = nI u ∧ x.1 10 e = x.1 0 u ∧ x.1 11 e = nI w
def cBef (x : zS) (u w e : Nat) : Bool := decide (x.1 8 e = 1 ∧ x.1 9 e = nI u ∧ x.1 11 e = nI w ∧ ¬ x.1 0 u ≤ x.1 10 e)
/-- how many of the first k have f -/
def gp (f : Nat → Bool) : Nat → Nat
  | 0 => 0
  | k + 1 => gp f k + (if f k = true then 1 else 0)
def cOdd (x : zS) (E u w : Nat) : Bool := decide (gp (cBef x u w) E % 2 = 1)
theorem gp_le (f : Nat → Bool) : ∀ k, gp f k ≤ k
  | 0 => Nat.le_refl _
  | k + 1 => by
    unfold gp
    have := gp_le f k
    split <;> omega
theorem gp_mono (f : Nat → Bool) {a b : Nat} (h : a ≤ b) : gp f a ≤ gp f b := by
  induction b with
  | zero => rw [show a = 0 by omega]; exact Nat.le_refl _
  | succ b ih =>
    by_cases e : a = b + 1
    · subst e; exact Nat.le_refl _
    · have := ih (by omega)
      show gp f a ≤ gp f b + _
      omega
theorem gp_lt (f : Nat → Bool) {a b : Nat} (ha : f a = true) (h : a < b) : gp f a < gp f b := by
  have h1 := gp_mono f (show a + 1 ≤ b from h)
  have h2 : gp f (a + 1) = gp f a + 1 := by
    show gp f a + (if f a = true then 1 else 0) = _
    rw [if_pos ha]
  omega
theorem gp_inj (f : Nat → Bool) {a b : Nat} (ha : f a = true) (hb : f b = true) (h : gp f a = gp f b) : a = b := by
  rcases Nat.lt_trichotomy a b with q | q | q
  · have := gp_lt f ha q; omega
  · exact q
  · have := gp_lt f hb q; omega
theorem gp_congr {f g : Nat → Bool} : ∀ k, (∀ i, i < k → f i = g i) → gp f k = gp g k
  | 0, _ => rfl
  | k + 1, h => by
    unfold gp
    rw [gp_congr k (fun i hi => h i (by omega)), h k (by omega)]
/-- one taken out -/
theorem gp_out {f g : Nat → Bool} {a : Nat} (ha : f a = true) (hg : ∀ i, g i = (f i && !decide (i = a))) : ∀ k, gp g k + (if a < k then 1 else 0) = gp f k
  | 0 => by rw [if_neg (by omega)]; rfl
  | k + 1 => by
    have ih := gp_out ha hg k
    unfold gp
    rw [hg k]
    by_cases e : k = a
    · subst e
      rw [if_neg (by omega)] at ih
      rw [ha, if_pos (show k < k + 1 by omega)]
      simp
      omega
    · rw [show decide (k = a) = false from decide_eq_false e]
      simp only [Bool.not_false, Bool.and_true]
      by_cases q : a < k
      · rw [if_pos q] at ih; rw [if_pos (show a < k + 1 by omega)]; omega
      · rw [if_neg q] at ih; rw [if_neg (show ¬ a < k + 1 by omega)]; omega
def BriefP (n : Nat) (x : zS) (k : Nat) (τ : zS) : Prop := (∀ g, g ∉ [4, 5, 6] → τ.1 g = x.1 g) ∧ τ.2 = x.2 ∧ ∀ u, u < n →
  ((τ.1 4 u = -1 ∧ ¬ cThr x k u) ∨ ∃ e, e < k ∧ τ.1 4 u = nI e ∧ x.1 8 e = 2 ∧ x.1 9 e = nI u ∧ x.1 10 e = x.1 0 u) ∧ (∀ w, w < 16 → (bt (τ.1 5 u) w = true ↔ cNow x k u w)) ∧ ∀ w, w < 16 → bt (τ.1 6 u) w = cOdd x k u w
theorem brief_facts {n E : Nat} {x : zS} (hn : n ≤ 8) (hE : E ≤ 300) (hI : IEnt n E x) : BriefP n x E (fx_brief n E x) := by
  refine zit_inv (step := fx_brief1) (e := E) (BriefP n x) ?_ E 0 _ (by omega) ?_
  · intro k τ hk ⟨h1, h2, h3⟩
    obtain ⟨z1, -, -, z4, -⟩ := hI k hk
    have e8 : τ.1 8 k = x.1 8 k := by rw [h1 8 (by decide)]
    have e9 : τ.1 9 k = x.1 9 k := by rw [h1 9 (by decide)]
    have e10 : τ.1 10 k = x.1 10 k := by rw [h1 10 (by decide)]
    have e11 : τ.1 11 k = x.1 11 k := by rw [h1 11 (by decide)]
    have e0 : τ.1 0 = x.1 0 := h1 0 (by decide)
    obtain ⟨a, ha⟩ : ∃ a, a = tn (x.1 9 k) := ⟨_, rfl⟩
    have ha9 : x.1 9 k = nI a := by rw [ha]; exact z1.1
    have han : a < n := by rw [ha]; exact z1.2
    have hun : ∀ u, u < n → u ≠ a → ¬ x.1 9 k = nI u := fun u hu q z => q (((nI_eq (by omega) (by omega)).mp (ha9.symm.trans z)).symm)
    -- what one more entry brings
    have cT : ∀ u, cThr x (k + 1) u ↔ (cThr x k u ∨ (x.1 8 k = 2 ∧ x.1 9 k = nI u ∧ x.1 10 k = x.1 0 u)) := by
      intro u
      constructor
      · rintro ⟨e, he, q⟩
        by_cases z : e = k
        · subst z; exact Or.inr q
        · exact Or.inl ⟨e, by omega, q⟩
      · rintro (⟨e, he, q⟩ | q)
        · exact ⟨e, by omega, q⟩
        · exact ⟨k, by omega, q⟩
    have cN : ∀ u w, cNow x (k + 1) u w ↔ (cNow x k u w ∨ (x.1 8 k = 1 ∧ x.1 9 k = nI u ∧ x.1 10 k = x.1 0 u ∧ x.1 11 k = nI w)) := by
      intro u w
      constructor
      · rintro ⟨e, he, q⟩
        by_cases z : e = k
        · subst z; exact Or.inr q
        · exact Or.inl ⟨e, by omega, q⟩
      · rintro (⟨e, he, q⟩ | q)
        · exact ⟨e, by omega, q⟩
        · exact ⟨k, by omega, q⟩
    have cO : ∀ u w, cOdd x (k + 1) u w = (cOdd x k u w ^^ cBef x u w k) := by
      intro u w
      unfold cOdd
      show decide ((gp (cBef x u w) k + (if cBef x u w k = true then 1 else 0)) % 2 = 1) = _
      cases cBef x u w k with
      | true =>
        rw [if_pos rfl, Bool.xor_true, Bool.eq_iff_iff]
        simp only [decide_eq_true_eq, Bool.not_eq_true', decide_eq_false_iff_not]
        omega
      | false => simp
    unfold fx_brief1
    rw [e8, e9, e10, e11, e0, ← ha]
    by_cases c1 : x.1 8 k = 2 ∧ x.1 10 k = x.1 0 a
    · rw [if_pos c1]
      refine ⟨fun g hg => (zi_nf _ _ (fun z => hg (by rw [z]; decide))).trans (h1 g hg), h2, fun u hu => ?_⟩
      obtain ⟨p1, p2, p3⟩ := h3 u hu
      rw [zi_nf (f := 4) (g := 5) _ _ (by decide), zi_nf (f := 4) (g := 6) _ _ (by decide)]
      refine ⟨?_, fun w hw => ?_, fun w hw => ?_⟩
      · by_cases q : u = a
        · subst q
          rw [zi_eq]
          exact Or.inr ⟨k, by omega, rfl, c1.1, ha9, c1.2⟩
        · rw [zi_ni _ _ q]
          rcases p1 with ⟨r1, r2⟩ | ⟨e, r1, r2⟩
          · exact Or.inl ⟨r1, fun z => by rcases (cT u).mp z with z | z; exact r2 z; exact hun u hu q z.2.1⟩
          · exact Or.inr ⟨e, by omega, r2⟩
      · rw [p2 w hw, cN]
        exact ⟨Or.inl, fun z => by
          rcases z with z | z
          · exact z
          · rw [c1.1] at z; exact absurd z.1 (by decide)⟩
      · rw [p3 w hw, cO]
        rw [show cBef x u w k = false from decide_eq_false (fun z => by rw [c1.1] at z; exact absurd z.1 (by decide)), Bool.xor_false]
    · rw [if_neg c1]
      have noT : ∀ u, u < n → ¬ (x.1 8 k = 2 ∧ x.1 9 k = nI u ∧ x.1 10 k = x.1 0 u) := by
        intro u hu z
        by_cases q : u = a
        · subst q; exact c1 ⟨z.1, z.2.2⟩
        · exact hun u hu q z.2.1
      have T4 : ∀ u, u < n → (τ.1 4 u = -1 ∧ ¬ cThr x k u ∨ ∃ e, e < k ∧ τ.1 4 u = nI e ∧ x.1 8 e = 2 ∧ x.1 9 e = nI u ∧ x.1 10 e = x.1 0 u) → (τ.1 4 u = -1 ∧ ¬ cThr x (k + 1) u ∨ ∃ e, e < k + 1 ∧ τ.1 4 u = nI e ∧ x.1 8 e = 2 ∧ x.1 9 e = nI u ∧ x.1 10 e = x.1 0 u) := by
        intro u hu z
        rcases z with ⟨r1, r2⟩ | ⟨e, r1, r2⟩
        · exact Or.inl ⟨r1, fun z => by rcases (cT u).mp z with z | z; exact r2 z; exact noT u hu z⟩
        · exact Or.inr ⟨e, by omega, r2⟩
      by_cases c2 : x.1 8 k = 1 ∧ x.1 10 k = x.1 0 a
      · rw [if_pos c2]
        obtain ⟨v1, v2⟩ := z4 c2.1
        refine ⟨fun g hg => (zi_nf _ _ (fun z => hg (by rw [z]; decide))).trans (h1 g hg), h2, fun u hu => ?_⟩
        obtain ⟨p1, p2, p3⟩ := h3 u hu
        rw [zi_nf (f := 5) (g := 4) _ _ (by decide), zi_nf (f := 5) (g := 6) _ _ (by decide)]
        refine ⟨T4 u hu p1, fun w hw => ?_, fun w hw => ?_⟩
        · by_cases q : u = a
          · subst q
            rw [zi_eq, b_or, Bool.or_eq_true, p2 w hw, cN, v1, bt_one (by omega) (by omega), decide_eq_true_eq]
            refine or_congr Iff.rfl ⟨fun z => ⟨c2.1, ha9, c2.2, ?_⟩, fun z => ?_⟩
            · rw [← z]
            · exact ((nI_eq (by omega) (by omega)).mp z.2.2.2).symm
          · rw [zi_ni _ _ q, p2 w hw, cN]
            exact ⟨Or.inl, fun z => by
              rcases z with z | z
              · exact z
              · exact absurd z.2.1 (hun u hu q)⟩
        · rw [p3 w hw, cO]
          rw [show cBef x u w k = false from decide_eq_false (fun z => by
            by_cases q : u = a
            · subst q; exact z.2.2.2 (by rw [c2.2]; exact Int32.le_refl _)
            · exact hun u hu q z.2.1), Bool.xor_false]
      · rw [if_neg c2]
        have noN : ∀ u w, u < n → ¬ (x.1 8 k = 1 ∧ x.1 9 k = nI u ∧ x.1 10 k = x.1 0 u ∧ x.1 11 k = nI w) := by
          intro u w hu z
          by_cases q : u = a
          · subst q; exact c2 ⟨z.1, z.2.2.1⟩
          · exact hun u hu q z.2.1
        by_cases c3 : x.1 8 k = 1 ∧ ¬ x.1 0 a ≤ x.1 10 k
        · rw [if_pos c3]
          obtain ⟨v1, v2⟩ := z4 c3.1
          refine ⟨fun g hg => (zi_nf _ _ (fun z => hg (by rw [z]; decide))).trans (h1 g hg), h2, fun u hu => ?_⟩
          obtain ⟨p1, p2, p3⟩ := h3 u hu
          rw [zi_nf (f := 6) (g := 4) _ _ (by decide), zi_nf (f := 6) (g := 5) _ _ (by decide)]
          refine ⟨T4 u hu p1, fun w hw => ?_, fun w hw => ?_⟩
          · rw [p2 w hw, cN]
            exact ⟨Or.inl, fun z => by
              rcases z with z | z
              · exact z
              · exact absurd z (noN u w hu)⟩
          · by_cases q : u = a
            · subst q
              rw [zi_eq, b_xor, p3 w hw, cO, v1, bt_one (by omega) (by omega)]
              congr 1
              rw [Bool.eq_iff_iff, decide_eq_true_eq]
              unfold cBef
              rw [decide_eq_true_eq]
              refine ⟨fun z => ⟨c3.1, ha9, ?_, c3.2⟩, fun z => ?_⟩
              · rw [z]; exact v1
              · have := z.2.2.1
                rw [v1] at this
                exact ((nI_eq (by omega) (by omega)).mp this).symm
            · rw [zi_ni _ _ q, p3 w hw, cO]
              rw [show cBef x u w k = false from decide_eq_false (fun z => hun u hu q z.2.1), Bool.xor_false]
        · rw [if_neg c3]
          refine ⟨h1, h2, fun u hu => ?_⟩
          obtain ⟨p1, p2, p3⟩ := h3 u hu
          refine ⟨T4 u hu p1, fun w hw => ?_, fun w hw => ?_⟩
          · rw [p2 w hw, cN]
            exact ⟨Or.inl, fun z => by
              rcases z with z | z
              · exact z
              · exact absurd z (noN u w hu)⟩
          · rw [p3 w hw, cO]
            rw [show cBef x u w k = false from decide_eq_false (fun z => by
              by_cases q : u = a
              · subst q; exact c3 ⟨z.1, z.2.2.2⟩
              · exact hun u hu q z.2.1), Bool.xor_false]
  · have hb : (∀ g, g ∉ [4, 5, 6] → (zit fx_brief0 n 0 x).1 g = x.1 g) ∧ (zit fx_brief0 n 0 x).2 = x.2 ∧ ∀ u, u < n → (zit fx_brief0 n 0 x).1 4 u = -1 ∧ (zit fx_brief0 n 0 x).1 5 u = 0 ∧ (zit fx_brief0 n 0 x).1 6 u = 0 := by
      refine zit_inv (step := fx_brief0) (e := n) (fun k τ => (∀ g, g ∉ [4, 5, 6] → τ.1 g = x.1 g) ∧ τ.2 = x.2 ∧ ∀ u, u < k → τ.1 4 u = -1 ∧ τ.1 5 u = 0 ∧ τ.1 6 u = 0) ?_ n 0 x (by omega) ⟨fun _ _ => rfl, rfl, fun u h => absurd h (Nat.not_lt_zero u)⟩
      intro k τ hk ⟨h1, h2, h3⟩
      refine ⟨fun g hg => ?_, h2, fun u hu => ?_⟩
      · have hg2 := hg
        simp only [List.mem_cons, List.not_mem_nil, or_false, not_or] at hg2
        unfold fx_brief0
        rw [zi_nf _ _ hg2.2.2, zi_nf _ _ hg2.2.1, zi_nf _ _ hg2.1, h1 g hg]
      · by_cases q : u = k
        · subst q
          simp [fx_brief0, zi]
        · have := h3 u (by omega)
          simp [fx_brief0, zi, q, this]
    refine ⟨hb.1, hb.2.1, fun u hu => ?_⟩
    obtain ⟨q4, q5, q6⟩ := hb.2.2 u hu
    refine ⟨Or.inl ⟨q4, fun ⟨e, he, _⟩ => absurd he (Nat.not_lt_zero e)⟩, fun w hw => ?_, fun w hw => ?_⟩
    · rw [q5, b_0]
      exact ⟨fun z => absurd z (by decide), fun ⟨e, he, _⟩ => absurd he (Nat.not_lt_zero e)⟩
    · rw [q6, b_0]; rfl
