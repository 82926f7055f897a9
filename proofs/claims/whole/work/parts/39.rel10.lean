/-! the acts of a second's end in the reference -/
def mDone (Z : zS) (E u : Nat) : Prop := mAct Z u ∧ fm_ownsAll Z E u E 0 true = true
def mWait (Z : zS) (E u : Nat) : Prop := mAct Z u ∧ ¬ fm_ownsAll Z E u E 0 true = true
def mBack (Z : zS) (E k w : Nat) : Prop := ∃ v, v < k ∧ mDone Z E v ∧ mGv Z E v w ∧ Z.1 27 w = nI v
def End3F (E t0 t : Nat) (Z : zS) (k : Nat) (τ : zS) : Prop := (∀ g, g ∉ [27, 35, 36, 40] → τ.1 g = Z.1 g) ∧ (∀ g, g ≠ 5 → τ.2 g = Z.2 g) ∧
  (∀ w, w < 16 → (mBack Z E k w → τ.1 27 w = -1) ∧ (¬ mBack Z E k w → τ.1 27 w = Z.1 27 w)) ∧
  (∀ u, ((u < k ∧ mDone Z E u) → τ.1 35 u = Z.1 35 u + 1 ∧ τ.1 36 u = 0) ∧ ((u < k ∧ mWait Z E u) → τ.1 35 u = Z.1 35 u ∧ τ.1 36 u = 1) ∧ (¬ (u < k ∧ mAct Z u) → τ.1 35 u = Z.1 35 u ∧ τ.1 36 u = Z.1 36 u)) ∧
  (∀ j, ((t0 ≤ j ∧ j < t ∧ ∃ u, u < k ∧ mWait Z E u ∧ Z.1 39 j = nI u) → τ.1 40 j = 1) ∧ (¬ (t0 ≤ j ∧ j < t ∧ ∃ u, u < k ∧ mWait Z E u ∧ Z.1 39 j = nI u) → τ.1 40 j = Z.1 40 j)) ∧
  ∀ j, ((j / 4 < k ∧ mDone Z E (j / 4)) → τ.2 5 j = lastv (mStp Z (j / 4) j) (Z.2 8) (Z.2 5 j) E) ∧ (¬ (j / 4 < k ∧ mDone Z E (j / 4)) → τ.2 5 j = Z.2 5 j)
theorem end3_facts {n E t0 t : Nat} {Z : zS} (hn : n ≤ 8) (hW : ∀ e, e < E → Z.1 30 e = 1 → zin (Z.1 33 e) 16) (hS : ∀ e, e < E → Z.1 30 e = 0 → tn (Z.1 33 e) / 4 = tn (Z.1 31 e)) (ht : t0 ≤ t) (h38 : ∀ j, t0 ≤ j → j < t → Z.1 38 j = Z.1 26 0) (h0 : t0 = 0 ∨ ¬ Z.1 38 (t0 - 1) = Z.1 26 0) : End3F E t0 t Z n (zit (fm_end3 E t) n 0 Z) := by
  refine zit_inv (step := fm_end3 E t) (e := n) (End3F E t0 t Z) ?_ n 0 Z (by omega) ⟨fun _ _ => rfl, fun _ _ => rfl, fun w _ => ⟨fun ⟨v, hv, _⟩ => absurd hv (Nat.not_lt_zero v), fun _ => rfl⟩, fun u => ⟨fun z => absurd z.1 (Nat.not_lt_zero u), fun z => absurd z.1 (Nat.not_lt_zero u), fun _ => ⟨rfl, rfl⟩⟩, fun j => ⟨fun ⟨_, _, u, hu, _⟩ => absurd hu (Nat.not_lt_zero u), fun _ => rfl⟩, fun j => ⟨fun z => absurd z.1 (Nat.not_lt_zero _), fun _ => rfl⟩⟩
  intro k τ hk ⟨h1, h2, h3, h4, h5, h6⟩
  have k35 : τ.1 35 k = Z.1 35 k := ((h4 k).2.2 (fun z => absurd z.1 (Nat.lt_irrefl k))).1
  have f30 : τ.1 30 = Z.1 30 := h1 30 (by decide)
  have f31 : τ.1 31 = Z.1 31 := h1 31 (by decide)
  have f32 : τ.1 32 = Z.1 32 := h1 32 (by decide)
  have f33 : τ.1 33 = Z.1 33 := h1 33 (by decide)
  have hNw : ∀ (a : Int32) (e : Nat), fm_isNow τ e a k = fm_isNow Z e a k := fun a e => by unfold fm_isNow; rw [f30, f31, f32, k35]
  have hGv : ∀ e, fm_isGive τ E e = fm_isGive Z E e := fun e => isGive_congr (fun j => by rw [f30]) f31 f32 f33 E e
  have h27 : ∀ w, w < 16 → (τ.1 27 w = nI k ↔ Z.1 27 w = nI k) := by
    intro w hw
    obtain ⟨a1, a2⟩ := h3 w hw
    by_cases q : mBack Z E k w
    · rw [a1 q]
      obtain ⟨v, v1, -, -, v4⟩ := q
      rw [v4]
      exact ⟨fun z => absurd z.symm (nI_ne_m1 (by omega)), fun z => absurd ((nI_eq (by omega) (by omega)).mp z) (by omega)⟩
    · rw [a2 q]
  have hOw : fm_ownsAll τ E k E 0 true = true ↔ fm_ownsAll Z E k E 0 true = true := by
    rw [mOwns_iff, mOwns_iff]
    refine and_congr Iff.rfl (forall_congr' fun e => forall_congr' fun _ => ⟨fun H he hN hG => ?_, fun H he hN hG => ?_⟩)
    · have hz := hW e (by omega) (of_decide_eq_true hN).1
      have := H he (by rw [hNw]; exact hN) (by rw [hGv]; exact hG)
      rw [f33] at this
      exact (h27 _ hz.2).mp this
    · rw [hNw] at hN
      rw [hGv] at hG
      have hz := hW e (by omega) (of_decide_eq_true hN).1
      rw [f33]
      exact (h27 _ hz.2).mpr (H he hN hG)
  have hB : ∀ w, mBack Z E (k + 1) w ↔ (mBack Z E k w ∨ (mDone Z E k ∧ mGv Z E k w ∧ Z.1 27 w = nI k)) := by
    intro w
    constructor
    · rintro ⟨v, v1, v2⟩
      by_cases e : v = k
      · subst e; exact Or.inr v2
      · exact Or.inl ⟨v, by omega, v2⟩
    · rintro (⟨v, v1, v2⟩ | q)
      · exact ⟨v, by omega, v2⟩
      · exact ⟨k, by omega, q⟩
  unfold fm_end3
  rw [h1 42 (by decide), h1 44 (by decide)]
  by_cases q : mAct Z k
  · rw [if_pos (show ¬ Z.1 42 k = 0 ∧ Z.1 44 k = 0 from q)]
    unfold fm_act
    by_cases r : fm_ownsAll Z E k E 0 true = true
    · rw [if_pos (hOw.mpr r)]
      have hD : mDone Z E k := ⟨q, r⟩
      have hnW : ¬ mWait Z E k := fun z => z.2 r
      unfold fm_actD
      obtain ⟨τ1, ht1⟩ : ∃ τ1, τ1 = zi τ 36 k 0 := ⟨_, rfl⟩
      rw [← ht1]
      have g1 : ∀ g, g ≠ 36 → τ1.1 g = τ.1 g := fun g hg => by rw [ht1]; exact zi_nf _ _ hg
      have g2 : τ1.2 = τ.2 := by rw [ht1]; rfl
      have hNw1 : ∀ (a : Int32) (e : Nat), fm_isNow τ1 e a k = fm_isNow Z e a k := fun a e => by
        rw [← hNw a e]; unfold fm_isNow; rw [g1 30 (by decide), g1 31 (by decide), g1 32 (by decide), g1 35 (by decide)]
      have hGv1 : ∀ e, fm_isGive τ1 E e = fm_isGive Z E e := fun e => by
        rw [← hGv e]; exact isGive_congr (fun j => by rw [g1 30 (by decide)]) (g1 31 (by decide)) (g1 32 (by decide)) (g1 33 (by decide)) E e
      have hG1 : ∀ w, mGv τ1 E k w ↔ mGv Z E k w := fun w => by
        unfold mGv
        refine exists_congr fun e => ?_
        rw [hNw1, hGv1, g1 33 (by decide), f33]
      have hS1 : ∀ j e, mStp τ1 k j e = mStp Z k j e := fun j e => by
        unfold mStp
        rw [hNw1, g1 33 (by decide), f33]
      obtain ⟨-, A2, A3, A4⟩ := act1_facts (E := E) (u := k) (Z := τ1) (fun e he z => by
        rw [g1 33 (by decide), f33]
        rw [g1 30 (by decide), f30] at z
        exact hW e he z) (by omega)
      have A1 : ∀ g, g ≠ 27 → (zit (fm_act1 E k) E 0 τ1).1 g = τ1.1 g := fun g hg => km_act1 hg E k E 0 τ1
      refine ⟨fun g hg => ?_, fun g hg => ?_, fun w hw => ?_, fun u => ?_, fun j => ?_, fun j => ?_⟩
      · have hg2 := hg
        simp only [List.mem_cons, List.not_mem_nil, or_false, not_or] at hg2
        rw [zi_nf _ _ hg2.2.1, A1 g hg2.1, g1 g hg2.2.2.1, h1 g hg]
      · show (zit (fm_act1 E k) E 0 τ1).2 g = _
        rw [A2 g hg, g2, h2 g hg]
      · rw [zi_nf _ _ (by decide), hB]
        obtain ⟨c1, c2⟩ := A3 w hw
        rw [hG1, g1 27 (by decide), h27 w hw] at c1 c2
        obtain ⟨d1, d2⟩ := h3 w hw
        by_cases z : mGv Z E k w ∧ Z.1 27 w = nI k
        · rw [c1 z]
          exact ⟨fun _ => rfl, fun y => absurd (Or.inr ⟨hD, z⟩) y⟩
        · rw [c2 z]
          exact ⟨fun y => d1 (by rcases y with y | y; exact y; exact absurd y.2 z), fun y => d2 (fun x => y (Or.inl x))⟩
      · obtain ⟨a1, a2, a3⟩ := h4 u
        by_cases e : u = k
        · subst e
          rw [zi_eq, zi_nf _ _ (by decide), A1 35 (by decide), A1 36 (by decide), g1 35 (by decide), k35]
          refine ⟨fun _ => ⟨rfl, by rw [ht1, zi_eq]⟩, fun z => absurd z.2 hnW, fun z => absurd ⟨by omega, q⟩ z⟩
        · rw [zi_ni _ _ e, zi_nf _ _ (by decide), A1 35 (by decide), A1 36 (by decide), g1 35 (by decide)]
          rw [show τ1.1 36 u = τ.1 36 u from by rw [ht1, zi_ni _ _ e]]
          exact ⟨fun z => a1 ⟨by omega, z.2⟩, fun z => a2 ⟨by omega, z.2⟩, fun z => a3 (fun y => z ⟨by omega, y.2⟩)⟩
      · rw [zi_nf _ _ (by decide), A1 40 (by decide), g1 40 (by decide)]
        refine ⟨fun ⟨z1, z2, u, u1, u2, u3⟩ => (h5 j).1 ⟨z1, z2, u, ?_, u2, u3⟩, fun z => (h5 j).2 (fun ⟨z1, z2, u, u1, u2⟩ => z ⟨z1, z2, u, by omega, u2⟩)⟩
        by_cases c : u = k
        · subst c; exact absurd u2 hnW
        · omega
      · show (_ → (zit (fm_act1 E k) E 0 τ1).2 5 j = _) ∧ (_ → (zit (fm_act1 E k) E 0 τ1).2 5 j = _)
        rw [A4 j, g2, h2 8 (by decide)]
        obtain ⟨d1, d2⟩ := h6 j
        by_cases c : j / 4 = k
        · rw [d2 (fun z => absurd z.1 (by omega)), lastv_congr (q := mStp Z k j) (w := Z.2 8) rfl E (fun i _ => hS1 j i) (fun i _ => rfl)]
          refine ⟨fun _ => by rw [c], fun z => absurd ⟨by omega, by rw [c]; exact hD⟩ z⟩
        · rw [lastv_none E (fun i hi => ?_)]
          · exact ⟨fun z => d1 ⟨by omega, z.2⟩, fun z => d2 (fun y => z ⟨by omega, y.2⟩)⟩
          · rw [hS1]
            refine decide_eq_false (fun z => c ?_)
            obtain ⟨b1, b2, -⟩ := of_decide_eq_true z.1
            have := hS i hi b1
            rw [b2, tn_nI (by omega), z.2] at this
            exact this
    · rw [if_neg (fun z => r (hOw.mp z))]
      have hnD : ¬ mDone Z E k := fun z => r z.2
      have hWt : mWait Z E k := ⟨q, r⟩
      obtain ⟨τ1, ht1⟩ : ∃ τ1, τ1 = zi τ 36 k 1 := ⟨_, rfl⟩
      rw [← ht1]
      have g1 : ∀ g, g ≠ 36 → τ1.1 g = τ.1 g := fun g hg => by rw [ht1]; exact zi_nf _ _ hg
      have g2 : τ1.2 = τ.2 := by rw [ht1]; rfl
      obtain ⟨t1, t2⟩ := tell_facts k 1 t0 t τ1 ht (fun j q1 q2 => by rw [g1 38 (by decide), g1 26 (by decide), h1 38 (by decide), h1 26 (by decide)]; exact h38 j q1 q2) (by rw [g1 38 (by decide), g1 26 (by decide), h1 38 (by decide), h1 26 (by decide)]; exact h0)
      have hB2 : ∀ w, mBack Z E (k + 1) w ↔ mBack Z E k w := fun w => (hB w).trans ⟨fun z => by rcases z with z | z; exact z; exact absurd z.1 hnD, Or.inl⟩
      refine ⟨fun g hg => ?_, fun g hg => ?_, fun w hw => ?_, fun u => ?_, fun j => ?_, fun j => ?_⟩
      · have hg2 := hg
        simp only [List.mem_cons, List.not_mem_nil, or_false, not_or] at hg2
        rw [km_tell hg2.2.2.2, g1 g hg2.2.2.1, h1 g hg]
      · rw [t1, g2, h2 g hg]
      · rw [km_tell (by decide), g1 27 (by decide), hB2]; exact h3 w hw
      · rw [km_tell (by decide), km_tell (by decide), g1 35 (by decide)]
        obtain ⟨a1, a2, a3⟩ := h4 u
        by_cases e : u = k
        · subst e
          rw [k35]
          refine ⟨fun z => absurd z.2 hnD, fun _ => ⟨rfl, by rw [ht1, zi_eq]⟩, fun z => absurd ⟨by omega, q⟩ z⟩
        · rw [show τ1.1 36 u = τ.1 36 u from by rw [ht1, zi_ni _ _ e]]
          exact ⟨fun z => a1 ⟨by omega, z.2⟩, fun z => a2 ⟨by omega, z.2⟩, fun z => a3 (fun y => z ⟨by omega, y.2⟩)⟩
      · obtain ⟨a1, a2⟩ := t2 j
        rw [g1 39 (by decide), h1 39 (by decide)] at a1 a2
        rw [g1 40 (by decide)] at a2
        by_cases e : t0 ≤ j ∧ j < t ∧ Z.1 39 j = nI k
        · rw [a1 e]
          exact ⟨fun _ => rfl, fun z => absurd ⟨e.1, e.2.1, k, by omega, hWt, e.2.2⟩ z⟩
        · rw [a2 e]
          refine ⟨fun ⟨z1, z2, u, u1, u2, u3⟩ => (h5 j).1 ⟨z1, z2, u, ?_, u2, u3⟩, fun z => (h5 j).2 (fun ⟨z1, z2, u, u1, u2⟩ => z ⟨z1, z2, u, by omega, u2⟩)⟩
          by_cases c : u = k
          · subst c; exact absurd ⟨z1, z2, u3⟩ e
          · omega
      · rw [t1, g2]
        obtain ⟨d1, d2⟩ := h6 j
        refine ⟨fun z => d1 ⟨?_, z.2⟩, fun z => d2 (fun y => z ⟨by omega, y.2⟩)⟩
        by_cases c : j / 4 = k
        · rw [c] at z; exact absurd z.2 hnD
        · omega
  · rw [if_neg (show ¬ (¬ Z.1 42 k = 0 ∧ Z.1 44 k = 0) from q)]
    have hB2 : ∀ w, mBack Z E (k + 1) w ↔ mBack Z E k w := fun w => (hB w).trans ⟨fun z => by rcases z with z | z; exact z; exact absurd z.1.1 q, Or.inl⟩
    refine ⟨h1, h2, fun w hw => by rw [hB2]; exact h3 w hw, fun u => ?_, fun j => ?_, fun j => ?_⟩
    · obtain ⟨a1, a2, a3⟩ := h4 u
      by_cases e : u = k
      · subst e
        exact ⟨fun z => absurd z.2.1 q, fun z => absurd z.2.1 q, fun _ => a3 (fun z => absurd z.1 (Nat.lt_irrefl u))⟩
      · exact ⟨fun z => a1 ⟨by omega, z.2⟩, fun z => a2 ⟨by omega, z.2⟩, fun z => a3 (fun y => z ⟨by omega, y.2⟩)⟩
    · refine ⟨fun ⟨z1, z2, u, u1, u2, u3⟩ => (h5 j).1 ⟨z1, z2, u, ?_, u2, u3⟩, fun z => (h5 j).2 (fun ⟨z1, z2, u, u1, u2⟩ => z ⟨z1, z2, u, by omega, u2⟩)⟩
      by_cases c : u = k
      · subst c; exact absurd u2.1 q
      · omega
    · obtain ⟨d1, d2⟩ := h6 j
      refine ⟨fun z => d1 ⟨?_, z.2⟩, fun z => d2 (fun y => z ⟨by omega, y.2⟩)⟩
      by_cases c : j / 4 = k
      · rw [c] at z; exact absurd z.2.1 q
      · omega
/-- what is laid down of a second in the reference -/
theorem endF_facts (b : Nat) (σ : zS) : (∀ g, g ∉ [28, 26] → (fm_endF b σ).1 g = σ.1 g) ∧ (∀ g, g ≠ 7 → (fm_endF b σ).2 g = σ.2 g) ∧ (fm_endF b σ).1 26 0 = nI (b + 1) ∧ (∀ w, w < 16 → (fm_endF b σ).1 28 (16 * b + w) = σ.1 27 w) ∧ (∀ j, j < 16 * b → (fm_endF b σ).1 28 j = σ.1 28 j) ∧ (∀ k, k < 32 → (fm_endF b σ).2 7 (32 * b + k) = σ.2 5 k) ∧ ∀ j, j < 32 * b → (fm_endF b σ).2 7 j = σ.2 7 j := by
  have a4 : ∀ τ : zS, (zit (fm_end4 b) 32 0 τ).1 = τ.1 ∧ (∀ g, g ≠ 7 → (zit (fm_end4 b) 32 0 τ).2 g = τ.2 g) ∧ (∀ k, k < 32 → (zit (fm_end4 b) 32 0 τ).2 7 (32 * b + k) = τ.2 5 k) ∧ ∀ j, j < 32 * b → (zit (fm_end4 b) 32 0 τ).2 7 j = τ.2 7 j := by
    intro τ
    refine zit_inv (step := fm_end4 b) (e := 32) (fun k ρ => ρ.1 = τ.1 ∧ (∀ g, g ≠ 7 → ρ.2 g = τ.2 g) ∧ (∀ i, i < k → ρ.2 7 (32 * b + i) = τ.2 5 i) ∧ ∀ j, j < 32 * b → ρ.2 7 j = τ.2 7 j) ?_ 32 0 τ (by omega) ⟨rfl, fun _ _ => rfl, fun i hi => absurd hi (Nat.not_lt_zero i), fun _ _ => rfl⟩
    intro k ρ hk ⟨h1, h2, h3, h4⟩
    refine ⟨h1, fun g hg => (zl_nf _ _ hg).trans (h2 g hg), fun i hi => ?_, fun j hj => ?_⟩
    · unfold fm_end4
      by_cases e : i = k
      · subst e; rw [zl_eq, h2 5 (by decide)]
      · rw [zl_ni _ _ (by omega)]; exact h3 i (by omega)
    · unfold fm_end4
      rw [zl_ni _ _ (by omega)]; exact h4 j hj
  have a5 : ∀ τ : zS, (zit (fm_end5 b) 16 0 τ).2 = τ.2 ∧ (∀ g, g ≠ 28 → (zit (fm_end5 b) 16 0 τ).1 g = τ.1 g) ∧ (∀ k, k < 16 → (zit (fm_end5 b) 16 0 τ).1 28 (16 * b + k) = τ.1 27 k) ∧ ∀ j, j < 16 * b → (zit (fm_end5 b) 16 0 τ).1 28 j = τ.1 28 j := by
    intro τ
    refine zit_inv (step := fm_end5 b) (e := 16) (fun k ρ => ρ.2 = τ.2 ∧ (∀ g, g ≠ 28 → ρ.1 g = τ.1 g) ∧ (∀ i, i < k → ρ.1 28 (16 * b + i) = τ.1 27 i) ∧ ∀ j, j < 16 * b → ρ.1 28 j = τ.1 28 j) ?_ 16 0 τ (by omega) ⟨rfl, fun _ _ => rfl, fun i hi => absurd hi (Nat.not_lt_zero i), fun _ _ => rfl⟩
    intro k ρ hk ⟨h1, h2, h3, h4⟩
    refine ⟨h1, fun g hg => (zi_nf _ _ hg).trans (h2 g hg), fun i hi => ?_, fun j hj => ?_⟩
    · unfold fm_end5
      by_cases e : i = k
      · subst e; rw [zi_eq, h2 27 (by decide)]
      · rw [zi_ni _ _ (by omega)]; exact h3 i (by omega)
    · unfold fm_end5
      rw [zi_ni _ _ (by omega)]; exact h4 j hj
  obtain ⟨p1, p2, p3, p4⟩ := a4 σ
  obtain ⟨q1, q2, q3, q4⟩ := a5 (zit (fm_end4 b) 32 0 σ)
  have e2 : (fm_endF b σ).2 = (zit (fm_end4 b) 32 0 σ).2 := q1
  have e28 : (fm_endF b σ).1 28 = (zit (fm_end5 b) 16 0 (zit (fm_end4 b) 32 0 σ)).1 28 := zi_nf _ _ (by decide)
  refine ⟨fun g hg => km_endF hg b σ, fun g hg => by rw [e2]; exact p2 g hg, zi_eq _ _ _ _, fun w hw => ?_, fun j hj => ?_, fun k hk => ?_, fun j hj => ?_⟩
  · rw [e28, q3 w hw, p1]
  · rw [e28, q4 j hj, p1]
  · rw [e2]; exact p3 k hk
  · rw [e2]; exact p4 j hj
/-- what is laid down of a second in the class -/
theorem keep_facts (n b : Nat) (σ : zS) : (∀ g, g ∉ [20, 21] → (fx_keep n b σ).1 g = σ.1 g) ∧ (∀ g, g ≠ 4 → (fx_keep n b σ).2 g = σ.2 g) ∧ (fx_keep n b σ).1 21 0 = nI (b + 1) ∧ (∀ w, w < 16 → (fx_keep n b σ).1 20 (b * 16 + w) = σ.1 19 w) ∧ (∀ j, j < b * 16 → (fx_keep n b σ).1 20 j = σ.1 20 j) ∧ (∀ k, k < n * 4 → (fx_keep n b σ).2 4 (b * (n * 4) + k) = σ.2 2 k) ∧ ∀ j, j < b * (n * 4) → (fx_keep n b σ).2 4 j = σ.2 4 j := by
  have e20 : (fx_keep n b σ).1 20 = va_cpy (σ.1 19) (σ.1 20) 0 (b * 16) 16 := by
    unfold fx_keep
    rw [zi_nf _ _ (by decide)]
    funext j
    simp [zfi]
  have e4 : (fx_keep n b σ).2 4 = va_cpy (σ.2 2) (σ.2 4) 0 (b * (n * 4)) (n * 4) := by
    funext j
    simp [fx_keep, zfl, zfi, zi]
  refine ⟨fun g hg => kp_keep hg n b σ, fun g hg => ?_, zi_eq _ _ _ _, fun w hw => ?_, fun j hj => ?_, fun k hk => ?_, fun j hj => ?_⟩
  · funext j; exact if_neg hg
  · rw [e20]; unfold va_cpy; rw [if_pos (by omega)]; exact congrArg (σ.1 19) (by omega)
  · rw [e20]; unfold va_cpy; rw [if_neg (by omega)]
  · rw [e4]; unfold va_cpy; rw [if_pos (by omega)]; exact congrArg (σ.2 2) (by omega)
  · rw [e4]; unfold va_cpy; rw [if_neg (by omega)]
/-- the turns of a second in the class's log -/
theorem logs_facts (x : Int32) (t N : Nat) (hN : t + N < 2 ^ 31) (X : zS) (h0 : X.1 18 0 = nI t) : (∀ g, g ∉ [15, 16, 17, 18] → (zit (fx_log1 x) N 0 X).1 g = X.1 g) ∧ (zit (fx_log1 x) N 0 X).2 = X.2 ∧ (zit (fx_log1 x) N 0 X).1 18 0 = nI (t + N) ∧ (∀ i, i < N → (zit (fx_log1 x) N 0 X).1 15 (t + i) = x ∧ (zit (fx_log1 x) N 0 X).1 16 (t + i) = X.1 13 i ∧ (zit (fx_log1 x) N 0 X).1 17 (t + i) = X.1 7 (tn (X.1 13 i))) ∧ ∀ j, j < t → (zit (fx_log1 x) N 0 X).1 15 j = X.1 15 j ∧ (zit (fx_log1 x) N 0 X).1 16 j = X.1 16 j ∧ (zit (fx_log1 x) N 0 X).1 17 j = X.1 17 j := by
  refine zit_inv (step := fx_log1 x) (e := N) (fun k τ => (∀ g, g ∉ [15, 16, 17, 18] → τ.1 g = X.1 g) ∧ τ.2 = X.2 ∧ τ.1 18 0 = nI (t + k) ∧ (∀ i, i < k → τ.1 15 (t + i) = x ∧ τ.1 16 (t + i) = X.1 13 i ∧ τ.1 17 (t + i) = X.1 7 (tn (X.1 13 i))) ∧ ∀ j, j < t → τ.1 15 j = X.1 15 j ∧ τ.1 16 j = X.1 16 j ∧ τ.1 17 j = X.1 17 j) ?_ N 0 X (by omega) ⟨fun _ _ => rfl, rfl, h0, fun i hi => absurd hi (Nat.not_lt_zero i), fun _ _ => ⟨rfl, rfl, rfl⟩⟩
  intro k τ hk ⟨h1, h2, h3, h4, h5⟩
  have e13 : τ.1 13 = X.1 13 := h1 13 (by decide)
  have e7 : τ.1 7 = X.1 7 := h1 7 (by decide)
  unfold fx_log1 fx_turn
  rw [h3, tn_nI (by omega), e13, e7]
  refine ⟨fun g hg => ?_, h2, ?_, fun i hi => ?_, fun j hj => ?_⟩
  · have hg2 := hg
    simp only [List.mem_cons, List.not_mem_nil, or_false, not_or] at hg2
    rw [zi_nf _ _ hg2.2.2.2, zi_nf _ _ hg2.2.2.1, zi_nf _ _ hg2.2.1, zi_nf _ _ hg2.1, h1 g hg]
  · rw [zi_eq]; rfl
  · rw [zi_nf (f := 18) (g := 15) _ _ (by decide), zi_nf (f := 18) (g := 16) _ _ (by decide), zi_nf (f := 18) (g := 17) _ _ (by decide), zi_nf (f := 17) (g := 15) _ _ (by decide), zi_nf (f := 17) (g := 16) _ _ (by decide), zi_nf (f := 16) (g := 15) _ _ (by decide)]
    by_cases e : i = k
    · subst e
      rw [zi_eq, zi_eq, zi_eq]
      exact ⟨rfl, rfl, rfl⟩
    · rw [zi_ni _ _ (show t + i ≠ t + k by omega), zi_ni _ _ (show t + i ≠ t + k by omega), zi_ni _ _ (show t + i ≠ t + k by omega), zi_nf (f := 15) (g := 16) _ _ (by decide), zi_nf (f := 16) (g := 17) _ _ (by decide), zi_nf (f := 15) (g := 17) _ _ (by decide)]
      exact h4 i (by omega)
  · rw [zi_nf (f := 18) (g := 15) _ _ (by decide), zi_nf (f := 18) (g := 16) _ _ (by decide), zi_nf (f := 18) (g := 17) _ _ (by decide), zi_nf (f := 17) (g := 15) _ _ (by decide), zi_nf (f := 17) (g := 16) _ _ (by decide), zi_nf (f := 16) (g := 15) _ _ (by decide)]
    rw [zi_ni _ _ (show j ≠ t + k by omega), zi_ni _ _ (show j ≠ t + k by omega), zi_ni _ _ (show j ≠ t + k by omega), zi_nf (f := 15) (g := 16) _ _ (by decide), zi_nf (f := 16) (g := 17) _ _ (by decide), zi_nf (f := 15) (g := 17) _ _ (by decide)]
    exact h5 j hj
