/-! what the turns do in the reference -/
def mThr (y : zS) (E u : Nat) : Prop := ∃ e, e < E ∧ y.1 30 e = 2 ∧ y.1 31 e = nI u ∧ y.1 32 e = y.1 35 u
def mAsk (y : zS) (E u w : Nat) : Prop := ∃ e, e < E ∧ fm_isNow y e 1 u = true ∧ fm_isGive y E e = false ∧ y.1 33 e = nI w
theorem giveN_congr {σ τ : zS} (h30 : ∀ k, (σ.1 30 k = 1 ↔ τ.1 30 k = 1)) (h31 : σ.1 31 = τ.1 31) (h32 : σ.1 32 = τ.1 32) (h33 : σ.1 33 = τ.1 33) (e : Nat) : ∀ (c k : Nat) (r : Int32), fm_giveN σ e c k r = fm_giveN τ e c k r
  | 0, _, _ => rfl
  | c + 1, k, r => by
    unfold fm_giveN
    rw [h31, h32, h33, giveN_congr h30 h31 h32 h33 e c]
    congr 2
    have := h30 k
    by_cases q : σ.1 30 k = 1
    · simp [q, this.mp q]
    · have q2 : ¬ τ.1 30 k = 1 := fun z => q (this.mpr z)
      simp [q, q2]
theorem isGive_congr {σ τ : zS} (h30 : ∀ k, (σ.1 30 k = 1 ↔ τ.1 30 k = 1)) (h31 : σ.1 31 = τ.1 31) (h32 : σ.1 32 = τ.1 32) (h33 : σ.1 33 = τ.1 33) (E e : Nat) : fm_isGive σ E e = fm_isGive τ E e := by
  unfold fm_isGive
  rw [giveN_congr h30 h31 h32 h33]
theorem isNow1_congr {σ τ : zS} (h30 : ∀ k, (σ.1 30 k = 1 ↔ τ.1 30 k = 1)) (h31 : σ.1 31 = τ.1 31) (h32 : σ.1 32 = τ.1 32) (h35 : σ.1 35 = τ.1 35) (e u : Nat) : fm_isNow σ e 1 u = fm_isNow τ e 1 u := by
  unfold fm_isNow
  rw [h31, h32, h35]
  refine decide_eq_decide.mpr (and_congr (h30 e) Iff.rfl)
theorem mAsk_congr {σ τ : zS} (h30 : ∀ k, (σ.1 30 k = 1 ↔ τ.1 30 k = 1)) (h31 : σ.1 31 = τ.1 31) (h32 : σ.1 32 = τ.1 32) (h33 : σ.1 33 = τ.1 33) (h35 : σ.1 35 = τ.1 35) (E u w : Nat) : mAsk σ E u w ↔ mAsk τ E u w := by
  unfold mAsk
  refine exists_congr fun e => ?_
  rw [isNow1_congr h30 h31 h32 h35, isGive_congr h30 h31 h32 h33, h33]
theorem find_spec (σ : zS) (a b cc : Int32) : ∀ (c k : Nat), (fm_find σ a b cc (-1) c k = -1 ∧ ∀ e, k ≤ e → e < k + c → ¬ (σ.1 30 e = a ∧ σ.1 31 e = b ∧ σ.1 32 e = cc)) ∨ ∃ e, k ≤ e ∧ e < k + c ∧ fm_find σ a b cc (-1) c k = nI e ∧ σ.1 30 e = a ∧ σ.1 31 e = b ∧ σ.1 32 e = cc
  | 0, k => Or.inl ⟨rfl, fun e h1 h2 => absurd h2 (by omega)⟩
  | c + 1, k => by
    unfold fm_find
    by_cases q : σ.1 30 k = a ∧ σ.1 31 k = b ∧ σ.1 32 k = cc
    · rw [if_pos ⟨q.1, q.2.1, q.2.2, Or.inl rfl⟩]
      exact Or.inr ⟨k, by omega, by omega, rfl, q⟩
    · rw [if_neg (fun z => q ⟨z.1, z.2.1, z.2.2.1⟩)]
      rcases find_spec σ a b cc c (k + 1) with ⟨h1, h2⟩ | ⟨e, h1, h2, h3⟩
      · refine Or.inl ⟨h1, fun e q1 q2 => ?_⟩
        by_cases z : e = k
        · subst z; exact q
        · exact h2 e (by omega) (by omega)
      · exact Or.inr ⟨e, by omega, by omega, h3⟩
theorem thr_spec {y : zS} {E t u : Nat} (hE : E ≤ 300) : (fm_thr y E t u < 0 ∧ ¬ mThr y E u) ∨ ∃ e, e < E ∧ ¬ fm_thr y E t u < 0 ∧ tn (fm_thr y E t u) = e ∧ y.1 30 e = 2 ∧ y.1 31 e = nI u ∧ y.1 32 e = y.1 35 u := by
  rcases find_spec (fm_turn0 y t u) 2 (nI u) (y.1 35 u) E 0 with ⟨h1, h2⟩ | ⟨e, h1, h2, h3, h4⟩
  · refine Or.inl ⟨?_, fun ⟨e, he, q⟩ => h2 e (by omega) (by omega) q⟩
    show fm_find (fm_turn0 y t u) 2 (nI u) (y.1 35 u) (-1) E 0 < 0
    rw [h1]; decide
  · have e1 : fm_thr y E t u = nI e := h3
    refine Or.inr ⟨e, by omega, ?_, ?_, h4⟩
    · rw [e1]; exact nI_pos (by omega)
    · rw [e1, tn_nI (by omega)]
/-- the cells of a way and a unit are apart -/
theorem askix {w v w2 v2 : Nat} (hv : v < 8) (hv2 : v2 < 8) (h : 8 * w + v = 8 * w2 + v2) : w = w2 ∧ v = v2 := by omega
theorem ask_facts {E u : Nat} {y : zS} (hu : u < 8) (hW : ∀ e, e < E → y.1 30 e = 1 → zin (y.1 33 e) 16) (τ0 : zS) (h0 : ∀ g, g ∈ [27, 30, 31, 32, 33, 35] → τ0.1 g = y.1 g) :
    (∀ g, g ≠ 45 → (zit (fm_ask1 u E) E 0 τ0).1 g = τ0.1 g) ∧ (zit (fm_ask1 u E) E 0 τ0).2 = τ0.2 ∧ ∀ w v, w < 16 → v < 8 → ((v = u ∧ mAsk y E u w ∧ ¬ y.1 27 w = nI u) → (zit (fm_ask1 u E) E 0 τ0).1 45 (8 * w + v) = 1) ∧ (¬ (v = u ∧ mAsk y E u w ∧ ¬ y.1 27 w = nI u) → (zit (fm_ask1 u E) E 0 τ0).1 45 (8 * w + v) = τ0.1 45 (8 * w + v)) := by
  have key : (∀ g, g ≠ 45 → (zit (fm_ask1 u E) E 0 τ0).1 g = τ0.1 g) ∧ (zit (fm_ask1 u E) E 0 τ0).2 = τ0.2 ∧ ∀ w v, w < 16 → v < 8 → ((v = u ∧ ∃ e, e < E ∧ fm_isNow y e 1 u = true ∧ fm_isGive y E e = false ∧ y.1 33 e = nI w ∧ ¬ y.1 27 w = nI u) → (zit (fm_ask1 u E) E 0 τ0).1 45 (8 * w + v) = 1) ∧ (¬ (v = u ∧ ∃ e, e < E ∧ fm_isNow y e 1 u = true ∧ fm_isGive y E e = false ∧ y.1 33 e = nI w ∧ ¬ y.1 27 w = nI u) → (zit (fm_ask1 u E) E 0 τ0).1 45 (8 * w + v) = τ0.1 45 (8 * w + v)) := by
    refine zit_inv (step := fm_ask1 u E) (e := E) (fun k τ => (∀ g, g ≠ 45 → τ.1 g = τ0.1 g) ∧ τ.2 = τ0.2 ∧ ∀ w v, w < 16 → v < 8 → ((v = u ∧ ∃ e, e < k ∧ fm_isNow y e 1 u = true ∧ fm_isGive y E e = false ∧ y.1 33 e = nI w ∧ ¬ y.1 27 w = nI u) → τ.1 45 (8 * w + v) = 1) ∧ (¬ (v = u ∧ ∃ e, e < k ∧ fm_isNow y e 1 u = true ∧ fm_isGive y E e = false ∧ y.1 33 e = nI w ∧ ¬ y.1 27 w = nI u) → τ.1 45 (8 * w + v) = τ0.1 45 (8 * w + v))) ?_ E 0 τ0 (by omega) ⟨fun _ _ => rfl, rfl, fun w v _ _ => ⟨fun z => by obtain ⟨-, e, he, -⟩ := z; exact absurd he (Nat.not_lt_zero e), fun _ => rfl⟩⟩
    intro k τ hk ⟨h1, h2, h3⟩
    have hf : ∀ g, g ∈ [27, 30, 31, 32, 33, 35] → τ.1 g = y.1 g := fun g hg => (h1 g (fun z => by rw [z] at hg; exact absurd hg (by decide))).trans (h0 g hg)
    have hN : fm_isNow τ k 1 u = fm_isNow y k 1 u := isNow1_congr (fun j => by rw [hf 30 (by decide)]) (hf 31 (by decide)) (hf 32 (by decide)) (hf 35 (by decide)) k u
    have hG : fm_isGive τ E k = fm_isGive y E k := isGive_congr (fun j => by rw [hf 30 (by decide)]) (hf 31 (by decide)) (hf 32 (by decide)) (hf 33 (by decide)) E k
    unfold fm_ask1
    rw [hN, hG, hf 27 (by decide), hf 33 (by decide)]
    by_cases q : fm_isNow y k 1 u = true ∧ fm_isGive y E k = false ∧ ¬ y.1 27 (tn (y.1 33 k)) = nI u
    · rw [if_pos q]
      have hz := hW k hk (of_decide_eq_true q.1).1
      refine ⟨fun g hg => (zi_nf _ _ hg).trans (h1 g hg), h2, fun w v hw hv => ⟨fun z => ?_, fun z => ?_⟩⟩
      · obtain ⟨zv, e, he, z1, z2, z3, z4⟩ := z
        by_cases ek : 8 * w + v = 8 * tn (y.1 33 k) + u
        · rw [ek, zi_eq]
        · rw [zi_ni _ _ ek]
          refine (h3 w v hw hv).1 ⟨zv, e, ?_, z1, z2, z3, z4⟩
          by_cases ee : e = k
          · subst ee
            exfalso
            apply ek
            rw [z3, tn_nI (by omega), zv]
          · omega
      · by_cases ek : 8 * w + v = 8 * tn (y.1 33 k) + u
        · exfalso
          apply z
          obtain ⟨e1, e2⟩ := askix hv hu ek
          refine ⟨e2, k, by omega, q.1, q.2.1, ?_, ?_⟩
          · rw [e1]; exact hz.1
          · rw [e1]; exact q.2.2
        · rw [zi_ni _ _ ek]
          exact (h3 w v hw hv).2 (fun ⟨zv, e, he, z1⟩ => z ⟨zv, e, by omega, z1⟩)
    · rw [if_neg q]
      refine ⟨h1, h2, fun w v hw hv => ⟨fun z => ?_, fun z => ?_⟩⟩
      · obtain ⟨zv, e, he, z1, z2, z3, z4⟩ := z
        refine (h3 w v hw hv).1 ⟨zv, e, ?_, z1, z2, z3, z4⟩
        by_cases ee : e = k
        · subst ee
          exfalso
          apply q
          refine ⟨z1, z2, ?_⟩
          rw [z3, tn_nI (by omega)]
          exact z4
        · omega
      · exact (h3 w v hw hv).2 (fun ⟨zv, e, he, z1⟩ => z ⟨zv, e, by omega, z1⟩)
  refine ⟨key.1, key.2.1, fun w v hw hv => ⟨fun z => ?_, fun z => ?_⟩⟩
  · obtain ⟨z1, ⟨e, e1, e2, e3, e4⟩, z3⟩ := z
    exact (key.2.2 w v hw hv).1 ⟨z1, e, e1, e2, e3, e4, z3⟩
  · exact (key.2.2 w v hw hv).2 (fun ⟨z1, e, e1, e2, e3, e4, z3⟩ => z ⟨z1, ⟨e, e1, e2, e3, e4⟩, z3⟩)
def TurnF (E t u : Nat) (y z : zS) : Prop := (∀ g, g ∉ [38, 39, 40, 41, 44, 30, 45] → z.1 g = y.1 g) ∧ z.2 = y.2 ∧ (∀ j, z.1 38 j = if j = t then y.1 26 0 else y.1 38 j) ∧ (∀ j, z.1 40 j = if j = t then 0 else y.1 40 j) ∧
  (∀ v, v ≠ u → z.1 44 v = y.1 44 v) ∧ (mThr y E u → z.1 44 u = 1 ∧ (∃ f, f < E ∧ y.1 30 f = 2 ∧ y.1 31 f = nI u ∧ y.1 32 f = y.1 35 u ∧ ∀ e, z.1 30 e = if e = f then 3 else y.1 30 e) ∧ z.1 45 = y.1 45) ∧
  (¬ mThr y E u → z.1 44 u = 0 ∧ z.1 30 = y.1 30 ∧ ∀ w v, w < 16 → v < 8 → ((v = u ∧ mAsk y E u w ∧ ¬ y.1 27 w = nI u) → z.1 45 (8 * w + v) = 1) ∧ (¬ (v = u ∧ mAsk y E u w ∧ ¬ y.1 27 w = nI u) → z.1 45 (8 * w + v) = y.1 45 (8 * w + v)))
theorem turn_facts {E t u : Nat} {y : zS} (hE : E ≤ 300) (hu : u < 8) (hW : ∀ e, e < E → y.1 30 e = 1 → zin (y.1 33 e) 16) : TurnF E t u y (fm_turn y E t u) := by
  have hT0 : ∀ g, g ∉ [38, 39, 40, 41] → (fm_turn0 y t u).1 g = y.1 g := by
    intro g hg
    simp only [List.mem_cons, List.not_mem_nil, or_false, not_or] at hg
    unfold fm_turn0
    rw [zi_nf _ _ hg.2.2.2, zi_nf _ _ hg.2.2.1, zi_nf _ _ hg.2.1, zi_nf _ _ hg.1]
  have h38 : ∀ j, (fm_turn0 y t u).1 38 j = if j = t then y.1 26 0 else y.1 38 j := by
    intro j
    unfold fm_turn0
    rw [zi_nf _ _ (by decide), zi_nf _ _ (by decide), zi_nf _ _ (by decide)]
    by_cases q : j = t
    · subst q; rw [zi_eq, if_pos rfl]
    · rw [zi_ni _ _ q, if_neg q]
  have h40 : ∀ j, (fm_turn0 y t u).1 40 j = if j = t then 0 else y.1 40 j := by
    intro j
    unfold fm_turn0
    rw [zi_nf _ _ (by decide)]
    by_cases q : j = t
    · subst q; rw [zi_eq, if_pos rfl]
    · rw [zi_ni _ _ q, if_neg q, zi_nf _ _ (by decide), zi_nf _ _ (by decide)]
  refine ⟨fun g hg => km_turn hg y E t u, ?_, ?_⟩
  · unfold fm_turn
    split
    · exact (ask_facts hu hW _ (fun g hg => by
        rw [zi_nf _ _ (fun z => by rw [z] at hg; exact absurd hg (by decide)), hT0 g (fun z => by
          simp only [List.mem_cons, List.not_mem_nil, or_false] at hg z
          omega)])).2.1
    · rfl
  · rcases thr_spec (y := y) (t := t) (u := u) hE with ⟨h1, h2⟩ | ⟨f, f1, f2, f3, f4, f5, f6⟩
    · have hA := ask_facts (E := E) (u := u) (y := y) hu hW (zi (fm_turn0 y t u) 44 u 0) (fun g hg => by
        rw [zi_nf _ _ (fun z => by rw [z] at hg; exact absurd hg (by decide)), hT0 g (fun z => by
          simp only [List.mem_cons, List.not_mem_nil, or_false] at hg z
          omega)])
      have e : fm_turn y E t u = zit (fm_ask1 u E) E 0 (zi (fm_turn0 y t u) 44 u 0) := by unfold fm_turn; rw [if_pos h1]
      rw [e]
      refine ⟨fun j => ?_, fun j => ?_, fun v hv => ?_, fun z => absurd z h2, fun _ => ⟨?_, ?_, fun w v hw hv => ?_⟩⟩
      · rw [hA.1 38 (by decide), zi_nf _ _ (by decide)]; exact h38 j
      · rw [hA.1 40 (by decide), zi_nf _ _ (by decide)]; exact h40 j
      · rw [hA.1 44 (by decide), zi_ni _ _ hv, hT0 44 (by decide)]
      · rw [hA.1 44 (by decide), zi_eq]
      · rw [hA.1 30 (by decide), zi_nf _ _ (by decide), hT0 30 (by decide)]
      · have h45 : (zi (fm_turn0 y t u) 44 u 0).1 45 = y.1 45 := by rw [zi_nf _ _ (by decide), hT0 45 (by decide)]
        have := hA.2.2 w v hw hv
        rw [h45] at this
        exact this
    · have e : fm_turn y E t u = zi (zi (fm_turn0 y t u) 44 u 1) 30 f 3 := by unfold fm_turn; rw [if_neg f2, f3]
      rw [e]
      refine ⟨fun j => ?_, fun j => ?_, fun v hv => ?_, fun _ => ⟨?_, ⟨f, f1, f4, f5, f6, fun e => ?_⟩, ?_⟩, fun z => absurd ⟨f, f1, f4, f5, f6⟩ z⟩
      · rw [zi_nf _ _ (by decide), zi_nf _ _ (by decide)]; exact h38 j
      · rw [zi_nf _ _ (by decide), zi_nf _ _ (by decide)]; exact h40 j
      · rw [zi_nf _ _ (by decide), zi_ni _ _ hv, hT0 44 (by decide)]
      · rw [zi_nf _ _ (by decide), zi_eq]
      · by_cases q : e = f
        · subst q; rw [zi_eq, if_pos rfl]
        · rw [zi_ni _ _ q, if_neg q, zi_nf _ _ (by decide), hT0 30 (by decide)]
      · rw [zi_nf _ _ (by decide), zi_nf _ _ (by decide), hT0 45 (by decide)]
