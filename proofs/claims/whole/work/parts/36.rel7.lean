/-! all turns of a second in the reference -/
def mUniq (E : Nat) (y : zS) : Prop := ∀ e f, e < E → f < E → y.1 30 e = 2 → y.1 30 f = 2 → y.1 31 e = y.1 31 f → y.1 32 e = y.1 32 f → e = f
def mHit (n : Nat) (y : zS) (e : Nat) : Prop := y.1 30 e = 2 ∧ ∃ v, v < n ∧ lf y v = true ∧ y.1 31 e = nI v ∧ y.1 32 e = y.1 35 v
def DrawF (n E m t : Nat) (y z : zS) : Prop := (∀ g, g ∉ [38, 39, 40, 41, 44, 30, 45, 43] → z.1 g = y.1 g) ∧ z.2 = y.2 ∧ (∀ j, j < t → z.1 38 j = y.1 38 j ∧ z.1 40 j = y.1 40 j) ∧ (∀ j, t ≤ j → j < t + m → z.1 38 j = y.1 26 0 ∧ z.1 40 j = 0) ∧
  (∀ v, v < n → (lf y v = true → (mThr y E v → z.1 44 v = 1) ∧ (¬ mThr y E v → z.1 44 v = 0)) ∧ (¬ lf y v = true → z.1 44 v = y.1 44 v)) ∧
  (∀ e, e < E → (mHit n y e → z.1 30 e = 3) ∧ (¬ mHit n y e → z.1 30 e = y.1 30 e)) ∧
  (∀ w v, w < 16 → v < n → ((lf y v = true ∧ ¬ mThr y E v ∧ mAsk y E v w ∧ ¬ y.1 27 w = nI v) → z.1 45 (8 * w + v) = 1) ∧ (¬ (lf y v = true ∧ ¬ mThr y E v ∧ mAsk y E v w ∧ ¬ y.1 27 w = nI v) → z.1 45 (8 * w + v) = y.1 45 (8 * w + v)))
theorem drawM_facts {n E : Nat} (hn : n ≤ 8) (hE : E ≤ 300) : ∀ (m t : Nat) (g : Int64) (y : zS), gp (lf y) n = m → (∀ e, e < E → y.1 30 e = 1 → zin (y.1 33 e) 16) → mUniq E y → DrawF n E m t y (fm_draw n E m t g y).2 := by
  intro m
  induction m with
  | zero =>
    intro t g y hm hW hU
    have hno : ∀ v, v < n → ¬ lf y v = true := fun v hv hl => by
      have := gp_lt (lf y) hl hv
      omega
    refine ⟨fun _ _ => rfl, rfl, fun _ _ => ⟨rfl, rfl⟩, fun j h1 h2 => absurd h2 (by omega), fun v hv => ⟨fun z => absurd z (hno v hv), fun _ => rfl⟩, fun e he => ⟨fun z => ?_, fun _ => rfl⟩, fun w v hw hv => ⟨fun z => absurd z.1 (hno v hv), fun _ => rfl⟩⟩
    obtain ⟨-, v, v1, v2, -⟩ := z
    exact absurd v2 (hno v v1)
  | succ m ih =>
    intro t g y hm hW hU
    have hp := (fx_pick_in (fx_lcg g) (r := m + 1) (by omega) (by have := gp_le (lf y) n; omega)).2
    have hcl : fm_cl y n 0 = m + 1 := by
      have := cl_gp y n 0
      rw [Nat.zero_add] at this
      have z : gp (lf y) 0 = 0 := rfl
      omega
    obtain ⟨w1, w2⟩ := who_gp y n 0 (tn (fx_pick (fx_lcg g) (m + 1))) (by omega)
    have w3 := (fm_who_in y n 0 (tn (fx_pick (fx_lcg g) (m + 1))) (by omega)).2
    rw [Nat.zero_add] at w3
    obtain ⟨u, hu⟩ : ∃ u, fm_who y n 0 (tn (fx_pick (fx_lcg g) (m + 1))) = u := ⟨_, rfl⟩
    rw [hu] at w1 w2 w3
    obtain ⟨y1, hy1⟩ : ∃ y1, fm_turn (zi y 43 u 0) E t u = y1 := ⟨_, rfl⟩
    have hnext : fm_next n E t (m + 1) g y = y1 := by
      unfold fm_next
      rw [hu, hy1]
    have hF : TurnF E t u (zi y 43 u 0) y1 := by
      rw [← hy1]
      exact turn_facts hE (by omega) hW
    have hd : fm_draw n E (m + 1) t g y = fm_draw n E m (t + 1) (fx_lcg g) y1 := by
      rw [fm_draw, hnext]
    rw [hd]
    obtain ⟨F1, F2, F3, F4, F5, F6, F7⟩ := hF
    have f43 : y1.1 43 = (zi y 43 u 0).1 43 := F1 43 (by decide)
    have f31 : y1.1 31 = y.1 31 := (F1 31 (by decide)).trans (zi_nf _ _ (by decide))
    have f32 : y1.1 32 = y.1 32 := (F1 32 (by decide)).trans (zi_nf _ _ (by decide))
    have f33 : y1.1 33 = y.1 33 := (F1 33 (by decide)).trans (zi_nf _ _ (by decide))
    have f35 : y1.1 35 = y.1 35 := (F1 35 (by decide)).trans (zi_nf _ _ (by decide))
    have f26 : y1.1 26 = y.1 26 := (F1 26 (by decide)).trans (zi_nf _ _ (by decide))
    have f27 : y1.1 27 = y.1 27 := (F1 27 (by decide)).trans (zi_nf _ _ (by decide))
    have hT : mThr (zi y 43 u 0) E u ↔ mThr y E u := Iff.rfl
    have hlf : ∀ i, lf y1 i = (lf y i && !decide (i = u)) := by
      intro i
      unfold lf
      rw [f43]
      by_cases e : i = u
      · subst e; rw [zi_eq]; simp
      · rw [zi_ni _ _ e, decide_eq_false e]; simp
    have hlu : ¬ lf y1 u = true := by rw [hlf, decide_eq_true rfl]; simp
    have hlv : ∀ v, v ≠ u → lf y1 v = lf y v := fun v hv => by rw [hlf, decide_eq_false hv]; simp
    -- the kinds
    have hkind : ∀ e, y1.1 30 e = y.1 30 e ∨ (e < E ∧ y1.1 30 e = 3 ∧ y.1 30 e = 2 ∧ y.1 31 e = nI u ∧ y.1 32 e = y.1 35 u) := by
      intro e
      by_cases q : mThr y E u
      · obtain ⟨-, ⟨f, f1, f2, f3, f4, f5⟩, -⟩ := F6 (hT.mpr q)
        rw [f5 e]
        by_cases z : e = f
        · subst z
          rw [if_pos rfl]
          exact Or.inr ⟨f1, rfl, f2, f3, f4⟩
        · rw [if_neg z]; exact Or.inl rfl
      · rw [(F7 (fun z => q (hT.mp z))).2.1]
        exact Or.inl rfl
    have hk1 : ∀ k, (y1.1 30 k = 1 ↔ y.1 30 k = 1) := by
      intro k
      rcases hkind k with q | ⟨-, q1, q2, -⟩
      · rw [q]
      · rw [q1, q2]; exact ⟨fun z => absurd z (by decide), fun z => absurd z (by decide)⟩
    have hA : ∀ v w, mAsk y1 E v w ↔ mAsk y E v w := fun v w => mAsk_congr hk1 f31 f32 f33 f35 E v w
    have hTv : ∀ v, v < n → v ≠ u → (mThr y1 E v ↔ mThr y E v) := by
      intro v hv hvu
      constructor
      · rintro ⟨e, e1, e2, e3, e4⟩
        rw [f31] at e3
        rw [f32, f35] at e4
        rcases hkind e with q | ⟨-, q1, -⟩
        · exact ⟨e, e1, by rw [← q]; exact e2, e3, e4⟩
        · rw [q1] at e2; exact absurd e2 (by decide)
      · rintro ⟨e, e1, e2, e3, e4⟩
        refine ⟨e, e1, ?_, by rw [f31]; exact e3, by rw [f32, f35]; exact e4⟩
        rcases hkind e with q | ⟨-, -, -, q3, -⟩
        · rw [q]; exact e2
        · exact absurd (((nI_eq (by omega) (by omega)).mp (e3.symm.trans q3))) hvu
    have hm1 : gp (lf y1) n = m := by
      have := gp_out w1 hlf n
      rw [if_pos w3] at this
      omega
    have hW1 : ∀ e, e < E → y1.1 30 e = 1 → zin (y1.1 33 e) 16 := fun e he q => by
      rw [f33]; exact hW e he ((hk1 e).mp q)
    have hU1 : mUniq E y1 := by
      intro e f he hf q1 q2 q3 q4
      rw [f31] at q3
      rw [f32] at q4
      have z1 : y.1 30 e = 2 := by
        rcases hkind e with q | ⟨-, q, -⟩
        · rw [← q]; exact q1
        · rw [q] at q1; exact absurd q1 (by decide)
      have z2 : y.1 30 f = 2 := by
        rcases hkind f with q | ⟨-, q, -⟩
        · rw [← q]; exact q2
        · rw [q] at q2; exact absurd q2 (by decide)
      exact hU e f he hf z1 z2 q3 q4
    obtain ⟨I1, I2, I3, I4, I5, I6, I7⟩ := ih (t + 1) (fx_lcg g) y1 hm1 hW1 hU1
    refine ⟨fun g hg => ?_, I2.trans F2, fun j hj => ?_, fun j h1 h2 => ?_, fun v hv => ?_, fun e he => ?_, fun w v hw hv => ?_⟩
    · have hg2 := hg
      simp only [List.mem_cons, List.not_mem_nil, or_false, not_or] at hg2
      rw [I1 g hg, F1 g (by simp [hg2]), zi_nf _ _ hg2.2.2.2.2.2.2.2]
    · obtain ⟨a1, a2⟩ := I3 j (by omega)
      rw [a1, a2, F3, F4, if_neg (by omega), if_neg (by omega)]
      exact ⟨rfl, rfl⟩
    · by_cases q : j = t
      · subst q
        obtain ⟨a1, a2⟩ := I3 j (by omega)
        rw [a1, a2, F3, F4, if_pos rfl, if_pos rfl]
        exact ⟨rfl, rfl⟩
      · obtain ⟨a1, a2⟩ := I4 j (by omega) (by omega)
        rw [a1, a2, f26]
        exact ⟨rfl, rfl⟩
    · by_cases q : v = u
      · subst q
        refine ⟨fun _ => ?_, fun z => absurd w1 z⟩
        rw [(I5 v hv).2 hlu]
        exact ⟨fun z => (F6 (hT.mpr z)).1, fun z => (F7 (fun w => z (hT.mp w))).1⟩
      · obtain ⟨a1, a2⟩ := I5 v hv
        rw [hlv v q, hTv v hv q] at a1
        rw [hlv v q] at a2
        refine ⟨a1, fun z => ?_⟩
        rw [a2 z, F5 v q]
        rfl
    · have hit : mHit n y e ↔ ((e < E ∧ y1.1 30 e = 3 ∧ y.1 30 e = 2 ∧ y.1 31 e = nI u ∧ y.1 32 e = y.1 35 u) ∨ mHit n y1 e) := by
        constructor
        · rintro ⟨k2, v, v1, v2, v3, v4⟩
          by_cases q : v = u
          · subst q
            obtain ⟨-, ⟨f, f1, f2, f3, f4, f5⟩, -⟩ := F6 (hT.mpr ⟨e, he, k2, v3, v4⟩)
            have : e = f := hU e f he f1 k2 f2 (v3.trans (show nI v = y.1 31 f from f3.symm)) (v4.trans (show y.1 35 v = y.1 32 f from f4.symm))
            subst this
            exact Or.inl ⟨he, by rw [f5 e, if_pos rfl], k2, v3, v4⟩
          · refine Or.inr ⟨?_, v, v1, by rw [hlv v q]; exact v2, by rw [f31]; exact v3, by rw [f32, f35]; exact v4⟩
            rcases hkind e with z | ⟨-, -, -, z, -⟩
            · rw [z]; exact k2
            · exact absurd ((nI_eq (by omega) (by omega)).mp (v3.symm.trans z)) q
        · rintro (⟨-, -, z1, z2, z3⟩ | ⟨k2, v, v1, v2, v3, v4⟩)
          · exact ⟨z1, u, w3, w1, z2, z3⟩
          · have hv : v ≠ u := fun z => by subst z; exact hlu v2
            rw [hlv v hv] at v2
            rw [f31] at v3
            rw [f32, f35] at v4
            refine ⟨?_, v, v1, v2, v3, v4⟩
            rcases hkind e with z | ⟨-, z, -⟩
            · rw [← z]; exact k2
            · rw [z] at k2; exact absurd k2 (by decide)
      obtain ⟨a1, a2⟩ := I6 e he
      refine ⟨fun z => ?_, fun z => ?_⟩
      · rcases hit.mp z with q | q
        · have : ¬ mHit n y1 e := fun w => by have w1 := w.1; rw [q.2.1] at w1; exact absurd w1 (by decide)
          rw [a2 this]; exact q.2.1
        · exact a1 q
      · rw [a2 (fun w => z (hit.mpr (Or.inr w)))]
        rcases hkind e with q | q
        · exact q
        · exact absurd (hit.mpr (Or.inl q)) z
    · obtain ⟨a1, a2⟩ := I7 w v hw hv
      rw [hA, f27] at a1 a2
      by_cases q : v = u
      · subst q
        rw [a2 (fun z => hlu z.1)]
        by_cases ht : mThr y E v
        · have := (F6 (hT.mpr ht)).2.2
          rw [this]
          exact ⟨fun z => absurd ht z.2.1, fun _ => rfl⟩
        · obtain ⟨-, -, b3⟩ := F7 (fun w => ht (hT.mp w))
          obtain ⟨b4, b5⟩ := b3 w v hw (by omega)
          have hA0 : mAsk (zi y 43 v 0) E v w ↔ mAsk y E v w := mAsk_congr (σ := zi y 43 v 0) (τ := y) (fun _ => Iff.rfl) rfl rfl rfl rfl E v w
          rw [hA0] at b4 b5
          refine ⟨fun z => b4 ⟨rfl, z.2.2.1, z.2.2.2⟩, fun z => ?_⟩
          rw [b5 (fun ⟨_, c1, c2⟩ => z ⟨w1, ht, c1, c2⟩)]
          rfl
      · rw [hlv v q, hTv v hv q] at a1 a2
        refine ⟨a1, fun z => ?_⟩
        rw [a2 z]
        by_cases ht : mThr y E u
        · rw [(F6 (hT.mpr ht)).2.2]; rfl
        · obtain ⟨-, -, b3⟩ := F7 (fun w => ht (hT.mp w))
          rw [(b3 w v hw (by omega)).2 (fun z => q z.1)]
          rfl
