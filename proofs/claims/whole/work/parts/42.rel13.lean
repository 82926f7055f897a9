/-- the entries read alike, as far as they go -/
theorem gask2 {E : Nat} {x z : zS} (hE3 : E ≤ 300) (hz : ∀ e, e < E → (z.1 30 e = 1 ↔ x.1 8 e = 1) ∧ z.1 31 e = x.1 9 e ∧ z.1 32 e = x.1 10 e ∧ z.1 33 e = x.1 11 e) {u w : Nat} (h35 : z.1 35 u = x.1 0 u) (v : Bool) : (∃ e, e < E ∧ fm_isNow z e 1 u = true ∧ fm_isGive z E e = v ∧ z.1 33 e = nI w) ↔ (cNow x E u w ∧ cOdd x E u w = v) := by
  have hG : ∀ e, e < E → z.1 31 e = nI u → z.1 32 e = z.1 35 u → z.1 33 e = nI w → fm_isGive z E e = cOdd x E u w := by
    intro e he h1 h2 h3
    have hg := giveN_gp z e (fun k => decide (z.1 30 k = 1 ∧ z.1 31 k = z.1 31 e ∧ z.1 33 k = z.1 33 e ∧ ¬ z.1 32 e ≤ z.1 32 k)) (fun _ => rfl) E 0
    have hc : gp (fun k => decide (z.1 30 k = 1 ∧ z.1 31 k = z.1 31 e ∧ z.1 33 k = z.1 33 e ∧ ¬ z.1 32 e ≤ z.1 32 k)) E = gp (cBef x u w) E := by
      refine gp_congr E (fun i hi => ?_)
      obtain ⟨a1, a2, a3, a4⟩ := hz i hi
      unfold cBef
      refine decide_eq_decide.mpr ?_
      rw [a1, a2, a3, a4, h1, h2, h3, h35]
    have hl := gp_le (cBef x u w) E
    rw [Nat.zero_add, hc] at hg
    have hg2 : fm_giveN z e E 0 0 = nI (gp (cBef x u w) E) := hg
    unfold fm_isGive cOdd
    rw [hg2, show (2 : Int32) = nI 2 from rfl, pk_rem (by omega) (by omega) (by omega)]
    refine decide_eq_decide.mpr ?_
    have hm := Nat.mod_lt (gp (cBef x u w) E) (show 0 < 2 by omega)
    exact nI_eq (b := 1) (by omega) (by omega)
  constructor
  · rintro ⟨e, he, q1, q2, q3⟩
    obtain ⟨r1, r2, r3⟩ := of_decide_eq_true q1
    obtain ⟨a1, a2, a3, a4⟩ := hz e he
    refine ⟨⟨e, he, a1.mp r1, by rw [← a2]; exact r2, by rw [← a3, ← h35]; exact r3, by rw [← a4]; exact q3⟩, ?_⟩
    rw [← hG e he r2 r3 q3]; exact q2
  · rintro ⟨⟨e, he, q1, q2, q3, q4⟩, q5⟩
    obtain ⟨a1, a2, a3, a4⟩ := hz e he
    have r2 : z.1 31 e = nI u := by rw [a2]; exact q2
    have r3 : z.1 32 e = z.1 35 u := by rw [a3, h35]; exact q3
    have r4 : z.1 33 e = nI w := by rw [a4]; exact q4
    exact ⟨e, he, decide_eq_true ⟨a1.mpr q1, r2, r3⟩, (hG e he r2 r3 r4).trans q5, r4⟩
/-- after throwers are held and ways granted -/
def StC (n E b t N : Nat) (x y C D : zS) : Prop :=
  (∀ g, g ∉ [4, 5, 6, 13, 14, 7, 8, 2, 3, 19] → C.1 g = x.1 g) ∧
  (∀ g, g ≠ 1 → g ≠ 2 → C.2 g = x.2 g) ∧
  (∀ i, i < N → ∃ u, u < n ∧ C.1 13 i = nI u ∧ D.1 39 (t + i) = nI u ∧ fx_acts x u = true ∧ (cThr x E u → D.1 40 (t + i) = 2) ∧ (¬ cThr x E u → D.1 40 (t + i) = 0)) ∧
  (∀ u, u < n → (fx_acts x u = true → (cThr x E u → C.1 7 u = 2) ∧ (¬ cThr x E u → C.1 7 u = 1)) ∧ (¬ fx_acts x u = true → C.1 7 u = -1)) ∧
  (∀ u w, u < n → w < 16 → (fx_hasWay (fx_asked C u) (nI w) = true ↔ (cNow x E u w ∧ cOdd x E u w = false))) ∧
  (∀ u w, u < n → w < 16 → (fx_hasWay (fx_given C u) (nI w) = true ↔ (cNow x E u w ∧ cOdd x E u w = true))) ∧
  (∀ u, u < n → ((fx_acts x u = true ∧ cThr x E u) → C.1 2 u = 2 ∧ C.1 3 u = nI b ∧ D.1 37 u = nI b ∧ D.1 36 u = 0) ∧ (¬ (fx_acts x u = true ∧ cThr x E u) → C.1 2 u = x.1 2 u ∧ C.1 3 u = x.1 3 u ∧ D.1 37 u = y.1 37 u ∧ D.1 36 u = y.1 36 u)) ∧
  (∀ e, e < E → C.1 8 e = D.1 30 e ∧ (C.1 8 e = x.1 8 e ∨ (x.1 8 e = 2 ∧ C.1 8 e = 3))) ∧
  (∀ w, w < 16 → C.1 19 w = D.1 27 w) ∧
  (∀ j, j < n * 4 → C.2 2 j = D.2 5 j) ∧
  (∀ g, g ∉ [38, 39, 40, 41, 44, 30, 45, 43, 42, 37, 36, 27] → D.1 g = y.1 g) ∧
  (∀ g, g ≠ 5 → D.2 g = y.2 g) ∧
  (∀ j, j < t → D.1 38 j = y.1 38 j ∧ D.1 39 j = y.1 39 j ∧ D.1 40 j = y.1 40 j) ∧
  (∀ j, t ≤ j → j < t + N → D.1 38 j = nI b) ∧
  (D.1 41 0 = nI (t + N)) ∧
  (∀ u, u < n → (mAct D u ↔ (fx_acts x u = true ∧ ¬ cThr x E u)))
theorem stC {n E b t N : Nat} {x y X Y : zS} (h : Rl n E b t x y) (hn : n ≤ 8) (hb : b < 64) (hA : StA n E b t N x y X Y) : StC n E b t N x y (fx_grant n (x.1 22 b) (fx_hold n (nI b) X)) (zit (fm_end2 n b) 16 0 (zit (fm_end1 (t + N)) n 0 Y)) := by
  obtain ⟨xk, x2, nn, ord, out, thr, ask, giv, yk, y2, old, new, y41, tak, kin, asd⟩ := hA
  obtain ⟨⟨e1, e2, hE3, hE⟩, hI, hT, hU, hBd, hBar, hTu, hCl⟩ := h
  have y26 : Y.1 26 0 = nI b := by rw [yk 26 (by decide)]; exact hBd.2.1
  have h38 : ∀ j, t ≤ j → j < t + N → Y.1 38 j = Y.1 26 0 := fun j q1 q2 => by rw [y26]; exact (new j q1 q2).1
  have h38b : t = 0 ∨ ¬ Y.1 38 (t - 1) = Y.1 26 0 := by
    rcases Nat.eq_zero_or_pos t with q | q
    · exact Or.inl q
    · refine Or.inr (fun z => ?_)
      rw [y26, (old (t - 1) (by omega)).1] at z
      have hz := (hTu.2.2.2 (t - 1) (by omega)).2.2.2
      rw [z] at hz
      have := hz.2
      rw [tn_nI (by omega)] at this
      omega
  obtain ⟨H1, H2, H3, H4, H5⟩ := hold_facts n (nI b) X
  obtain ⟨K1, K2, K3, K4, K5⟩ := end1_facts (n := n) (Nat.le_add_right t N) h38 h38b
  obtain ⟨X5, hX5⟩ : ∃ X5, X5 = fx_hold n (nI b) X := ⟨_, rfl⟩
  rw [← hX5] at H1 H2 H3 H4 H5 ⊢
  obtain ⟨Y4, hY4⟩ : ∃ Y4, Y4 = zit (fm_end1 (t + N)) n 0 Y := ⟨_, rfl⟩
  rw [← hY4] at K1 K2 K3 K4 K5 ⊢
  obtain ⟨G1, G2, G3⟩ := grant_facts n (x.1 22 b) X5
  obtain ⟨M1, M2, M3⟩ := end2_facts n b hn Y4
  obtain ⟨C, hC⟩ : ∃ C, C = fx_grant n (x.1 22 b) X5 := ⟨_, rfl⟩
  rw [← hC] at G1 G2 G3 ⊢
  obtain ⟨D, hD⟩ : ∃ D, D = zit (fm_end2 n b) 16 0 Y4 := ⟨_, rfl⟩
  rw [← hD] at M1 M2 M3 ⊢
  have o2 : ∀ u, u < n → (X.1 7 u = 2 ↔ (fx_acts x u = true ∧ cThr x E u)) := fun u hu => by
    obtain ⟨a1, a2⟩ := out u hu
    by_cases qa : fx_acts x u = true
    · by_cases qt : cThr x E u
      · exact ⟨fun _ => ⟨qa, qt⟩, fun _ => (a1 qa).1 qt⟩
      · rw [(a1 qa).2 qt]; exact ⟨fun z => absurd z (by decide), fun z => absurd z.2 qt⟩
    · rw [a2 qa]; exact ⟨fun z => absurd z (by decide), fun z => absurd z.1 qa⟩
  have o1 : ∀ u, u < n → (X.1 7 u = 1 ↔ (fx_acts x u = true ∧ ¬ cThr x E u)) := fun u hu => by
    obtain ⟨a1, a2⟩ := out u hu
    by_cases qa : fx_acts x u = true
    · by_cases qt : cThr x E u
      · rw [(a1 qa).1 qt]; exact ⟨fun z => absurd z (by decide), fun z => absurd qt z.2⟩
      · exact ⟨fun _ => ⟨qa, qt⟩, fun _ => (a1 qa).2 qt⟩
    · rw [a2 qa]; exact ⟨fun z => absurd z (by decide), fun z => absurd z.1 qa⟩
  have C7 : C.1 7 = X.1 7 := by rw [G1 7 (by decide), H1 7 (by decide)]
  have C5 : C.1 5 = X.1 5 := by rw [G1 5 (by decide), H1 5 (by decide)]
  have C6 : C.1 6 = X.1 6 := by rw [G1 6 (by decide), H1 6 (by decide)]
  have ca : ∀ u, fx_asked C u = fx_asked X u := fun u => by unfold fx_asked; rw [C5, C6]
  have cg : ∀ u, fx_given C u = fx_given X u := fun u => by unfold fx_given; rw [C5, C6]
  have ca5 : ∀ u, fx_asked X5 u = fx_asked X u := fun u => by unfold fx_asked; rw [H1 5 (by decide), H1 6 (by decide)]
  have d42 : D.1 42 = Y.1 42 := by rw [M1 42 (by decide), K1 42 (by decide)]
  have d44 : D.1 44 = Y.1 44 := by rw [M1 44 (by decide), K1 44 (by decide)]
  have d39 : D.1 39 = Y.1 39 := by rw [M1 39 (by decide), K1 39 (by decide)]
  have d38 : D.1 38 = Y.1 38 := by rw [M1 38 (by decide), K1 38 (by decide)]
  have d40 : D.1 40 = Y4.1 40 := M1 40 (by decide)
  refine ⟨fun g hg => ?_, fun g hg1 hg2 => ?_, fun i hi => ?_, fun u hu => ?_, fun u w hu hw => ?_, fun u w hu hw => ?_, fun u hu => ?_, fun e he => ?_, fun w hw => ?_, fun j hj => ?_, fun g hg => ?_, fun g hg => ?_, fun j hj => ?_, fun j q1 q2 => ?_, ?_, fun u hu => ?_⟩
  · simp only [List.mem_cons, List.not_mem_nil, or_false, not_or] at hg
    rw [G1 g (by omega), H1 g (by simp [hg]), xk g (by simp [hg])]
  · rw [G2, H2 g hg2, x2 g hg1]
  · obtain ⟨u, u1, u2, u3, u4⟩ := ord i hi
    refine ⟨u, u1, by rw [G1 13 (by decide), H1 13 (by decide)]; exact u2, by rw [d39]; exact u3, u4, fun z => ?_, fun z => ?_⟩
    · rw [d40]
      exact (K4 (t + i)).1 ⟨by omega, by omega, u, u1, (tak u u1).1.mpr ⟨u4, z⟩, u3⟩
    · rw [d40, (K4 (t + i)).2 (fun ⟨_, _, v, v1, v2, v3⟩ => ?_)]
      · exact (new (t + i) (by omega) (by omega)).2
      · have : v = u := (nI_eq (by omega) (by omega)).mp (v3.symm.trans u3)
        subst this
        exact z ((tak v v1).1.mp v2).2
  · rw [C7]; exact out u hu
  · rw [ca]; exact ask u w hu hw
  · rw [cg]; exact giv u w hu hw
  · have c2 : C.1 2 u = X5.1 2 u := by rw [G1 2 (by decide)]
    have c3 : C.1 3 u = X5.1 3 u := by rw [G1 3 (by decide)]
    have d37 : D.1 37 u = Y4.1 37 u := by rw [M1 37 (by decide)]
    have d36 : D.1 36 u = Y4.1 36 u := by rw [M1 36 (by decide)]
    rw [c2, c3, d37, d36]
    refine ⟨fun z => ?_, fun z => ?_⟩
    · obtain ⟨a1, a2⟩ := (H3 u).1 ⟨hu, (o2 u hu).mpr z⟩
      obtain ⟨b1, b2⟩ := (K3 u).1 ⟨hu, (tak u hu).1.mpr z⟩
      exact ⟨a1, a2, b1.trans y26, b2⟩
    · obtain ⟨a1, a2⟩ := (H3 u).2 (fun q => z ((o2 u hu).mp q.2))
      obtain ⟨b1, b2⟩ := (K3 u).2 (fun q => z ((tak u hu).1.mp q.2))
      rw [a1, a2, b1, b2, xk 2 (by decide), xk 3 (by decide), yk 37 (by decide), yk 36 (by decide)]
      exact ⟨rfl, rfl, rfl, rfl⟩
  · have c8 : C.1 8 e = X5.1 8 e := by rw [G1 8 (by decide)]
    have d30 : D.1 30 e = Y.1 30 e := by rw [M1 30 (by decide), K1 30 (by decide)]
    have hk : (∃ u, u < n ∧ X.1 7 u = 2 ∧ tn (X.1 4 u) = e) ↔ kHit n x e := by
      constructor
      · rintro ⟨u, u1, u2, u3⟩
        obtain ⟨p1, p2⟩ := (o2 u u1).mp u2
        obtain ⟨f, f1, f2, f3, f4, f5⟩ := thr u u1 p2
        rw [f2, tn_nI (by omega)] at u3
        subst u3
        exact ⟨f3, u, u1, p1, f4, f5⟩
      · rintro ⟨k1, v, v1, v2, v3, v4⟩
        have ht : cThr x E v := ⟨e, he, k1, v3, v4⟩
        obtain ⟨f, f1, f2, f3, f4, f5⟩ := thr v v1 ht
        have : e = f := hT e f he f1 k1 f3 (v3.trans f4.symm) (v4.trans f5.symm)
        subst this
        exact ⟨v, v1, (o2 v v1).mpr ⟨v2, ht⟩, by rw [f2, tn_nI (by omega)]⟩
    obtain ⟨a1, a2⟩ := H4 e
    rw [hk, xk 8 (by decide)] at a2
    rw [hk] at a1
    obtain ⟨b1, b2⟩ := kin e he
    rw [c8, d30]
    by_cases q : kHit n x e
    · rw [a1 q, b1 q]; exact ⟨rfl, Or.inr ⟨q.1, rfl⟩⟩
    · rw [a2 q, b2 q]; exact ⟨rfl, Or.inl rfl⟩
  · have f19 : X5.1 19 = x.1 19 := by rw [H1 19 (by decide), xk 19 (by decide)]
    have f27 : Y4.1 27 = y.1 27 := by rw [K1 27 (by decide), yk 27 (by decide)]
    have f29 : Y4.1 29 = y.1 29 := by rw [K1 29 (by decide), yk 29 (by decide)]
    have f45 : Y4.1 45 = Y.1 45 := K1 45 (by decide)
    have hw27 := hBd.2.2.2.1 w hw
    obtain ⟨a1, a2⟩ := G3 w hw
    obtain ⟨b1, b2⟩ := M3 w hw
    rw [f19] at a1 a2
    rw [f27, f29, hBar b w hb hw, ← hw27] at b1 b2
    rw [f45] at b1
    by_cases q : x.1 19 w = -1 ∧ fx_hasWay (x.1 22 b) (nI w) = false
    · rw [a1 q, b1 ⟨q.1, by rw [q.2]; rfl⟩, least_mLeast]
      refine mLeast_congr n 0 (fun i _ hi => ?_)
      have hi2 : i < n := by omega
      have hz := asd w i hw hi2
      rw [Bool.eq_iff_iff, decide_eq_true_eq, Bool.not_eq_true', decide_eq_false_iff_not, hz, ca5, ask i w hi2 hw, H1 7 (by decide), o1 i hi2]
      constructor
      · rintro ⟨⟨z1, z2⟩, z3⟩ z4
        exact z4 ⟨z1, z2, z3, by rw [q.1]; exact fun z => nI_ne_m1 (by omega) z.symm⟩
      · intro z
        by_cases c : fx_acts x i = true ∧ ¬ cThr x E i ∧ (cNow x E i w ∧ cOdd x E i w = false) ∧ ¬ x.1 19 w = nI i
        · exact ⟨⟨c.1, c.2.1⟩, c.2.2.1⟩
        · exact absurd c z
    · rw [a2 q, b2 (fun z => q ⟨z.1, zb_eq0.mp z.2⟩)]
  · obtain ⟨a1, a2⟩ := H5 j
    obtain ⟨b1, b2⟩ := K5 j
    have hj4 : j / 4 < n := by omega
    rw [G2, M2]
    rw [x2 3 (by decide)] at a1
    rw [x2 2 (by decide)] at a2
    rw [y2] at b1 b2
    by_cases q : fx_acts x (j / 4) = true ∧ cThr x E (j / 4)
    · rw [a1 ⟨hj4, (o2 _ hj4).mpr q⟩, b1 ⟨hj4, (tak _ hj4).1.mpr q⟩]
      exact hBd.2.2.2.2.2.2.1 j hj
    · rw [a2 (fun z => q ((o2 _ hj4).mp z.2)), b2 (fun z => q ((tak _ hj4).1.mp z.2))]
      exact hBd.2.2.2.2.2.1 j hj
  · simp only [List.mem_cons, List.not_mem_nil, or_false, not_or] at hg
    rw [M1 g (by omega), K1 g (by simp [hg]), yk g (by simp [hg])]
  · rw [M2, K2 g hg, y2]
  · rw [d38, d39, d40, (K4 j).2 (fun z => by omega)]
    exact old j hj
  · rw [d38]; exact (new j q1 q2).1
  · rw [M1 41 (by decide), K1 41 (by decide)]; exact y41
  · unfold mAct
    rw [d42, d44]
    exact (tak u hu).2
