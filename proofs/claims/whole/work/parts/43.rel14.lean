theorem pass_end {n E b t N : Nat} {x y C D : zS} (h : Rl n E b t x y) (hn : n ≤ 8) (hb : b < 64) (hNn : N ≤ n) (hC : StC n E b t N x y C D) : Rl n E (b + 1) (t + N) (zit (fx_log1 (nI b)) N 0 (fx_keep n b (fx_settle n E C))) (fm_endF b (zit (fm_end3 E (t + N)) n 0 D)) ∧ (zit (fx_log1 (nI b)) N 0 (fx_keep n b (fx_settle n E C))).2 1 = C.2 1 := by
  obtain ⟨xk, x2, ord, out, ask, giv, mode, kin, own, val, yk, y2, old, new, y41, act⟩ := hC
  obtain ⟨⟨e1, e2, hE3, hE⟩, hI, hT, hU, hBd, hBar, hTu, hCl⟩ := h
  have htb : t ≤ n * 64 := Nat.le_trans hTu.2.2.1 (Nat.mul_le_mul_left n hBd.2.2.1)
  have htn : n * 64 ≤ 8 * 64 := Nat.mul_le_mul_right 64 hn
  -- entries of D and of C
  have k1 : ∀ e, e < E → (D.1 30 e = 1 ↔ x.1 8 e = 1) ∧ (D.1 30 e = 0 ↔ x.1 8 e = 0) := fun e he => by
    obtain ⟨a1, a2⟩ := kin e he
    rw [← a1]
    rcases a2 with q | ⟨q1, q2⟩
    · rw [q]; exact ⟨Iff.rfl, Iff.rfl⟩
    · rw [q1, q2]; decide
  have d31 : ∀ e, e < E → D.1 31 e = x.1 9 e := fun e he => by rw [yk 31 (by decide)]; exact (hE e he).2.1.symm
  have d32 : ∀ e, e < E → D.1 32 e = x.1 10 e := fun e he => by rw [yk 32 (by decide)]; exact (hE e he).2.2.1.symm
  have d33 : ∀ e, e < E → D.1 33 e = x.1 11 e := fun e he => by rw [yk 33 (by decide)]; exact (hE e he).2.2.2.1.symm
  have d35 : ∀ u, u < n → D.1 35 u = x.1 0 u := fun u hu => by rw [yk 35 (by decide)]; exact (hU u hu).1.symm
  have hz : ∀ e, e < E → (D.1 30 e = 1 ↔ x.1 8 e = 1) ∧ D.1 31 e = x.1 9 e ∧ D.1 32 e = x.1 10 e ∧ D.1 33 e = x.1 11 e := fun e he => ⟨(k1 e he).1, d31 e he, d32 e he, d33 e he⟩
  have hW : ∀ e, e < E → D.1 30 e = 1 → zin (D.1 33 e) 16 := fun e he q => by
    rw [d33 e he]; exact (hI e he).2.2.2.1 ((k1 e he).1.mp q)
  have hS : ∀ e, e < E → D.1 30 e = 0 → tn (D.1 33 e) / 4 = tn (D.1 31 e) := fun e he q => by
    rw [d33 e he, d31 e he]; exact ((hI e he).2.2.1 ((k1 e he).2.mp q)).2
  have d26 : D.1 26 0 = nI b := by rw [yk 26 (by decide)]; exact hBd.2.1
  have h38 : ∀ j, t ≤ j → j < t + N → D.1 38 j = D.1 26 0 := fun j q1 q2 => by rw [d26]; exact new j q1 q2
  have h38b : t = 0 ∨ ¬ D.1 38 (t - 1) = D.1 26 0 := by
    rcases Nat.eq_zero_or_pos t with q | q
    · exact Or.inl q
    · refine Or.inr (fun z => ?_)
      rw [d26, (old (t - 1) (by omega)).1] at z
      have hz := (hTu.2.2.2 (t - 1) (by omega)).2.2.2
      rw [z] at hz
      have := hz.2
      rw [tn_nI (by omega)] at this
      omega
  obtain ⟨R1, R2, R3, R4, R5, R6⟩ := end3_facts (n := n) hn hW hS (Nat.le_add_right t N) h38 h38b
  -- outcomes
  have c7 : ∀ u, u < n → (C.1 7 u = 1 ↔ mAct D u) ∧ ¬ C.1 7 u = 0 := fun u hu => by
    obtain ⟨a1, a2⟩ := out u hu
    rw [act u hu]
    by_cases qa : fx_acts x u = true
    · by_cases qt : cThr x E u
      · rw [(a1 qa).1 qt]; exact ⟨⟨fun z => absurd z (by decide), fun z => absurd qt z.2⟩, by decide⟩
      · rw [(a1 qa).2 qt]; exact ⟨⟨fun _ => ⟨qa, qt⟩, fun _ => rfl⟩, by decide⟩
    · rw [a2 qa]; exact ⟨⟨fun z => absurd z (by decide), fun z => absurd z.1 qa⟩, by decide⟩
  have hdone : ∀ u, u < n → (cDone C u ↔ mDone D E u) := fun u hu => by
    unfold cDone mDone
    rw [(c7 u hu).1, ownsAll_iff, mOwns_iff]
    refine and_congr Iff.rfl ⟨fun H => ⟨rfl, fun e _ he hN hG => ?_⟩, fun H w _ hw hA => ?_⟩
    · have he2 : e < E := by omega
      have hw := hW e he2 (of_decide_eq_true hN).1
      rw [← own _ hw.2]
      refine H _ (by omega) (by have := hw.2; omega) ?_
      rw [ask u _ hu hw.2]
      exact (gask2 hE3 hz (d35 u hu) false).mp ⟨e, he2, hN, hG, hw.1⟩
    · have hw2 : w < 16 := by omega
      obtain ⟨e, he, q1, q2, q3⟩ := (gask2 hE3 hz (d35 u hu) false).mpr ((ask u w hu hw2).mp hA)
      have := H.2 e (by omega) (by omega) q1 q2
      rw [q3, tn_nI (by omega), ← own w hw2] at this
      exact this
  obtain ⟨S1a, S1b, S1c⟩ := set1_facts n C
  obtain ⟨S1, hS1⟩ : ∃ S1, S1 = zit fx_set1 n 0 C := ⟨_, rfl⟩
  rw [← hS1] at S1a S1b S1c
  obtain ⟨Sa, Sb⟩ := steps_facts E S1
  have Sc := kp_steps E S1
  obtain ⟨S, hSd⟩ : ∃ S, S = fx_doSteps E S1 := ⟨_, rfl⟩
  rw [← hSd] at Sa Sb Sc
  obtain ⟨P1, P2, P3, P4⟩ := set2_facts n hn S
  have eset : fx_settle n E C = zit fx_set2 n 0 S := by rw [hSd, hS1]; rfl
  rw [eset]
  obtain ⟨X7, hX7⟩ : ∃ X7, X7 = zit fx_set2 n 0 S := ⟨_, rfl⟩
  rw [← hX7] at P1 P2 P3 P4 ⊢
  have s70 : ∀ u, u < n → (S.1 7 u = 0 ↔ mDone D E u) := fun u hu => by
    rw [Sc]
    by_cases q : cDone C u
    · rw [(S1c u hu).1 q]; exact ⟨fun _ => (hdone u hu).mp q, fun _ => rfl⟩
    · rw [(S1c u hu).2 q]; exact ⟨fun z => absurd z (c7 u hu).2, fun z => absurd ((hdone u hu).mpr z) q⟩
  have s71 : ∀ u, u < n → (S.1 7 u = 1 ↔ mWait D E u) := fun u hu => by
    rw [Sc]
    by_cases q : cDone C u
    · rw [(S1c u hu).1 q]; exact ⟨fun z => absurd z (by decide), fun z => absurd ((hdone u hu).mp q).2 z.2⟩
    · rw [(S1c u hu).2 q, (c7 u hu).1]
      exact ⟨fun z => ⟨z, fun w => q ((hdone u hu).mpr ⟨z, w⟩)⟩, fun z => z.1⟩
  have s7n : ∀ u, u < n → ¬ mAct D u → S.1 7 u = C.1 7 u := fun u hu q => by
    rw [Sc]; exact (S1c u hu).2 (fun z => q ((hdone u hu).mp z).1)
  have sk : ∀ g, g ≠ 7 → S.1 g = C.1 g := fun g hg => by rw [Sc, S1a g hg]
  -- the ways given back
  have hback : ∀ w, w < 16 → (cBack S n w ↔ mBack D E n w) := fun w hw => by
    unfold cBack mBack
    refine exists_congr fun v => ⟨fun ⟨v1, v2, v3, v4⟩ => ⟨v1, (s70 v v1).mp v2, ?_, ?_⟩, fun ⟨v1, v2, v3, v4⟩ => ⟨v1, (s70 v v1).mpr v2, ?_, ?_⟩⟩
    · have eg : fx_given S v = fx_given C v := by unfold fx_given; rw [sk 5 (by decide), sk 6 (by decide)]
      rw [eg, giv v w v1 hw] at v3
      exact (gask2 hE3 hz (d35 v v1) true).mpr v3
    · rw [← own w hw, ← sk 19 (by decide)]; exact v4
    · have eg : fx_given S v = fx_given C v := by unfold fx_given; rw [sk 5 (by decide), sk 6 (by decide)]
      rw [eg, giv v w v1 hw]
      exact (gask2 hE3 hz (d35 v v1) true).mp v3
    · rw [sk 19 (by decide), own w hw]; exact v4
  obtain ⟨Q1, Q2, Q3, Q4, Q5, Q6, Q7⟩ := keep_facts n b X7
  obtain ⟨X8, hX8⟩ : ∃ X8, X8 = fx_keep n b X7 := ⟨_, rfl⟩
  rw [← hX8] at Q1 Q2 Q3 Q4 Q5 Q6 Q7 ⊢
  have q8 : ∀ g, g ∉ [20, 21, 19, 0, 2, 7, 4, 5, 6, 13, 14, 8, 3] → X8.1 g = x.1 g := fun g hg => by
    simp only [List.mem_cons, List.not_mem_nil, or_false, not_or] at hg
    rw [Q1 g (by simp [hg]), P1 g (by simp [hg]), sk g (by omega), xk g (by simp [hg])]
  obtain ⟨L1, L2, L3, L4, L5⟩ := logs_facts (nI b) t N (by omega) X8 (by rw [q8 18 (by decide)]; exact hTu.1)
  obtain ⟨X9, hX9⟩ : ∃ X9, X9 = zit (fx_log1 (nI b)) N 0 X8 := ⟨_, rfl⟩
  rw [← hX9] at L1 L2 L3 L4 L5 ⊢
  obtain ⟨Y6, hY6⟩ : ∃ Y6, Y6 = zit (fm_end3 E (t + N)) n 0 D := ⟨_, rfl⟩
  rw [← hY6] at R1 R2 R3 R4 R5 R6 ⊢
  obtain ⟨F1, F2, F3, F4, F5, F6, F7⟩ := endF_facts b Y6
  obtain ⟨Y7, hY7⟩ : ∃ Y7, Y7 = fm_endF b Y6 := ⟨_, rfl⟩
  rw [← hY7] at F1 F2 F3 F4 F5 F6 F7 ⊢
  -- what X9 and Y7 are
  have x9 : ∀ g, g ∉ [20, 21, 19, 0, 2, 7, 4, 5, 6, 13, 14, 8, 3, 15, 16, 17, 18] → X9.1 g = x.1 g := fun g hg => by
    simp only [List.mem_cons, List.not_mem_nil, or_false, not_or] at hg
    rw [L1 g (by simp [hg]), q8 g (by simp [hg])]
  have x9s : ∀ g, g ∉ [20, 21, 19, 0, 2, 15, 16, 17, 18] → X9.1 g = S.1 g := fun g hg => by
    simp only [List.mem_cons, List.not_mem_nil, or_false, not_or] at hg
    rw [L1 g (by simp [hg]), Q1 g (by simp [hg]), P1 g (by simp [hg])]
  have x97 : ∀ g, g ∉ [20, 21, 15, 16, 17, 18] → X9.1 g = X7.1 g := fun g hg => by
    simp only [List.mem_cons, List.not_mem_nil, or_false, not_or] at hg
    rw [L1 g (by simp [hg]), Q1 g (by simp [hg])]
  have y7 : ∀ g, g ∉ [28, 26, 27, 35, 36, 40] → Y7.1 g = D.1 g := fun g hg => by
    simp only [List.mem_cons, List.not_mem_nil, or_false, not_or] at hg
    rw [F1 g (by simp [hg]), R1 g (by simp [hg])]
  have hvals : ∀ j, j < n * 4 → X7.2 2 j = Y6.2 5 j := fun j hj => by
    have hj4 : j / 4 < n := by omega
    obtain ⟨r1, r2⟩ := R6 j
    rw [P2, Sb j, S1b]
    have hst : ∀ i, i < E → (stepP S1 j i = true ↔ (mDone D E (j / 4) ∧ mStp D (j / 4) j i = true)) := fun i hi => by
      unfold stepP mStp
      rw [decide_eq_true_eq, decide_eq_true_eq, S1a 8 (by decide), S1a 9 (by decide), S1a 10 (by decide), S1a 11 (by decide), S1a 0 (by decide), xk 9 (by decide), xk 10 (by decide), xk 11 (by decide), xk 0 (by decide), ← Sc, d33 i hi]
      obtain ⟨z1, z2, z3, -, -⟩ := hI i hi
      have c8 : C.1 8 i = D.1 30 i := (kin i hi).1
      constructor
      · rintro ⟨a1, a2, a3, a4⟩
        rw [c8] at a1
        have z4 := (z3 ((k1 i hi).2.mp a1)).2
        rw [a4] at z4
        rw [← z4] at a2 a3
        refine ⟨(s70 _ hj4).mp a2, decide_eq_true ⟨a1, ?_, ?_⟩, a4⟩
        · rw [d31 i hi, z4]; exact z1.1
        · rw [d32 i hi, d35 _ hj4]; exact a3
      · rintro ⟨a1, a2, a3⟩
        obtain ⟨b1, b2, b3⟩ := of_decide_eq_true a2
        rw [d31 i hi] at b2
        rw [d32 i hi, d35 _ hj4] at b3
        rw [b2, tn_nI (by omega), c8]
        exact ⟨b1, (s70 _ hj4).mpr a1, b3, a3⟩
    by_cases q : mDone D E (j / 4)
    · rw [r1 ⟨hj4, q⟩]
      refine lastv_congr (val j hj) E (fun i hi => ?_) (fun i hi => ?_)
      · rw [Bool.eq_iff_iff, hst i hi]
        exact ⟨fun z => z.2, fun z => ⟨q, z⟩⟩
      · rw [x2 0 (by decide) (by decide), y2 8 (by decide)]
        exact (hE i hi).2.2.2.2
    · rw [r2 (fun z => q z.2), lastv_none E (fun i hi => ?_)]
      · exact val j hj
      · cases hs : stepP S1 j i with
        | false => rfl
        | true => exact absurd ((hst i hi).mp hs).1 q
  have howns : ∀ w, w < 16 → X7.1 19 w = Y6.1 27 w := fun w hw => by
    obtain ⟨a1, a2⟩ := P3 w hw
    obtain ⟨b1, b2⟩ := R3 w hw
    rw [hback w hw] at a1 a2
    by_cases q : mBack D E n w
    · rw [a1 q, b1 q]
    · rw [a2 q, b2 q, sk 19 (by decide)]; exact own w hw
  have x8 : ∀ e, X9.1 8 e = C.1 8 e := fun e => by rw [x9s 8 (by decide), sk 8 (by decide)]
  have x9a : X9.1 9 = x.1 9 := x9 9 (by decide)
  have x9b : X9.1 10 = x.1 10 := x9 10 (by decide)
  have x9c : X9.1 11 = x.1 11 := x9 11 (by decide)
  have kk : ∀ e, e < E → X9.1 8 e = x.1 8 e ∨ (x.1 8 e = 2 ∧ X9.1 8 e = 3) := fun e he => by rw [x8 e]; exact (kin e he).2
  refine ⟨⟨⟨?_, ?_, hE3, fun e he => ?_⟩, fun e he => ?_, fun e f he hf q1 q2 q3 q4 => ?_, fun u hu => ?_, ⟨?_, F3, by omega, fun w hw => ?_, fun s w hs hw => ?_, fun k hk => ?_, fun k hk => ?_, fun s k hs hk => ?_⟩, fun s w hs hw => ?_, ⟨L3, ?_, ?_, fun k hk => ?_⟩, ?_⟩, ?_⟩
  · rw [x9 12 (by decide)]; exact e1
  · rw [y7 34 (by decide), yk 34 (by decide)]; exact e2
  · rw [x8 e, x9a, x9b, x9c, y7 30 (by decide), y7 31 (by decide), y7 32 (by decide), y7 33 (by decide), d31 e he, d32 e he, d33 e he]
    refine ⟨(kin e he).1, rfl, rfl, rfl, ?_⟩
    rw [L2, Q2 0 (by decide), P2, Sa 0 (by decide), S1b, x2 0 (by decide) (by decide), F2 8 (by decide), R2 8 (by decide), y2 8 (by decide)]
    exact (hE e he).2.2.2.2
  · obtain ⟨i1, i2, i3, i4, i5⟩ := hI e he
    rw [x9a, x9b, x9c]
    refine ⟨i1, i2, ?_, ?_, ?_⟩
    all_goals
      rcases kk e he with q | ⟨-, q⟩
      · rw [q]; assumption
      · rw [q]; intro z; exact absurd z (by decide)
  · have g1 : ∀ e, e < E → X9.1 8 e = 2 → x.1 8 e = 2 := fun e he q => by
      rcases kk e he with z | ⟨z, -⟩
      · rw [← z]; exact q
      · exact z
    rw [x9a] at q3
    rw [x9b] at q4
    exact hT e f he hf (g1 e he q1) (g1 f hf q2) q3 q4
  · obtain ⟨u1, u2, u3, u4, u5⟩ := hU u hu
    obtain ⟨p1, p2, p3⟩ := P4 u
    obtain ⟨r1, r2, r3⟩ := R4 u
    have v0 : S.1 0 u = x.1 0 u := by rw [sk 0 (by decide), xk 0 (by decide)]
    have v35 : D.1 35 u = y.1 35 u := by rw [yk 35 (by decide)]
    have x91 : X9.1 1 = x.1 1 := x9 1 (by decide)
    have x90 : X9.1 0 u = X7.1 0 u := by rw [x97 0 (by decide)]
    have x92 : X9.1 2 u = X7.1 2 u := by rw [x97 2 (by decide)]
    have x93 : X9.1 3 u = C.1 3 u := by rw [x9s 3 (by decide), sk 3 (by decide)]
    have y735 : Y7.1 35 u = Y6.1 35 u := by rw [F1 35 (by decide)]
    have y736 : Y7.1 36 u = Y6.1 36 u := by rw [F1 36 (by decide)]
    have y737 : Y7.1 37 u = D.1 37 u := by rw [y7 37 (by decide)]
    have s2 : S.1 2 u = C.1 2 u := by rw [sk 2 (by decide)]
    have uu : x.1 0 u = nI (tn (x.1 0 u)) := u2.1
    have ul := u2.2
    have bigz : zin (x.1 0 u) (b + 1 + 1) := ⟨u2.1, by omega⟩
    unfold RMode
    rw [x91, x9a, x9b, x90, x92, x93, y735, y736, y737]
    by_cases qa : mAct D u
    · have qa2 := (act u hu).mp qa
      obtain ⟨m1, m2, m3, m4⟩ := (mode u hu).2 (fun z => qa2.2 z.2)
      have h37 : y.1 37 u = -1 := by
        have ha := qa2.1
        unfold fx_acts at ha
        rw [Bool.and_eq_true, Bool.not_eq_true', decide_eq_false_iff_not] at ha
        rcases u5 with ⟨_, w, _⟩ | ⟨_, w, _⟩ | ⟨w, _⟩
        · exact w
        · exact w
        · exact absurd w ha.1
      by_cases qd : mDone D E u
      · obtain ⟨a1, a2⟩ := p1 ⟨hu, (s70 u hu).mpr qd⟩
        obtain ⟨b1, b2⟩ := r1 ⟨hu, qd⟩
        rw [a1, a2, b1, b2, v0, v35]
        refine ⟨by rw [u1], ?_, u3, u4, Or.inl ⟨rfl, m3.trans h37, rfl⟩⟩
        rw [uu, show nI (tn (x.1 0 u)) + 1 = nI (tn (x.1 0 u) + 1) from nI_1 _]
        exact zin_nI (by omega) (by omega)
      · have qw : mWait D E u := ⟨qa, fun z => qd ⟨qa, z⟩⟩
        obtain ⟨a1, a2⟩ := p2 ⟨hu, (s71 u hu).mpr qw⟩
        obtain ⟨b1, b2⟩ := r2 ⟨hu, qw⟩
        rw [a1, a2, b1, b2, v0, v35]
        exact ⟨u1, bigz, u3, u4, Or.inr (Or.inl ⟨rfl, m3.trans h37, rfl⟩)⟩
    · obtain ⟨a1, a2⟩ := p3 (fun z => by
        rcases z.2 with z | z
        · exact qa ((s70 u hu).mp z).1
        · exact qa ((s71 u hu).mp z).1)
      obtain ⟨b1, b2⟩ := r3 (fun z => qa z.2)
      rw [a1, a2, b1, b2, v0, v35, s2]
      refine ⟨u1, bigz, u3, u4, ?_⟩
      by_cases qt : fx_acts x u = true ∧ cThr x E u
      · obtain ⟨m1, m2, m3, m4⟩ := (mode u hu).1 qt
        rw [m1, m2, m3, m4]
        refine Or.inr (Or.inr ⟨rfl, rfl, nI_ne_m1 (by omega), rfl, ?_⟩)
        have ha := qt.1
        unfold fx_acts fx_ended at ha
        rw [Bool.and_eq_true, Bool.not_not, decide_eq_true_eq] at ha
        exact ha.2
      · obtain ⟨m1, m2, m3, m4⟩ := (mode u hu).2 qt
        rw [m1, m2, m3, m4]
        exact u5
  · rw [L1 21 (by decide)]; exact Q3
  · rw [x97 19 (by decide), F1 27 (by decide)]; exact howns w hw
  · rw [L1 20 (by decide)]
    by_cases q : s = b
    · subst q
      rw [Q4 w hw, F4 w hw]; exact howns w hw
    · have hsb : s < b := by omega
      have m1 : s * 16 + w < b * 16 := zidx hsb hw
      rw [Q5 _ m1, F5 _ (by omega), P1 20 (by decide), sk 20 (by decide), xk 20 (by decide), R1 28 (by decide), yk 28 (by decide)]
      exact hBd.2.2.2.2.1 s w hsb hw
  · rw [L2, Q2 2 (by decide), F2 5 (by decide)]; exact hvals k hk
  · rw [L2, Q2 3 (by decide), P2, Sa 3 (by decide), S1b, x2 3 (by decide) (by decide), F2 6 (by decide), R2 6 (by decide), y2 6 (by decide)]
    exact hBd.2.2.2.2.2.2.1 k hk
  · rw [L2]
    by_cases q : s = b
    · subst q
      rw [Q6 k hk, F6 k (by omega)]; exact hvals k hk
    · have hsb : s < b := by omega
      have m1 : s * (n * 4) + k < b * (n * 4) := zidx hsb hk
      rw [Q7 _ m1, F7 _ (by omega), P2, Sa 4 (by decide), S1b, x2 4 (by decide) (by decide), R2 7 (by decide), y2 7 (by decide)]
      exact hBd.2.2.2.2.2.2.2 s k hsb hk
  · rw [x9 22 (by decide), y7 29 (by decide), yk 29 (by decide)]; exact hBar s w hs hw
  · rw [y7 41 (by decide)]; exact y41
  · rw [Nat.mul_add]; have := hTu.2.2.1; omega
  · by_cases q : k < t
    · obtain ⟨a1, a2, a3⟩ := L5 k q
      obtain ⟨b1, b2, b3⟩ := old k q
      obtain ⟨c1, c2, c3, c4⟩ := hTu.2.2.2 k q
      rw [a1, a2, a3, q8 15 (by decide), q8 16 (by decide), q8 17 (by decide), y7 38 (by decide), y7 39 (by decide), F1 40 (by decide), (R5 k).2 (fun z => by omega), b1, b2, b3]
      exact ⟨c1, c2, c3, c4.1, by have := c4.2; omega⟩
    · obtain ⟨i, hi⟩ : ∃ i, k = t + i := ⟨k - t, by omega⟩
      subst hi
      obtain ⟨a1, a2, a3⟩ := L4 i (by omega)
      obtain ⟨u, v1, v2, v3, v4, v5, v6⟩ := ord i (by omega)
      have e13 : X8.1 13 i = nI u := by rw [Q1 13 (by decide), P1 13 (by decide), sk 13 (by decide)]; exact v2
      rw [a1, a2, a3, e13, tn_nI (by omega), y7 38 (by decide), y7 39 (by decide), F1 40 (by decide), new (t + i) (by omega) (by omega), v3]
      refine ⟨rfl, rfl, ?_, zin_nI (by omega) (by omega)⟩
      have e7 : X8.1 7 u = S.1 7 u := by rw [Q1 7 (by decide), P1 7 (by decide)]
      rw [e7]
      obtain ⟨r1, r2⟩ := R5 (t + i)
      have hun : (t ≤ t + i ∧ t + i < t + N ∧ ∃ v, v < n ∧ mWait D E v ∧ D.1 39 (t + i) = nI v) ↔ mWait D E u := by
        constructor
        · rintro ⟨-, -, v, w1, w2, w3⟩
          have : v = u := (nI_eq (by omega) (by omega)).mp (w3.symm.trans v3)
          subst this
          exact w2
        · exact fun z => ⟨by omega, by omega, u, v1, z, v3⟩
      rw [hun] at r1 r2
      by_cases qw : mWait D E u
      · rw [r1 qw, (s71 u v1).mpr qw]
      · rw [r2 qw]
        by_cases qt : cThr x E u
        · have qa : ¬ mAct D u := fun z => ((act u v1).mp z).2 qt
          rw [s7n u v1 qa, v5 qt]
          exact ((out u v1).1 v4).1 qt
        · have qa : mAct D u := (act u v1).mpr ⟨v4, qt⟩
          have qd : mDone D E u := by
            by_cases z : fm_ownsAll D E u E 0 true = true
            · exact ⟨qa, z⟩
            · exact absurd ⟨qa, z⟩ qw
          rw [(s70 u v1).mpr qd, v6 qt]
  · unfold RCl
    rw [x9 23 (by decide), y7 25 (by decide), yk 25 (by decide)]
    exact hCl
  · rw [L2, Q2 1 (by decide), P2, Sa 1 (by decide), S1b]
theorem pass_eq {n E b t : Nat} {x y : zS} {g : Int64} (h : Rl n E b t x y) (hn : n ≤ 8) (hb : b < 64) (hc : x.1 23 0 = 0) (hg : x.2 1 0 = g) : fx_N n E x = fm_T E n y ∧ Rl n E (b + 1) (t + fm_T E n y) (fx_pass n E b x) (fm_pass n E b t g y) ∧ (fx_pass n E b x).2 1 0 = fm_gg n E t g y := by
  obtain ⟨a1, a2, a3⟩ := stA h hn hc hg
  have hNn : fx_N n E x ≤ n := a2.2.2.1
  obtain ⟨p1, p2⟩ := pass_end h hn hb hNn (stC h hn hb a2)
  have ex : fx_pass n E b x = zit (fx_log1 (nI b)) (fx_N n E x) 0 (fx_keep n b (fx_settle n E (fx_grant n (x.1 22 b) (fx_hold n (nI b) (fx_S4 n E x))))) := rfl
  have ey : fm_pass n E b t g y = fm_endF b (zit (fm_end3 E (t + fm_T E n y)) n 0 (zit (fm_end2 n b) 16 0 (zit (fm_end1 (t + fm_T E n y)) n 0 (fm_turnsOf n E t g (zit fm_ask0 128 0 y)).2))) := rfl
  refine ⟨a1, ?_, ?_⟩
  · rw [ex, ey]
    rw [a1] at p1 ⊢
    exact p1
  · rw [ex, p2, ← a3]
    have g2 : ∀ X : zS, (fx_grant n (x.1 22 b) (fx_hold n (nI b) X)).2 1 = X.2 1 := fun X => by
      rw [(grant_facts n (x.1 22 b) (fx_hold n (nI b) X)).2.1, (hold_facts n (nI b) X).2.1 1 (by decide)]
    rw [g2]
