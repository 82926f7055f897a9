theorem ask0_facts (y : zS) : (∀ g, g ≠ 45 → (zit fm_ask0 128 0 y).1 g = y.1 g) ∧ (zit fm_ask0 128 0 y).2 = y.2 ∧ ∀ j, j < 128 → (zit fm_ask0 128 0 y).1 45 j = 0 := by
  refine zit_inv (step := fm_ask0) (e := 128) (fun k τ => (∀ g, g ≠ 45 → τ.1 g = y.1 g) ∧ τ.2 = y.2 ∧ ∀ j, j < k → τ.1 45 j = 0) ?_ 128 0 y (by omega) ⟨fun _ _ => rfl, rfl, fun j hj => absurd hj (Nat.not_lt_zero j)⟩
  intro k τ hk ⟨h1, h2, h3⟩
  refine ⟨fun g hg => (zi_nf _ _ hg).trans (h1 g hg), h2, fun j hj => ?_⟩
  unfold fm_ask0
  by_cases e : j = k
  · subst e; rw [zi_eq]
  · rw [zi_ni _ _ e]; exact h3 j (by omega)
theorem InvM_Rl {n E b t : Nat} {x y : zS} (h : Rl n E b t x y) (hn : n ≤ 8) : InvM E b t y := by
  obtain ⟨⟨e1, e2, hE3, hE⟩, hI, hT, hU, hBd, hBar, hTu, hCl⟩ := h
  refine ⟨e2, fun e he q => ?_, fun e he q => ?_, hBd.2.1, hTu.2.1⟩
  · obtain ⟨a1, -, -, a4, -⟩ := hE e he
    rw [← a4]
    exact (hI e he).2.2.2.1 (a1.trans q)
  · obtain ⟨a1, -, -, a4, -⟩ := hE e he
    have := ((hI e he).2.2.1 (a1.trans q)).1
    rw [← a4]
    exact ⟨this.1, by have := this.2; omega⟩
theorem InvX_Rl {n E b t : Nat} {x y : zS} (h : Rl n E b t x y) : InvX n E b x := by
  obtain ⟨⟨e1, e2, hE3, hE⟩, hI, hT, hU, hBd, hBar, hTu, hCl⟩ := h
  exact ⟨e1, fun e he => (hI e he).1, fun e he q => ((hI e he).2.2.1 q).1, hBd.1, t, hTu.1, hTu.2.2.1⟩
theorem stA {n E b t : Nat} {x y : zS} {g : Int64} (h : Rl n E b t x y) (hn : n ≤ 8) (hc : x.1 23 0 = 0) (hg : x.2 1 0 = g) : fx_N n E x = fm_T E n y ∧ StA n E b t (fx_N n E x) x y (fx_S4 n E x) (fm_turnsOf n E t g (zit fm_ask0 128 0 y)).2 ∧ (fx_S4 n E x).2 1 0 = fm_gg n E t g y := by
  have hh := h
  have hIM := InvM_Rl h hn
  obtain ⟨⟨e1, e2, hE3, hE⟩, hI, hT, hU, hBd, hBar, hTu, hCl⟩ := h
  obtain ⟨B1, B2, B3⟩ := brief_facts hn hE3 hI
  obtain ⟨X1, hX1⟩ : ∃ X1, X1 = fx_brief n E x := ⟨_, rfl⟩
  rw [← hX1] at B1 B2 B3
  have hS2 : fx_S2 n E x = fx_gather n X1 := by rw [hX1]; rfl
  obtain ⟨G1, G2, G3, G4⟩ := gather_sel hn X1
  obtain ⟨X2, hX2⟩ : ∃ X2, X2 = fx_gather n X1 := ⟨_, rfl⟩
  rw [← hX2] at G1 G2 G3 G4 hS2
  have hact2 : fx_acts X1 = fx_acts x := funext (acts_congr (B1 0 (by decide)) (B1 1 (by decide)) (B1 2 (by decide)))
  rw [hact2] at G3 G4
  obtain ⟨N, hNd⟩ : ∃ N, N = gp (fx_acts x) n := ⟨_, rfl⟩
  rw [← hNd] at G3 G4
  have hNle : N ≤ n := by rw [hNd]; exact gp_le _ _
  have hN : fx_N n E x = N := by unfold fx_N; rw [hS2, G3, tn_nI (by omega)]
  -- the reference
  have hTd : fm_T E n y = (fm_tk E n 0 0 (zit fm_ask0 128 0 y)).1 := rfl
  have hgd : fm_gg n E t g y = (fm_turnsOf n E t g (zit fm_ask0 128 0 y)).1 := rfl
  rw [hTd, hgd]
  obtain ⟨A1, A2, A3⟩ := ask0_facts y
  have hI0 := InvM_ask0 hIM
  obtain ⟨Y0, hY0⟩ : ∃ Y0, Y0 = zit fm_ask0 128 0 y := ⟨_, rfl⟩
  rw [← hY0] at A1 A2 A3 hI0 ⊢
  obtain ⟨T1, T2, T3, T4, T5⟩ := fm_tk_facts E n 0 0 Y0
  obtain ⟨L1, L2, L3⟩ := fm_left_facts n (fm_tk E n 0 0 Y0).2 (fun u hu => ⟨_, T5 u (by omega) (by omega)⟩)
  have hcl := fm_left_cl n E Y0
  have hIT := InvM_turnsOf (n := n) (g := g) hI0
  have eTu : fm_turnsOf n E t g Y0 = fm_draw n E (fm_tk E n 0 0 Y0).1 t g (zit fm_left1 n 0 (fm_tk E n 0 0 Y0).2) := rfl
  rw [eTu] at hIT ⊢
  obtain ⟨Y2, hY2⟩ : ∃ Y2, Y2 = zit fm_left1 n 0 (fm_tk E n 0 0 Y0).2 := ⟨_, rfl⟩
  rw [← hY2] at L1 L2 L3 hcl hIT ⊢
  have k2 : ∀ g, g ∉ [45, 42, 43] → Y2.1 g = y.1 g := fun g hg => by
    simp only [List.mem_cons, List.not_mem_nil, or_false, not_or] at hg
    rw [L1 g hg.2.2, T2 g hg.2.1, A1 g hg.1]
  have hgo : ∀ u, u < n → fm_goes Y0 E u = fx_acts x u := fun u hu => (fm_goes_congr (A1 31 (by decide)) (A1 35 (by decide)) (A1 32 (by decide)) (A1 25 (by decide)) (A1 37 (by decide)) E u).trans (goes_acts hh hc hu)
  have h42 : ∀ u, u < n → Y2.1 42 u = zb (fx_acts x u) := fun u hu => by rw [L1 42 (by decide), T5 u (by omega) (by omega), hgo u hu]
  have h43 : ∀ u, u < n → Y2.1 43 u = zb (fx_acts x u) := fun u hu => by rw [L3 u hu, T5 u (by omega) (by omega), hgo u hu]
  have hlf : ∀ u, u < n → lf Y2 u = fx_acts x u := fun u hu => by
    unfold lf
    rw [h43 u hu]
    cases fx_acts x u <;> rfl
  have hgpu : ∀ u, u ≤ n → gp (lf Y2) u = gp (fx_acts x) u := fun u hu => gp_congr u (fun i hi => hlf i (by omega))
  have hgpn : gp (lf Y2) n = N := by rw [hgpu n (Nat.le_refl n), hNd]
  have hm : (fm_tk E n 0 0 Y0).1 = N := by
    have z := cl_gp Y2 n 0
    rw [hcl, Nat.zero_add] at z
    have z0 : gp (lf Y2) 0 = 0 := rfl
    omega
  rw [hm] at hIT ⊢
  have hOrd : Ord n 0 N X2 Y2 := by
    refine ⟨hgpn, fun i hi => ?_⟩
    obtain ⟨u, u1, u2, u3, u4⟩ := G4 i hi
    refine ⟨u, u1, by rw [Nat.zero_add]; exact u2, by rw [hlf u u1]; exact u3, by rw [hgpu u (by omega)]; exact u4⟩
  have hg2 : X2.2 1 0 = g := by rw [G2, B2]; exact hg
  obtain ⟨D1, D2, D3, D4, D5, D6⟩ := draw_eq (E := E) (show N ≤ 8 by omega) hn N 0 t g X2 Y2 (by omega) hOrd hg2
  have hW : ∀ e, e < E → Y2.1 30 e = 1 → zin (Y2.1 33 e) 16 := fun e he q => by
    rw [k2 30 (by decide)] at q
    rw [k2 33 (by decide)]
    exact hIM.2.1 e he q
  have hUq : mUniq E Y2 := by
    intro e f he hf q1 q2 q3 q4
    rw [k2 30 (by decide)] at q1 q2
    rw [k2 31 (by decide)] at q3
    rw [k2 32 (by decide)] at q4
    obtain ⟨a1, a2, a3, -, -⟩ := hE e he
    obtain ⟨c1, c2, c3, -, -⟩ := hE f hf
    exact hT e f he hf (a1.trans q1) (c1.trans q2) ((a2.trans q3).trans c2.symm) ((a3.trans q4).trans c3.symm)
  obtain ⟨F1, F2, F3, F4, F5, F6, F7⟩ := drawM_facts (n := n) (E := E) hn hE3 N t g Y2 hgpn hW hUq
  obtain ⟨Y3, hY3⟩ : ∃ Y3, Y3 = (fm_draw n E N t g Y2).2 := ⟨_, rfl⟩
  rw [← hY3] at D2 D4 F1 F2 F3 F4 F5 F6 F7 hIT
  rw [← hY3]
  have eS4 : fx_S4 n E x = fx_takeTurns n N (zit (fx_draw1 N) N 0 X2) := by
    unfold fx_S4
    rw [hN, hS2]
    rfl
  have dk1 : ∀ g, g ≠ 13 → (zit (fx_draw1 N) N 0 X2).1 g = X2.1 g := fun g hg => kp_draw hg N X2
  have dk2 : ∀ g, g ≠ 1 → (zit (fx_draw1 N) N 0 X2).2 g = X2.2 g := fun g hg => zit_k2 (step := fx_draw1 N) (fun k τ => by unfold fx_draw1; rw [move_2, zl_nf _ _ hg]) N 0 X2
  rw [hN, eS4]
  obtain ⟨X3, hX3⟩ : ∃ X3, X3 = zit (fx_draw1 N) N 0 X2 := ⟨_, rfl⟩
  rw [← hX3] at D1 D2 D3 D5 D6 dk1 dk2 ⊢
  have x3 : ∀ g, g ∉ [4, 5, 6, 13, 14] → X3.1 g = x.1 g := fun g hg => by
    simp only [List.mem_cons, List.not_mem_nil, or_false, not_or] at hg
    rw [dk1 g hg.2.2.2.1, G1 g (by simp [hg]), B1 g (by simp [hg])]
  have x3b : ∀ g, g ∈ [4, 5, 6] → X3.1 g = X1.1 g := fun g hg => by
    simp only [List.mem_cons, List.not_mem_nil, or_false] at hg
    rw [dk1 g (by omega), G1 g (by simp; omega)]
  obtain ⟨P1, P2⟩ := turns_facts hn X3 (fx_acts x) (N := N) (fun i hi => by
    obtain ⟨u, u1, u2, u3⟩ := D5 i (by omega) hi
    exact ⟨u, u1, u2, by rw [← hlf u u1]; exact u3⟩) (fun u hu ha => by
    obtain ⟨i, i1, i2, i3⟩ := D6 u hu (by rw [hlf u hu]; exact ha)
    exact ⟨i, i2, i3⟩)
  have tk1 : ∀ g, g ≠ 7 → (fx_takeTurns n N X3).1 g = X3.1 g := fun g hg => kp_turns hg n N X3
  obtain ⟨X4, hX4⟩ : ∃ X4, X4 = fx_takeTurns n N X3 := ⟨_, rfl⟩
  rw [← hX4] at P1 P2 tk1 ⊢
  have e5 : X4.1 5 = X1.1 5 := by rw [tk1 5 (by decide), x3b 5 (by decide)]
  have e6 : X4.1 6 = X1.1 6 := by rw [tk1 6 (by decide), x3b 6 (by decide)]
  have e4 : X3.1 4 = X1.1 4 := x3b 4 (by decide)
  have y30 : Y2.1 30 = y.1 30 := k2 30 (by decide)
  have y31 : Y2.1 31 = y.1 31 := k2 31 (by decide)
  have y32 : Y2.1 32 = y.1 32 := k2 32 (by decide)
  have y33 : Y2.1 33 = y.1 33 := k2 33 (by decide)
  have y35 : Y2.1 35 = y.1 35 := k2 35 (by decide)
  have hThr : ∀ u, u < n → (mThr Y2 E u ↔ cThr x E u) := fun u hu => by
    rw [← thr_iff hh hu]
    unfold mThr
    rw [y30, y31, y32, y35]
  have hAsk : ∀ u w, u < n → (mAsk Y2 E u w ↔ (cNow x E u w ∧ cOdd x E u w = false)) := fun u w hu => by
    rw [mAsk_congr (fun k => by rw [y30]) y31 y32 y33 y35 E u w]
    exact gask_iff hh hu false
  have h42b : ∀ u, u < n → (¬ Y3.1 42 u = 0 ↔ fx_acts x u = true) := fun u hu => by
    rw [F1 42 (by decide), h42 u hu]
    cases fx_acts x u <;> decide
  have c4 : ∀ u, u < n → (X1.1 4 u = -1 ↔ ¬ cThr x E u) := fun u hu => by
    rcases (B3 u hu).1 with ⟨q1, q2⟩ | ⟨e, q1, q2, q3⟩
    · exact ⟨fun _ => q2, fun _ => q1⟩
    · rw [q2]
      exact ⟨fun z => absurd z (nI_ne_m1 (by omega)), fun z => absurd ⟨e, q1, q3⟩ z⟩
  refine ⟨rfl, ⟨fun g hg => ?_, fun g hg => ?_, hNle, fun i hi => ?_, fun u hu => ⟨fun ha => ?_, fun ha => (P2 u hu).2 ha⟩, fun u hu ht => ?_, fun u w hu hw => ?_, fun u w hu hw => ?_, fun g hg => ?_, ?_, fun j hj => ?_, fun j hj1 hj2 => ?_, hIT.2.2.2.2, fun u hu => ?_, fun e he => ?_, fun w v hw hv => ?_⟩, ?_⟩
  · simp only [List.mem_cons, List.not_mem_nil, or_false, not_or] at hg
    rw [tk1 g hg.2.2.2.2.2, x3 g (by simp [hg])]
  · rw [P1, dk2 g hg, G2, B2]
  · obtain ⟨u, u1, u2, u3⟩ := D5 i (by omega) hi
    refine ⟨u, u1, by rw [tk1 13 (by decide)]; exact u2, ?_, by rw [← hlf u u1]; exact u3⟩
    rw [← u2, D2 i (by omega) hi, Nat.sub_zero]
  · rw [(P2 u hu).1 ha, e4]
    refine ⟨fun z => if_neg (fun w => (c4 u hu).mp w z), fun z => if_pos ((c4 u hu).mpr z)⟩
  · rcases (B3 u hu).1 with ⟨q1, q2⟩ | ⟨e, q1, q2, q3⟩
    · exact absurd ht q2
    · exact ⟨e, q1, by rw [tk1 4 (by decide), e4]; exact q2, q3⟩
  · rw [asked_bt _ _ hw, e5, e6, (B3 u hu).2.2 w hw, Bool.and_eq_true, (B3 u hu).2.1 w hw, Bool.not_eq_true']
  · rw [given_bt _ _ hw, e5, e6, (B3 u hu).2.2 w hw, Bool.and_eq_true, (B3 u hu).2.1 w hw]
  · simp only [List.mem_cons, List.not_mem_nil, or_false, not_or] at hg
    rw [F1 g (by simp [hg]), k2 g (by simp [hg])]
  · rw [F2, L2, T3, A2]
  · obtain ⟨a1, a2⟩ := F3 j hj
    rw [a1, a2, D4 j hj, k2 38 (by decide), k2 39 (by decide), k2 40 (by decide)]
    exact ⟨rfl, rfl, rfl⟩
  · obtain ⟨a1, a2⟩ := F4 j hj1 hj2
    rw [a1, a2, k2 26 (by decide)]
    exact ⟨hBd.2.1, rfl⟩
  · have hF := (F5 u hu).1
    rw [hThr u hu, hlf u hu] at hF
    unfold mThw mAct
    rw [h42b u hu]
    refine ⟨⟨fun z => ⟨z.1, ?_⟩, fun z => ⟨z.1, ?_⟩⟩, ⟨fun z => ⟨z.1, fun w => ?_⟩, fun z => ⟨z.1, (hF z.1).2 z.2⟩⟩⟩
    · by_cases q : cThr x E u
      · exact q
      · exact absurd ((hF z.1).2 q) z.2
    · rw [(hF z.1).1 z.2]; decide
    · have := (hF z.1).1 w
      rw [z.2] at this
      exact absurd this (by decide)
  · have hk : mHit n Y2 e ↔ kHit n x e := by
      obtain ⟨a1, a2, a3, -, -⟩ := hE e he
      unfold mHit kHit
      rw [y30, y31, y32, y35, ← a1, ← a2, ← a3]
      refine and_congr Iff.rfl (exists_congr fun v => ⟨fun ⟨v1, v2, v3, v4⟩ => ⟨v1, by rw [← hlf v v1]; exact v2, v3, by rw [(hU v v1).1]; exact v4⟩, fun ⟨v1, v2, v3, v4⟩ => ⟨v1, by rw [hlf v v1]; exact v2, v3, by rw [← (hU v v1).1]; exact v4⟩⟩)
    obtain ⟨a1, a2⟩ := F6 e he
    rw [hk] at a1 a2
    refine ⟨a1, fun z => ?_⟩
    rw [a2 z, y30, (hE e he).1]
  · obtain ⟨a1, a2⟩ := F7 w v hw hv
    have o : Y2.1 27 w = x.1 19 w := by rw [k2 27 (by decide)]; exact (hBd.2.2.2.1 w hw).symm
    have z45 : Y2.1 45 (8 * w + v) = 0 := by rw [L1 45 (by decide), T2 45 (by decide)]; exact A3 _ (by omega)
    rw [hlf v hv, hThr v hv, hAsk v w hv, o] at a1 a2
    rw [z45] at a2
    refine ⟨fun z q => ?_, a2⟩
    have := a1 q
    rw [z] at this
    exact absurd this (by decide)
  · rw [P1, D1]
