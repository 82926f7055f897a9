set_option maxHeartbeats 4000000 in
set_option maxRecDepth 100000 in
theorem c_Ut_passSecond (l : Launch) (κ : KA) (σ : zS) (hn : nA κ ≤ 8) (E : Nat) (hE3 : E ≤ 300) (b : Nat) (hI : InvX (nA κ) E b σ) (hlt : b < 64) : zMv l y_Ut_passSecond (zws y_Ut_passSecond prog_1_method_24_code 4 none) ({ frames := 3, cells := 0, slots := 0, locals := 68 }) κ.1 vwCl (tysA κ) nwA (wA κ) σ [.ref (aA κ 0)] (fun σ' => σ' = fx_pass (nA κ) E b σ) := by
  refine zintro (cc := prog_1_method_24_code) (maxL := 4) (ret := none) (by decide) rfl (Nat.le_of_ble_eq_true rfl) ?_
  intro p e s m below meth c ls hx hb hr hml hts hown hlocks hl B
  have hl : lv_has ls 4 [(0, .ref (aA κ 0))] := hl
  have B : BA κ (va_A (wA κ σ) s.heap.size) s.heap s σ s.heap [] := B
  have hr : meth.sig.returnType = none := hr
  have hown : s.vm.findClass "UnitThreads" = some m.cls := hown
  show W p l e (headSpec (zws y_Ut_passSecond prog_1_method_24_code 4 none) ({ frames := 3, cells := 0, slots := 0, locals := 68 })).room s m [.ref (aA κ 0)].toArray below meth c s.heap [] 0 0 (MQ below (va_Qv (fun σ' => σ' = fx_pass (nA κ) E b σ) (zQ κ.1 vwCl (tysA κ) (wA κ) (va_A (wA κ σ) s.heap.size)) (va_A (wA κ σ) s.heap.size)) [.ref (aA κ 0)].toArray s 0 0 (va_A (wA κ σ) s.heap.size)) (F0 m 0 ls [])
  generalize va_A (wA κ σ) s.heap.size = A at B ⊢
  have hts : ∀ w ∈ zW, w.before [.ref (aA κ 0)].toArray s = true := fun w h => hts w (List.mem_cons_of_mem _ h)
  obtain ⟨N, hNe⟩ : ∃ N, N = fx_N (nA κ) E σ := ⟨_, rfl⟩
  obtain ⟨hN, hNn, hO⟩ := fx_N_facts (E := E) hn σ
  rw [← hNe] at hN hNn hO
  have hN : (fx_gather (nA κ) (fx_brief (nA κ) E σ)).1 14 0 = nI N := hN
  have hE := hI.1
  have hU := hI.2.1
  have hN2 : (fx_draw N (fx_gather (nA κ) (fx_brief (nA κ) E σ))).1 14 0 = nI N := (congrFun (kp_draw (by decide) _ _) 0).trans hN
  have hO2 : ∀ i, i < N → zin ((fx_draw N (fx_gather (nA κ) (fx_brief (nA κ) E σ))).1 13 i) (nA κ) := draw_facts (by omega) _ hO
  have eS4 : fx_S4 (nA κ) E σ = fx_takeTurns (nA κ) N (fx_draw N (fx_gather (nA κ) (fx_brief (nA κ) E σ))) := by rw [hNe]; rfl
  have hE4 : (fx_takeTurns (nA κ) N (fx_draw N (fx_gather (nA κ) (fx_brief (nA κ) E σ)))).1 12 0 = nI E := by rw [← eS4, kp_S4 (by decide)]; exact hE
  have hT4 : ∀ u, u < nA κ → (fx_takeTurns (nA κ) N (fx_draw N (fx_gather (nA κ) (fx_brief (nA κ) E σ)))).1 7 u = 2 → zin ((fx_takeTurns (nA κ) N (fx_draw N (fx_gather (nA κ) (fx_brief (nA κ) E σ)))).1 4 u) E := by rw [← eS4]; exact S4_throw hE3 σ
  have eS5 : fx_S5 (nA κ) E b σ = fx_hold (nA κ) (nI b) (fx_takeTurns (nA κ) N (fx_draw N (fx_gather (nA κ) (fx_brief (nA κ) E σ)))) := by rw [← eS4]; rfl
  have h22 : (fx_hold (nA κ) (nI b) (fx_takeTurns (nA κ) N (fx_draw N (fx_gather (nA κ) (fx_brief (nA κ) E σ))))).1 22 b = σ.1 22 b := by rw [← eS5, kp_S5 (by decide)]
  have hI6 := InvX_S7 hI
  rw [eS5] at hI6
  have hbs7 : (fx_settle (nA κ) E (fx_grant (nA κ) (σ.1 22 b) (fx_hold (nA κ) (nI b) (fx_takeTurns (nA κ) N (fx_draw N (fx_gather (nA κ) (fx_brief (nA κ) E σ))))))).1 21 0 = nI b := by rw [kp_settle (by decide), kp_grant (by decide), ← eS5, kp_S5 (by decide)]; exact hI.2.2.2.1
  have eS8 : fx_S8 (nA κ) E b σ = fx_keep (nA κ) b (fx_settle (nA κ) E (fx_grant (nA κ) (σ.1 22 b) (fx_hold (nA κ) (nI b) (fx_takeTurns (nA κ) N (fx_draw N (fx_gather (nA κ) (fx_brief (nA κ) E σ))))))) := by rw [← eS5]; rfl
  obtain ⟨t0, ht0, htb⟩ := hI.2.2.2.2
  have htb2 : nA κ * b ≤ nA κ * 63 := Nat.mul_le_mul_left _ (by omega)
  have ht8 : (fx_S8 (nA κ) E b σ).1 18 0 = nI t0 := by rw [kp_S8 (by decide)]; exact ht0
  have hN8 : (fx_S8 (nA κ) E b σ).1 14 0 = nI N := by rw [eS8, kp_keep (by decide), kp_settle (by decide), kp_grant (by decide), kp_hold (by decide), kp_turns (by decide)]; exact hN2
  have hO8 : ∀ i, i < N → zin ((fx_S8 (nA κ) E b σ).1 13 i) (nA κ) := by rw [eS8, kp_keep (by decide), kp_settle (by decide), kp_grant (by decide), kp_hold (by decide), kp_turns (by decide)]; exact hO2
  rw [eS8] at ht8 hN8 hO8
  have L_69 : ∀ (j : Nat) (k : Nat) (t : Nat) (τ : zS), k + j = N ∧ t + j ≤ nA κ * 64 → (fx_pass (nA κ) E b σ = zit (fx_log1 (nI b)) j k τ) → (τ.1 18 0 = nI t) → (τ.1 14 0 = nI N) → (∀ i, i < N → zin (τ.1 13 i) (nA κ)) → ∀ (H : Heap) (locs : List Loc), BA κ A s.heap s τ H locs → ∀ (ls : Array Slot), lv_has ls 4 [(0, .ref (aA κ 0)), (1, .int (nI b)), (2, .int (nI k))] → W p l e (headSpec (zws y_Ut_passSecond prog_1_method_24_code 4 none) ({ frames := 3, cells := 0, slots := 0, locals := 68 })).room s m [.ref (aA κ 0)].toArray below meth c H locs 0 0 (MQ below (va_Qv (fun σ' => σ' = fx_pass (nA κ) E b σ) (zQ κ.1 vwCl (tysA κ) (wA κ) A) A) [.ref (aA κ 0)].toArray s 0 0 A) (F0 m 69 ls []) := by
    intro j
    induction j with
    | zero =>
      intro k t τ hj hst ht hN hO H locs B ls hl
      refine lv_iload_n hx hb d_Ut_passSecond_69 rfl (lv_at hl 2 rfl) ?_
      refine lv_aload_n hx hb d_Ut_passSecond_70 rfl (lv_at hl 0 rfl) ?_
      refine va_get (D := κ.1) (ci := 5) (v := .ref (aA κ 8)) (C := "UnitThreads") (T := T_Ut) (N := 7) hx hb hts in_Ut hown B.1 B.2.1 0 (wa_0 κ τ) rfl 2 (by decide) (hts _ w_169) (fun _ h9 => h9) rfl d_Ut_passSecond_71 ?_
      refine va_get (D := κ.1) (ci := 2) (v := .int (τ.1 14 0)) (C := "UnitThreads$Order") (T := T_Or) (N := 3) hx hb hts in_Or hown B.1 B.2.1 8 (wa_8 κ τ) rfl 1 (by decide) (hts _ w_105) (fun _ h9 => h9) rfl d_Ut_passSecond_74 ?_
      refine zrwi (y := nI N) (hN) ?_
      refine lv_icmp_ge (tgt := 114) hx hb d_Ut_passSecond_77 (by decide) (fun c_1 => ?_) (fun c_1 => ?_)
      · have c_1 := (nI_leI (a := N) (b := k) (by omega) (by omega)).mp c_1
        exact zret_v hx hb hr hlocks B (hst.symm) d_Ut_passSecond_114
      · have c_1 := (not_congr (nI_leI (a := N) (b := k) (by omega) (by omega))).mp c_1
        exact absurd c_1 (by omega)
    | succ j ih =>
      intro k t τ hj hst ht hN hO H locs B ls hl
      refine lv_iload_n hx hb d_Ut_passSecond_69 rfl (lv_at hl 2 rfl) ?_
      refine lv_aload_n hx hb d_Ut_passSecond_70 rfl (lv_at hl 0 rfl) ?_
      refine va_get (D := κ.1) (ci := 5) (v := .ref (aA κ 8)) (C := "UnitThreads") (T := T_Ut) (N := 7) hx hb hts in_Ut hown B.1 B.2.1 0 (wa_0 κ τ) rfl 2 (by decide) (hts _ w_169) (fun _ h9 => h9) rfl d_Ut_passSecond_71 ?_
      refine va_get (D := κ.1) (ci := 2) (v := .int (τ.1 14 0)) (C := "UnitThreads$Order") (T := T_Or) (N := 3) hx hb hts in_Or hown B.1 B.2.1 8 (wa_8 κ τ) rfl 1 (by decide) (hts _ w_105) (fun _ h9 => h9) rfl d_Ut_passSecond_74 ?_
      refine zrwi (y := nI N) (hN) ?_
      refine lv_icmp_ge (tgt := 114) hx hb d_Ut_passSecond_77 (by decide) (fun c_2 => ?_) (fun c_2 => ?_)
      · have c_2 := (nI_leI (a := N) (b := k) (by omega) (by omega)).mp c_2
        exact absurd c_2 (by omega)
      · have c_2 := (not_congr (nI_leI (a := N) (b := k) (by omega) (by omega))).mp c_2
        refine lv_aload_n hx hb d_Ut_passSecond_80 rfl (lv_at hl 0 rfl) ?_
        refine va_get (D := κ.1) (ci := 5) (v := .ref (aA κ 8)) (C := "UnitThreads") (T := T_Ut) (N := 7) hx hb hts in_Ut hown B.1 B.2.1 0 (wa_0 κ τ) rfl 2 (by decide) (hts _ w_169) (fun _ h9 => h9) rfl d_Ut_passSecond_81 ?_
        refine va_get (D := κ.1) (ci := 2) (v := .ref (aA κ 9)) (C := "UnitThreads$Order") (T := T_Or) (N := 3) hx hb hts in_Or hown B.1 B.2.1 8 (wa_8 κ τ) rfl 0 (by decide) (hts _ w_103) (fun _ h9 => h9) rfl d_Ut_passSecond_84 ?_
        refine lv_iload_n hx hb d_Ut_passSecond_87 rfl (lv_at hl 2 rfl) ?_
        refine ziald hx hb B 9 0 (wa_9 κ τ) rfl k rfl (by omega) (by omega) d_Ut_passSecond_88 ?_
        refine lv_istore_n (lv' := [(3, .int (τ.1 13 k)), (0, .ref (aA κ 0)), (1, .int (nI b)), (2, .int (nI k))]) hx hb d_Ut_passSecond_89 rfl hl (by decide) rfl (fun ls hl => ?_)
        refine lv_aload_n hx hb d_Ut_passSecond_90 rfl (lv_at hl 1 rfl) ?_
        refine va_get (D := κ.1) (ci := 5) (v := .ref (aA κ 10)) (C := "UnitThreads") (T := T_Ut) (N := 7) hx hb hts in_Ut hown B.1 B.2.1 0 (wa_0 κ τ) rfl 3 (by decide) (hts _ w_170) (fun _ h9 => h9) rfl d_Ut_passSecond_91 ?_
        refine lv_iload_n hx hb d_Ut_passSecond_94 rfl (lv_at hl 2 rfl) ?_
        refine lv_iload_n hx hb d_Ut_passSecond_95 rfl (lv_at hl 0 rfl) ?_
        refine lv_aload_n hx hb d_Ut_passSecond_96 rfl (lv_at hl 1 rfl) ?_
        refine va_get (D := κ.1) (ci := 5) (v := .ref (aA κ 1)) (C := "UnitThreads") (T := T_Ut) (N := 7) hx hb hts in_Ut hown B.1 B.2.1 0 (wa_0 κ τ) rfl 0 (by decide) (hts _ w_167) (fun _ h9 => h9) rfl d_Ut_passSecond_97 ?_
        refine lv_iload_n hx hb d_Ut_passSecond_100 rfl (lv_at hl 0 rfl) ?_
        have hu_3 : tn (τ.1 13 k) < nA κ := (hO k (by omega)).2
        refine zaald hx hb B 1 2 (wa_1 κ τ) rfl (tn (τ.1 13 k)) ((hO k (by omega)).1) hu_3 (by omega) rfl d_Ut_passSecond_101 ?_
        refine va_get (D := κ.1) (ci := 0) (v := .int (τ.1 7 (tn (τ.1 13 k)))) (C := "UnitThreads$Unit") (T := T_Un) (N := 8) hx hb hts in_Un hown B.1 B.2.1 (43 + (tn (τ.1 13 k))) (wa_u κ τ hu_3) rfl 7 (by decide) (hts _ w_50) (fun _ h9 => h9) rfl d_Ut_passSecond_102 ?_
        refine zcV_v (As := [.int (nI b), .int (τ.1 13 k), .int (τ.1 7 (tn (τ.1 13 k)))]) (rest := []) ⟨hx, hb, hml, hown, hts⟩ (c_Tu_add l κ τ (nI b) (τ.1 13 k) (τ.1 7 (tn (τ.1 13 k))) hn t ht (by omega)) (cwV 3 hts (zgoodV w_341 w_342 w_343 w_6 w_344) rfl rfl rfl (by decide +kernel) ⟨Nat.le_of_ble_eq_true rfl, Nat.le_of_ble_eq_true rfl⟩) B (zrecv B (ci := 3) rfl (wa_10 κ τ)) rfl hl.1 rfl (Nat.le_of_ble_eq_true rfl) d_Ut_passSecond_105 ⟨Nat.zero_le _, Nat.zero_le _⟩ (fun σ' H locs hp B => ?_)
        rw [hp] at B
        have B : BA κ A s.heap s (fx_turn τ t (nI b) (τ.1 13 k) (τ.1 7 (tn (τ.1 13 k)))) H locs := B
        refine lv_iinc (v := nI (k + 1)) (lv' := [(2, .int (nI (k + 1))), (3, .int (τ.1 13 k)), (0, .ref (aA κ 0)), (1, .int (nI b))]) hx hb d_Ut_passSecond_108 hl (k := 3) rfl (zinc _) (by decide) rfl (fun ls hl => ?_)
        refine lv_goto (tgt := 69) hx hb d_Ut_passSecond_111 (by decide) ?_
        exact ih (k + 1) (t + 1) (fx_turn τ t (nI b) (τ.1 13 k) (τ.1 7 (tn (τ.1 13 k)))) (by omega) (by rw [hst]; simp [zit, fx_log1, ht, tn_nI (show t < 2 ^ 31 by omega)]) (zi_eq _ _ _ _) hN hO _ _ B ls (lv_sub hl [2, 3, 0] rfl)
  refine lv_aload_n hx hb d_Ut_passSecond_0 rfl (lv_at hl 0 rfl) ?_
  refine va_get (D := κ.1) (ci := 5) (v := .ref (aA κ 14)) (C := "UnitThreads") (T := T_Ut) (N := 7) hx hb hts in_Ut hown B.1 B.2.1 0 (wa_0 κ σ) rfl 4 (by decide) (hts _ w_171) (fun _ h9 => h9) rfl d_Ut_passSecond_1 ?_
  refine va_get (D := κ.1) (ci := 4) (v := .int (σ.1 21 0)) (C := "UnitThreads$Board") (T := T_Bo) (N := 6) hx hb hts in_Bo hown B.1 B.2.1 14 (wa_14 κ σ) rfl 5 (by decide) (hts _ w_153) (fun _ h9 => h9) rfl d_Ut_passSecond_4 ?_
  refine zrwi (y := nI b) (hI.2.2.2.1) ?_
  refine lv_istore_n (lv' := [(1, .int (nI b)), (0, .ref (aA κ 0))]) hx hb d_Ut_passSecond_7 rfl hl (by decide) rfl (fun ls hl => ?_)
  refine lv_aload_n hx hb d_Ut_passSecond_8 rfl (lv_at hl 1 rfl) ?_
  refine va_get (D := κ.1) (ci := 5) (v := .ref (aA κ 2)) (C := "UnitThreads") (T := T_Ut) (N := 7) hx hb hts in_Ut hown B.1 B.2.1 0 (wa_0 κ σ) rfl 1 (by decide) (hts _ w_168) (fun _ h9 => h9) rfl d_Ut_passSecond_9 ?_
  refine lv_aload_n hx hb d_Ut_passSecond_12 rfl (lv_at hl 1 rfl) ?_
  refine va_get (D := κ.1) (ci := 5) (v := .ref (aA κ 1)) (C := "UnitThreads") (T := T_Ut) (N := 7) hx hb hts in_Ut hown B.1 B.2.1 0 (wa_0 κ σ) rfl 0 (by decide) (hts _ w_167) (fun _ h9 => h9) rfl d_Ut_passSecond_13 ?_
  refine zcV_v (As := [.ref (aA κ 1)]) (rest := []) ⟨hx, hb, hml, hown, hts⟩ (c_En_brief l κ σ  hn E hE hE3 hU) (cwV 1 hts (zgoodV w_262 w_263 w_264 w_4 w_265) rfl rfl rfl (by decide +kernel) ⟨Nat.le_of_ble_eq_true rfl, Nat.le_of_ble_eq_true rfl⟩) B (zrecv B (ci := 1) rfl (wa_2 κ σ)) rfl hl.1 rfl (Nat.le_of_ble_eq_true rfl) d_Ut_passSecond_16 ⟨Nat.zero_le _, Nat.zero_le _⟩ (fun σ' H locs hp B => ?_)
  rw [hp] at B
  have B : BA κ A s.heap s (fx_brief (nA κ) E σ) H locs := B
  refine lv_aload_n hx hb d_Ut_passSecond_19 rfl (lv_at hl 1 rfl) ?_
  refine va_get (D := κ.1) (ci := 5) (v := .ref (aA κ 8)) (C := "UnitThreads") (T := T_Ut) (N := 7) hx hb hts in_Ut hown B.1 B.2.1 0 (wa_0 κ (fx_brief (nA κ) E σ)) rfl 2 (by decide) (hts _ w_169) (fun _ h9 => h9) rfl d_Ut_passSecond_20 ?_
  refine lv_aload_n hx hb d_Ut_passSecond_23 rfl (lv_at hl 1 rfl) ?_
  refine va_get (D := κ.1) (ci := 5) (v := .ref (aA κ 1)) (C := "UnitThreads") (T := T_Ut) (N := 7) hx hb hts in_Ut hown B.1 B.2.1 0 (wa_0 κ (fx_brief (nA κ) E σ)) rfl 0 (by decide) (hts _ w_167) (fun _ h9 => h9) rfl d_Ut_passSecond_24 ?_
  refine zcV_v (As := [.ref (aA κ 1)]) (rest := []) ⟨hx, hb, hml, hown, hts⟩ (c_Or_gather l κ (fx_brief (nA κ) E σ)  hn) (cwV 1 hts (zgoodV w_266 w_267 w_268 w_5 w_269) rfl rfl rfl (by decide +kernel) ⟨Nat.le_of_ble_eq_true rfl, Nat.le_of_ble_eq_true rfl⟩) B (zrecv B (ci := 2) rfl (wa_8 κ (fx_brief (nA κ) E σ))) rfl hl.1 rfl (Nat.le_of_ble_eq_true rfl) d_Ut_passSecond_27 ⟨Nat.zero_le _, Nat.zero_le _⟩ (fun σ' H locs hp B => ?_)
  rw [hp] at B
  have B : BA κ A s.heap s (fx_gather (nA κ) (fx_brief (nA κ) E σ)) H locs := B
  refine lv_aload_n hx hb d_Ut_passSecond_30 rfl (lv_at hl 1 rfl) ?_
  refine va_get (D := κ.1) (ci := 5) (v := .ref (aA κ 8)) (C := "UnitThreads") (T := T_Ut) (N := 7) hx hb hts in_Ut hown B.1 B.2.1 0 (wa_0 κ (fx_gather (nA κ) (fx_brief (nA κ) E σ))) rfl 2 (by decide) (hts _ w_169) (fun _ h9 => h9) rfl d_Ut_passSecond_31 ?_
  refine zcV_v (As := []) (rest := []) ⟨hx, hb, hml, hown, hts⟩ (c_Or_draw l κ (fx_gather (nA κ) (fx_brief (nA κ) E σ))  hn N hN hNn) (cwV 0 hts (zgoodV w_275 w_276 w_277 w_5 w_278) rfl rfl rfl (by decide +kernel) ⟨Nat.le_of_ble_eq_true rfl, Nat.le_of_ble_eq_true rfl⟩) B (zrecv B (ci := 2) rfl (wa_8 κ (fx_gather (nA κ) (fx_brief (nA κ) E σ)))) rfl hl.1 rfl (Nat.le_of_ble_eq_true rfl) d_Ut_passSecond_34 ⟨Nat.zero_le _, Nat.zero_le _⟩ (fun σ' H locs hp B => ?_)
  rw [hp] at B
  have B : BA κ A s.heap s (fx_draw N (fx_gather (nA κ) (fx_brief (nA κ) E σ))) H locs := B
  refine lv_aload_n hx hb d_Ut_passSecond_37 rfl (lv_at hl 1 rfl) ?_
  refine zcV_v (As := []) (rest := []) ⟨hx, hb, hml, hown, hts⟩ (c_Ut_takeTurns l κ (fx_draw N (fx_gather (nA κ) (fx_brief (nA κ) E σ))) hn N hN2 hNn hO2) (cwV 0 hts (zgoodV w_285 w_287 s_7 w_1 w_288) rfl rfl rfl (by decide +kernel) ⟨Nat.le_of_ble_eq_true rfl, Nat.le_of_ble_eq_true rfl⟩) B (zrecv B (ci := 5) rfl (wa_0 κ (fx_draw N (fx_gather (nA κ) (fx_brief (nA κ) E σ))))) rfl hl.1 rfl (Nat.le_of_ble_eq_true rfl) d_Ut_passSecond_38 ⟨Nat.zero_le _, Nat.zero_le _⟩ (fun σ' H locs hp B => ?_)
  rw [hp] at B
  have B : BA κ A s.heap s (fx_takeTurns (nA κ) N (fx_draw N (fx_gather (nA κ) (fx_brief (nA κ) E σ)))) H locs := B
  refine lv_aload_n hx hb d_Ut_passSecond_41 rfl (lv_at hl 1 rfl) ?_
  refine lv_iload_n hx hb d_Ut_passSecond_42 rfl (lv_at hl 0 rfl) ?_
  refine zcV_v (As := [.int (nI b)]) (rest := []) ⟨hx, hb, hml, hown, hts⟩ (c_Ut_holdThrowers l κ (fx_takeTurns (nA κ) N (fx_draw N (fx_gather (nA κ) (fx_brief (nA κ) E σ)))) (nI b) hn E hE4 hE3 hT4) (cwV 1 hts (zgoodV w_289 w_291 s_8 w_1 w_292) rfl rfl rfl (by decide +kernel) ⟨Nat.le_of_ble_eq_true rfl, Nat.le_of_ble_eq_true rfl⟩) B (zrecv B (ci := 5) rfl (wa_0 κ (fx_takeTurns (nA κ) N (fx_draw N (fx_gather (nA κ) (fx_brief (nA κ) E σ)))))) rfl hl.1 rfl (Nat.le_of_ble_eq_true rfl) d_Ut_passSecond_43 ⟨Nat.zero_le _, Nat.zero_le _⟩ (fun σ' H locs hp B => ?_)
  rw [hp] at B
  have B : BA κ A s.heap s (fx_hold (nA κ) (nI b) (fx_takeTurns (nA κ) N (fx_draw N (fx_gather (nA κ) (fx_brief (nA κ) E σ))))) H locs := B
  refine lv_aload_n hx hb d_Ut_passSecond_46 rfl (lv_at hl 1 rfl) ?_
  refine lv_aload_n hx hb d_Ut_passSecond_47 rfl (lv_at hl 1 rfl) ?_
  refine va_get (D := κ.1) (ci := 5) (v := .ref (aA κ 20)) (C := "UnitThreads") (T := T_Ut) (N := 7) hx hb hts in_Ut hown B.1 B.2.1 0 (wa_0 κ (fx_hold (nA κ) (nI b) (fx_takeTurns (nA κ) N (fx_draw N (fx_gather (nA κ) (fx_brief (nA κ) E σ)))))) rfl 5 (by decide) (hts _ w_172) (fun _ h9 => h9) rfl d_Ut_passSecond_48 ?_
  refine lv_iload_n hx hb d_Ut_passSecond_51 rfl (lv_at hl 0 rfl) ?_
  refine ziald hx hb B 20 0 (wa_20 κ (fx_hold (nA κ) (nI b) (fx_takeTurns (nA κ) N (fx_draw N (fx_gather (nA κ) (fx_brief (nA κ) E σ)))))) rfl b rfl (by omega) (by decide) d_Ut_passSecond_52 ?_
  refine zrwi (y := σ.1 22 b) (h22) ?_
  refine zcV_v (As := [.int (σ.1 22 b)]) (rest := []) ⟨hx, hb, hml, hown, hts⟩ (c_Ut_grantWays l κ (fx_hold (nA κ) (nI b) (fx_takeTurns (nA κ) N (fx_draw N (fx_gather (nA κ) (fx_brief (nA κ) E σ))))) (σ.1 22 b) hn) (cwV 1 hts (zgoodV w_301 w_303 s_9 w_1 w_304) rfl rfl rfl (by decide +kernel) ⟨Nat.le_of_ble_eq_true rfl, Nat.le_of_ble_eq_true rfl⟩) B (zrecv B (ci := 5) rfl (wa_0 κ (fx_hold (nA κ) (nI b) (fx_takeTurns (nA κ) N (fx_draw N (fx_gather (nA κ) (fx_brief (nA κ) E σ))))))) rfl hl.1 rfl (Nat.le_of_ble_eq_true rfl) d_Ut_passSecond_53 ⟨Nat.zero_le _, Nat.zero_le _⟩ (fun σ' H locs hp B => ?_)
  rw [hp] at B
  have B : BA κ A s.heap s (fx_grant (nA κ) (σ.1 22 b) (fx_hold (nA κ) (nI b) (fx_takeTurns (nA κ) N (fx_draw N (fx_gather (nA κ) (fx_brief (nA κ) E σ)))))) H locs := B
  refine lv_aload_n hx hb d_Ut_passSecond_56 rfl (lv_at hl 1 rfl) ?_
  refine zcV_v (As := []) (rest := []) ⟨hx, hb, hml, hown, hts⟩ (c_Ut_settle l κ (fx_grant (nA κ) (σ.1 22 b) (fx_hold (nA κ) (nI b) (fx_takeTurns (nA κ) N (fx_draw N (fx_gather (nA κ) (fx_brief (nA κ) E σ)))))) hn E hI6.1 hE3 hI6.2.1 hI6.2.2) (cwV 0 hts (zgoodV w_313 w_315 s_11 w_1 w_316) rfl rfl rfl (by decide +kernel) ⟨Nat.le_of_ble_eq_true rfl, Nat.le_of_ble_eq_true rfl⟩) B (zrecv B (ci := 5) rfl (wa_0 κ (fx_grant (nA κ) (σ.1 22 b) (fx_hold (nA κ) (nI b) (fx_takeTurns (nA κ) N (fx_draw N (fx_gather (nA κ) (fx_brief (nA κ) E σ)))))))) rfl hl.1 rfl (Nat.le_of_ble_eq_true rfl) d_Ut_passSecond_57 ⟨Nat.zero_le _, Nat.zero_le _⟩ (fun σ' H locs hp B => ?_)
  rw [hp] at B
  have B : BA κ A s.heap s (fx_settle (nA κ) E (fx_grant (nA κ) (σ.1 22 b) (fx_hold (nA κ) (nI b) (fx_takeTurns (nA κ) N (fx_draw N (fx_gather (nA κ) (fx_brief (nA κ) E σ))))))) H locs := B
  refine lv_aload_n hx hb d_Ut_passSecond_60 rfl (lv_at hl 1 rfl) ?_
  refine va_get (D := κ.1) (ci := 5) (v := .ref (aA κ 14)) (C := "UnitThreads") (T := T_Ut) (N := 7) hx hb hts in_Ut hown B.1 B.2.1 0 (wa_0 κ (fx_settle (nA κ) E (fx_grant (nA κ) (σ.1 22 b) (fx_hold (nA κ) (nI b) (fx_takeTurns (nA κ) N (fx_draw N (fx_gather (nA κ) (fx_brief (nA κ) E σ)))))))) rfl 4 (by decide) (hts _ w_171) (fun _ h9 => h9) rfl d_Ut_passSecond_61 ?_
  refine zcV_v (As := []) (rest := []) ⟨hx, hb, hml, hown, hts⟩ (c_Bo_keep l κ (fx_settle (nA κ) E (fx_grant (nA κ) (σ.1 22 b) (fx_hold (nA κ) (nI b) (fx_takeTurns (nA κ) N (fx_draw N (fx_gather (nA κ) (fx_brief (nA κ) E σ)))))))  hn b hbs7 hlt) (cwV 0 hts (zgoodV w_334 w_335 w_336 w_7 w_337) rfl rfl rfl (by decide +kernel) ⟨Nat.le_of_ble_eq_true rfl, Nat.le_of_ble_eq_true rfl⟩) B (zrecv B (ci := 4) rfl (wa_14 κ (fx_settle (nA κ) E (fx_grant (nA κ) (σ.1 22 b) (fx_hold (nA κ) (nI b) (fx_takeTurns (nA κ) N (fx_draw N (fx_gather (nA κ) (fx_brief (nA κ) E σ))))))))) rfl hl.1 rfl (Nat.le_of_ble_eq_true rfl) d_Ut_passSecond_64 ⟨Nat.zero_le _, Nat.zero_le _⟩ (fun σ' H locs hp B => ?_)
  rw [hp] at B
  have B : BA κ A s.heap s (fx_keep (nA κ) b (fx_settle (nA κ) E (fx_grant (nA κ) (σ.1 22 b) (fx_hold (nA κ) (nI b) (fx_takeTurns (nA κ) N (fx_draw N (fx_gather (nA κ) (fx_brief (nA κ) E σ)))))))) H locs := B
  refine lv_iconst (v := nI 0) hx hb d_Ut_passSecond_67 (by decide) ?_
  refine lv_istore_n (lv' := [(2, .int (nI 0)), (1, .int (nI b)), (0, .ref (aA κ 0))]) hx hb d_Ut_passSecond_68 rfl hl (by decide) rfl (fun ls hl => ?_)
  exact L_69 N 0 t0 (fx_keep (nA κ) b (fx_settle (nA κ) E (fx_grant (nA κ) (σ.1 22 b) (fx_hold (nA κ) (nI b) (fx_takeTurns (nA κ) N (fx_draw N (fx_gather (nA κ) (fx_brief (nA κ) E σ)))))))) (by omega) (by rw [fx_pass, ← hNe, eS8]) ht8 hN8 hO8 _ _ B ls (lv_sub hl [2, 1, 0] rfl)
set_option maxHeartbeats 4000000 in
set_option maxRecDepth 100000 in
theorem c_Ut_play (l : Launch) (κ : KA) (σ : zS) (v : Int64) (p2 : Int32) (hn : nA κ ≤ 8) (E : Nat) (hE3 : E ≤ 300) (b : Nat) (hI : InvX (nA κ) E b σ) (hb64 : b ≤ 64) : zMi l y_Ut_play (zws y_Ut_play prog_1_method_7_code 5 (some .int)) ({ frames := 4, cells := 0, slots := 0, locals := 91 }) κ.1 vwCl (tysA κ) nwA (wA κ) σ [.ref (aA κ 0), .long (v), .int (p2)] (fun r σ' => r = fx_playR (nA κ) E b σ v p2 ∧ σ' = fx_playS (nA κ) E b σ v p2) := by
  refine zintro (cc := prog_1_method_7_code) (maxL := 5) (ret := (some .int)) (by decide) rfl (Nat.le_of_ble_eq_true rfl) ?_
  intro p e s m below meth c ls hx hb hr hml hts hown hlocks hl B
  have hl : lv_has ls 5 [(0, .ref (aA κ 0)), (1, .long (v)), (3, .int (p2))] := hl
  have B : BA κ (va_A (wA κ σ) s.heap.size) s.heap s σ s.heap [] := B
  have hr : meth.sig.returnType = (some .int) := hr
  have hown : s.vm.findClass "UnitThreads" = some m.cls := hown
  show W p l e (headSpec (zws y_Ut_play prog_1_method_7_code 5 (some .int)) ({ frames := 4, cells := 0, slots := 0, locals := 91 })).room s m [.ref (aA κ 0), .long (v), .int (p2)].toArray below meth c s.heap [] 0 0 (MQ below (va_Qi (fun r σ' => r = fx_playR (nA κ) E b σ v p2 ∧ σ' = fx_playS (nA κ) E b σ v p2) (zQ κ.1 vwCl (tysA κ) (wA κ) (va_A (wA κ σ) s.heap.size)) (va_A (wA κ σ) s.heap.size)) [.ref (aA κ 0), .long (v), .int (p2)].toArray s 0 0 (va_A (wA κ σ) s.heap.size)) (F0 m 0 ls [])
  generalize va_A (wA κ σ) s.heap.size = A at B ⊢
  have hts : ∀ w ∈ zW, w.before [.ref (aA κ 0), .long (v), .int (p2)].toArray s = true := fun w h => hts w (List.mem_cons_of_mem _ h)
  have L_30 : ∀ (j : Nat) (k : Nat) (b1 : Nat) (τ : zS), k + j = tn p2 → (¬ p2 < 0 ∧ ¬ 64 < p2 ∧ σ.1 23 0 = 0) → (p2 = nI (tn p2)) → (tn p2 ≤ 64) → (InvX (nA κ) E b1 τ) → (b1 ≤ 64) → (fx_play (nA κ) E (tn p2) b 0 (zl σ 1 0 v) = fx_play (nA κ) E j b1 k τ) → ∀ (H : Heap) (locs : List Loc), BA κ A s.heap s τ H locs → ∀ (ls : Array Slot), lv_has ls 5 [(0, .ref (aA κ 0)), (1, .long (v)), (3, .int (p2)), (4, .int (nI k))] → W p l e (headSpec (zws y_Ut_play prog_1_method_7_code 5 (some .int)) ({ frames := 4, cells := 0, slots := 0, locals := 91 })).room s m [.ref (aA κ 0), .long (v), .int (p2)].toArray below meth c H locs 0 0 (MQ below (va_Qi (fun r σ' => r = fx_playR (nA κ) E b σ v p2 ∧ σ' = fx_playS (nA κ) E b σ v p2) (zQ κ.1 vwCl (tysA κ) (wA κ) A) A) [.ref (aA κ 0), .long (v), .int (p2)].toArray s 0 0 A) (F0 m 30 ls []) := by
    intro j
    induction j with
    | zero =>
      intro k b1 τ hj hok hP hP6 hI hb1 hst H locs B ls hl
      refine lv_iload hx hb d_Ut_play_30 (lv_at hl 3 rfl) ?_
      refine lv_iload_n hx hb d_Ut_play_32 rfl (lv_at hl 2 rfl) ?_
      refine zrwi (y := nI (tn p2)) (hP) ?_
      refine lv_icmp_ge (tgt := 65) hx hb d_Ut_play_33 (by decide) (fun c_1 => ?_) (fun c_1 => ?_)
      · have c_1 := (nI_leI (a := tn p2) (b := k) (by omega) (by omega)).mp c_1
        refine lv_iload hx hb d_Ut_play_65 (lv_at hl 3 rfl) ?_
        exact zret_i hx hb hr hlocks B (play_ret hok hst) d_Ut_play_67
      · have c_1 := (not_congr (nI_leI (a := tn p2) (b := k) (by omega) (by omega))).mp c_1
        exact absurd c_1 (by omega)
    | succ j ih =>
      intro k b1 τ hj hok hP hP6 hI hb1 hst H locs B ls hl
      refine lv_iload hx hb d_Ut_play_30 (lv_at hl 3 rfl) ?_
      refine lv_iload_n hx hb d_Ut_play_32 rfl (lv_at hl 2 rfl) ?_
      refine zrwi (y := nI (tn p2)) (hP) ?_
      refine lv_icmp_ge (tgt := 65) hx hb d_Ut_play_33 (by decide) (fun c_2 => ?_) (fun c_2 => ?_)
      · have c_2 := (nI_leI (a := tn p2) (b := k) (by omega) (by omega)).mp c_2
        exact absurd c_2 (by omega)
      · have c_2 := (not_congr (nI_leI (a := tn p2) (b := k) (by omega) (by omega))).mp c_2
        refine lv_aload_n hx hb d_Ut_play_36 rfl (lv_at hl 0 rfl) ?_
        refine va_get (D := κ.1) (ci := 5) (v := .ref (aA κ 14)) (C := "UnitThreads") (T := T_Ut) (N := 7) hx hb hts in_Ut hown B.1 B.2.1 0 (wa_0 κ τ) rfl 4 (by decide) (hts _ w_171) (fun _ h9 => h9) rfl d_Ut_play_37 ?_
        refine va_get (D := κ.1) (ci := 4) (v := .int (τ.1 21 0)) (C := "UnitThreads$Board") (T := T_Bo) (N := 6) hx hb hts in_Bo hown B.1 B.2.1 14 (wa_14 κ τ) rfl 5 (by decide) (hts _ w_153) (fun _ h9 => h9) rfl d_Ut_play_40 ?_
        refine zrwi (y := nI b1) (hI.2.2.2.1) ?_
        refine lv_bipush (v := nI 64) hx hb d_Ut_play_43 (by decide) ?_
        refine lv_icmp_ge (tgt := 65) hx hb d_Ut_play_45 (by decide) (fun c_3 => ?_) (fun c_3 => ?_)
        · have c_3 := (nI_leI (a := 64) (b := b1) (by omega) (by omega)).mp c_3
          refine lv_iload hx hb d_Ut_play_65 (lv_at hl 3 rfl) ?_
          exact zret_i hx hb hr hlocks B (play_ret hok (hst.trans (if_neg (fun h => h.1 c_3)))) d_Ut_play_67
        · have c_3 := (not_congr (nI_leI (a := 64) (b := b1) (by omega) (by omega))).mp c_3
          refine lv_aload_n hx hb d_Ut_play_48 rfl (lv_at hl 0 rfl) ?_
          refine zcV_i (As := []) (rest := []) ⟨hx, hb, hml, hown, hts⟩ (c_Ut_acting l κ τ hn) (cwV 0 hts (zgoodV w_246 w_248 s_3 w_1 w_249) rfl rfl rfl (by decide +kernel) ⟨Nat.le_of_ble_eq_true rfl, Nat.le_of_ble_eq_true rfl⟩) B (zrecv B (ci := 5) rfl (wa_0 κ τ)) rfl hl.1 rfl (Nat.le_of_ble_eq_true rfl) d_Ut_play_49 ⟨Nat.zero_le _, Nat.zero_le _⟩ (fun r σ' H locs hp B => ?_)
          obtain ⟨rfl, hp⟩ := hp
          rw [hp] at B
          have B : BA κ A s.heap s τ H locs := B
          refine lv_if_le (tgt := 65) hx hb d_Ut_play_52 (by decide) (fun c_4 => ?_) (fun c_4 => ?_)
          · refine lv_iload hx hb d_Ut_play_65 (lv_at hl 3 rfl) ?_
            exact zret_i hx hb hr hlocks B (play_ret hok (hst.trans (if_neg (fun h => h.2 c_4)))) d_Ut_play_67
          · refine lv_aload_n hx hb d_Ut_play_55 rfl (lv_at hl 0 rfl) ?_
            refine zcV_v (As := []) (rest := []) ⟨hx, hb, hml, hown, hts⟩ (c_Ut_passSecond l κ τ hn E hE3 b1 hI (by omega)) (cwV 0 hts (zgoodV w_258 w_260 s_5 w_1 w_261) rfl rfl rfl (by decide +kernel) ⟨Nat.le_of_ble_eq_true rfl, Nat.le_of_ble_eq_true rfl⟩) B (zrecv B (ci := 5) rfl (wa_0 κ τ)) rfl hl.1 rfl (Nat.le_of_ble_eq_true rfl) d_Ut_play_56 ⟨Nat.zero_le _, Nat.zero_le _⟩ (fun σ' H locs hp B => ?_)
            rw [hp] at B
            have B : BA κ A s.heap s (fx_pass (nA κ) E b1 τ) H locs := B
            refine lv_iinc (v := nI (k + 1)) (lv' := [(4, .int (nI (k + 1))), (0, .ref (aA κ 0)), (1, .long (v)), (3, .int (p2))]) hx hb d_Ut_play_59 hl (k := 3) rfl (zinc _) (by decide) rfl (fun ls hl => ?_)
            refine lv_goto (tgt := 30) hx hb d_Ut_play_62 (by decide) ?_
            exact ih (k + 1) (b1 + 1) (fx_pass (nA κ) E b1 τ) (by omega) hok hP hP6 (InvX_pass hI (by omega) hn) (by omega) (hst.trans (if_pos ⟨c_3, c_4⟩)) _ _ B ls (lv_sub hl [1, 2, 3, 0] rfl)
  refine lv_iload_n hx hb d_Ut_play_0 rfl (lv_at hl 2 rfl) ?_
  refine lv_if_lt (tgt := 17) hx hb d_Ut_play_1 (by decide) (fun c_5 => ?_) (fun c_5 => ?_)
  · refine lv_iconst (v := (-1)) hx hb d_Ut_play_17 (by decide) ?_
    exact zret_i hx hb hr hlocks B (play_no (fun h => h.1 c_5)) d_Ut_play_18
  · refine lv_iload_n hx hb d_Ut_play_4 rfl (lv_at hl 2 rfl) ?_
    refine lv_bipush (v := 64) hx hb d_Ut_play_5 (by decide) ?_
    refine lv_icmp_gt (tgt := 17) hx hb d_Ut_play_7 (by decide) (fun c_6 => ?_) (fun c_6 => ?_)
    · refine lv_iconst (v := (-1)) hx hb d_Ut_play_17 (by decide) ?_
      exact zret_i hx hb hr hlocks B (play_no (fun h => h.2.1 c_6)) d_Ut_play_18
    · refine lv_aload_n hx hb d_Ut_play_10 rfl (lv_at hl 0 rfl) ?_
      refine va_get (D := κ.1) (ci := 5) (v := .int (σ.1 23 0)) (C := "UnitThreads") (T := T_Ut) (N := 7) hx hb hts in_Ut hown B.1 B.2.1 0 (wa_0 κ σ) rfl 6 (by decide) (hts _ w_173) (fun _ h9 => h9) rfl d_Ut_play_11 ?_
      refine lv_if_eq (tgt := 19) hx hb d_Ut_play_14 (by decide) (fun c_7 => ?_) (fun c_7 => ?_)
      · refine lv_aload_n hx hb d_Ut_play_19 rfl (lv_at hl 0 rfl) ?_
        refine va_get (D := κ.1) (ci := 5) (v := .ref (aA κ 8)) (C := "UnitThreads") (T := T_Ut) (N := 7) hx hb hts in_Ut hown B.1 B.2.1 0 (wa_0 κ σ) rfl 2 (by decide) (hts _ w_169) (fun _ h9 => h9) rfl d_Ut_play_20 ?_
        refine lv_lload_n hx hb d_Ut_play_23 rfl (lv_at hl 1 rfl) ?_
        refine zput (ci := 2) (v := .long (v)) (ty := .long) (C := "UnitThreads$Order") (T := T_Or) (N := 3) hx hb hts in_Or ty_Or tyok_Or nm_Or hown B 8 (wa_8 κ σ) rfl 2 (by decide) (hts _ w_107) (fun _ h9 => h9) rfl (by decide +kernel) rfl rfl (Nat.le_of_ble_eq_true rfl) (wp_8_2 κ σ v) d_Ut_play_24 (fun H locs B => ?_)
        have B : BA κ A s.heap s (zl σ 1 0 v) H locs := B
        refine lv_iconst (v := nI 0) hx hb d_Ut_play_27 (by decide) ?_
        refine lv_istore (lv' := [(4, .int (nI 0)), (0, .ref (aA κ 0)), (1, .long (v)), (3, .int (p2))]) hx hb d_Ut_play_28 hl (by decide) rfl (fun ls hl => ?_)
        exact L_30 (tn p2) 0 b (zl σ 1 0 v) (by omega) ⟨c_5, c_6, c_7⟩ (zix c_5) (tn64 c_5 c_6) hI hb64 rfl _ _ B ls (lv_sub hl [1, 2, 3, 0] rfl)
      · refine lv_iconst (v := (-1)) hx hb d_Ut_play_17 (by decide) ?_
        exact zret_i hx hb hr hlocks B (play_no (fun h => c_7 h.2.2)) d_Ut_play_18
