set_option maxHeartbeats 4000000 in
set_option maxRecDepth 100000 in
theorem c_Ut_modeOf (l : Launch) (κ : KA) (σ : zS) (u : Nat) (hu : u < nA κ) (hn : nA κ ≤ 8) : zMi l y_Ut_modeOf (zws y_Ut_modeOf prog_1_method_22_code 2 (some .int)) ({ frames := 1, cells := 0, slots := 0, locals := 20 }) κ.1 vwCl (tysA κ) nwA (wA κ) σ [.ref (aA κ 0), .int (nI u)] (fun r σ' => r = fx_mode σ u ∧ σ' = σ) := by
  refine zintro (cc := prog_1_method_22_code) (maxL := 2) (ret := (some .int)) (by decide) rfl (Nat.le_of_ble_eq_true rfl) ?_
  intro p e s m below meth c ls hx hb hr hml hts hown hlocks hl B
  have hl : lv_has ls 2 [(0, .ref (aA κ 0)), (1, .int (nI u))] := hl
  have B : BA κ (va_A (wA κ σ) s.heap.size) s.heap s σ s.heap [] := B
  have hr : meth.sig.returnType = (some .int) := hr
  have hown : s.vm.findClass "UnitThreads" = some m.cls := hown
  show W p l e (headSpec (zws y_Ut_modeOf prog_1_method_22_code 2 (some .int)) ({ frames := 1, cells := 0, slots := 0, locals := 20 })).room s m [.ref (aA κ 0), .int (nI u)].toArray below meth c s.heap [] 0 0 (MQ below (va_Qi (fun r σ' => r = fx_mode σ u ∧ σ' = σ) (zQ κ.1 vwCl (tysA κ) (wA κ) (va_A (wA κ σ) s.heap.size)) (va_A (wA κ σ) s.heap.size)) [.ref (aA κ 0), .int (nI u)].toArray s 0 0 (va_A (wA κ σ) s.heap.size)) (F0 m 0 ls [])
  generalize va_A (wA κ σ) s.heap.size = A at B ⊢
  have hts : ∀ w ∈ zW, w.before [.ref (aA κ 0), .int (nI u)].toArray s = true := fun w h => hts w (List.mem_cons_of_mem _ h)
  refine lv_aload_n hx hb d_Ut_modeOf_0 rfl (lv_at hl 0 rfl) ?_
  refine va_get (D := κ.1) (ci := 5) (v := .int (σ.1 23 0)) (C := "UnitThreads") (T := T_Ut) (N := 7) hx hb hts in_Ut hown B.1 B.2.1 0 (wa_0 κ σ) rfl 6 (by decide) (hts _ w_173) (fun _ h9 => h9) rfl d_Ut_modeOf_1 ?_
  refine lv_if_eq (tgt := 9) hx hb d_Ut_modeOf_4 (by decide) (fun c_1 => ?_) (fun c_1 => ?_)
  · refine lv_aload_n hx hb d_Ut_modeOf_9 rfl (lv_at hl 0 rfl) ?_
    refine va_get (D := κ.1) (ci := 5) (v := .ref (aA κ 1)) (C := "UnitThreads") (T := T_Ut) (N := 7) hx hb hts in_Ut hown B.1 B.2.1 0 (wa_0 κ σ) rfl 0 (by decide) (hts _ w_167) (fun _ h9 => h9) rfl d_Ut_modeOf_10 ?_
    refine lv_iload_n hx hb d_Ut_modeOf_13 rfl (lv_at hl 1 rfl) ?_
    have hu_2 : u < nA κ := (by omega)
    refine zaald hx hb B 1 2 (wa_1 κ σ) rfl u rfl hu_2 (by omega) rfl d_Ut_modeOf_14 ?_
    refine zcV_i (As := []) (rest := []) ⟨hx, hb, hml, hown, hts⟩ (c_Un_hasEnded l κ σ u hu_2 ) (cwV 0 hts (zgoodV w_254 w_255 w_256 w_3 w_257) rfl rfl rfl (by decide +kernel) ⟨Nat.le_of_ble_eq_true rfl, Nat.le_of_ble_eq_true rfl⟩) B (zrecv B (ci := 0) rfl (wa_u κ σ hu_2)) rfl hl.1 rfl (Nat.le_of_ble_eq_true rfl) d_Ut_modeOf_15 ⟨Nat.zero_le _, Nat.zero_le _⟩ (fun r σ' H locs hp B => ?_)
    obtain ⟨rfl, hp⟩ := hp
    rw [hp] at B
    have B : BA κ A s.heap s σ H locs := B
    refine lv_if_eq (tgt := 25) hx hb d_Ut_modeOf_18 (by decide) (fun c_3 => ?_) (fun c_3 => ?_)
    · have c_3 := zb_eq0.mp c_3
      refine lv_aload_n hx hb d_Ut_modeOf_25 rfl (lv_at hl 0 rfl) ?_
      refine va_get (D := κ.1) (ci := 5) (v := .ref (aA κ 1)) (C := "UnitThreads") (T := T_Ut) (N := 7) hx hb hts in_Ut hown B.1 B.2.1 0 (wa_0 κ σ) rfl 0 (by decide) (hts _ w_167) (fun _ h9 => h9) rfl d_Ut_modeOf_26 ?_
      refine lv_iload_n hx hb d_Ut_modeOf_29 rfl (lv_at hl 1 rfl) ?_
      have hu_4 : u < nA κ := (by omega)
      refine zaald hx hb B 1 2 (wa_1 κ σ) rfl u rfl hu_4 (by omega) rfl d_Ut_modeOf_30 ?_
      refine va_get (D := κ.1) (ci := 0) (v := .int (σ.1 2 u)) (C := "UnitThreads$Unit") (T := T_Un) (N := 8) hx hb hts in_Un hown B.1 B.2.1 (43 + u) (wa_u κ σ hu_4) rfl 2 (by decide) (hts _ w_38) (fun _ h9 => h9) rfl d_Ut_modeOf_31 ?_
      exact zret_i hx hb hr hlocks B (⟨by simp [zb, fx_mode, c_1, c_3], rfl⟩) d_Ut_modeOf_34
    · have c_3 := zb_ne0.mp c_3
      refine lv_iconst (v := 3) hx hb d_Ut_modeOf_21 (by decide) ?_
      refine lv_goto (tgt := 34) hx hb d_Ut_modeOf_22 (by decide) ?_
      exact zret_i hx hb hr hlocks B (⟨by simp [zb, fx_mode, c_1, c_3], rfl⟩) d_Ut_modeOf_34
  · refine lv_iconst (v := 4) hx hb d_Ut_modeOf_7 (by decide) ?_
    exact zret_i hx hb hr hlocks B (⟨by simp [zb, fx_mode, c_1], rfl⟩) d_Ut_modeOf_8
set_option maxHeartbeats 4000000 in
set_option maxRecDepth 100000 in
theorem c_Ut_acting (l : Launch) (κ : KA) (σ : zS) (hn : nA κ ≤ 8) : zMi l y_Ut_acting (zws y_Ut_acting prog_1_method_23_code 4 (some .int)) ({ frames := 2, cells := 0, slots := 0, locals := 41 }) κ.1 vwCl (tysA κ) nwA (wA κ) σ [.ref (aA κ 0)] (fun r σ' => r = fx_acting σ (nA κ) 0 0 ∧ σ' = σ) := by
  refine zintro (cc := prog_1_method_23_code) (maxL := 4) (ret := (some .int)) (by decide) rfl (Nat.le_of_ble_eq_true rfl) ?_
  intro p e s m below meth c ls hx hb hr hml hts hown hlocks hl B
  have hl : lv_has ls 4 [(0, .ref (aA κ 0))] := hl
  have B : BA κ (va_A (wA κ σ) s.heap.size) s.heap s σ s.heap [] := B
  have hr : meth.sig.returnType = (some .int) := hr
  have hown : s.vm.findClass "UnitThreads" = some m.cls := hown
  show W p l e (headSpec (zws y_Ut_acting prog_1_method_23_code 4 (some .int)) ({ frames := 2, cells := 0, slots := 0, locals := 41 })).room s m [.ref (aA κ 0)].toArray below meth c s.heap [] 0 0 (MQ below (va_Qi (fun r σ' => r = fx_acting σ (nA κ) 0 0 ∧ σ' = σ) (zQ κ.1 vwCl (tysA κ) (wA κ) (va_A (wA κ σ) s.heap.size)) (va_A (wA κ σ) s.heap.size)) [.ref (aA κ 0)].toArray s 0 0 (va_A (wA κ σ) s.heap.size)) (F0 m 0 ls [])
  generalize va_A (wA κ σ) s.heap.size = A at B ⊢
  have hts : ∀ w ∈ zW, w.before [.ref (aA κ 0)].toArray s = true := fun w h => hts w (List.mem_cons_of_mem _ h)
  have L_4 : ∀ (j : Nat) (k : Nat) (r : Int32), (k + j = nA κ) → (fx_acting σ (nA κ) 0 0 = fx_acting σ j k r) → ∀ (H : Heap) (locs : List Loc), BA κ A s.heap s σ H locs → ∀ (ls : Array Slot), lv_has ls 4 [(0, .ref (aA κ 0)), (1, .int (r)), (2, .int (nI k))] → W p l e (headSpec (zws y_Ut_acting prog_1_method_23_code 4 (some .int)) ({ frames := 2, cells := 0, slots := 0, locals := 41 })).room s m [.ref (aA κ 0)].toArray below meth c H locs 0 0 (MQ below (va_Qi (fun r σ' => r = fx_acting σ (nA κ) 0 0 ∧ σ' = σ) (zQ κ.1 vwCl (tysA κ) (wA κ) A) A) [.ref (aA κ 0)].toArray s 0 0 A) (F0 m 4 ls []) := by
    intro j
    induction j with
    | zero =>
      intro k r hj hst H locs B ls hl
      refine lv_iload_n hx hb d_Ut_acting_4 rfl (lv_at hl 2 rfl) ?_
      refine lv_aload_n hx hb d_Ut_acting_5 rfl (lv_at hl 0 rfl) ?_
      refine va_get (D := κ.1) (ci := 5) (v := .ref (aA κ 1)) (C := "UnitThreads") (T := T_Ut) (N := 7) hx hb hts in_Ut hown B.1 B.2.1 0 (wa_0 κ σ) rfl 0 (by decide) (hts _ w_167) (fun _ h9 => h9) rfl d_Ut_acting_6 ?_
      refine zalen hx hb B 1 2 (wa_1 κ σ) rfl d_Ut_acting_9 ?_
      refine lv_icmp_ge (tgt := 37) hx hb d_Ut_acting_10 (by decide) (fun c_1 => ?_) (fun c_1 => ?_)
      · have c_1 := (nI_leI (a := nA κ) (b := k) (by omega) (by omega)).mp c_1
        refine lv_iload_n hx hb d_Ut_acting_37 rfl (lv_at hl 1 rfl) ?_
        exact zret_i hx hb hr hlocks B (⟨hst.symm, rfl⟩) d_Ut_acting_38
      · have c_1 := (not_congr (nI_leI (a := nA κ) (b := k) (by omega) (by omega))).mp c_1
        exact absurd c_1 (by omega)
    | succ j ih =>
      intro k r hj hst H locs B ls hl
      refine lv_iload_n hx hb d_Ut_acting_4 rfl (lv_at hl 2 rfl) ?_
      refine lv_aload_n hx hb d_Ut_acting_5 rfl (lv_at hl 0 rfl) ?_
      refine va_get (D := κ.1) (ci := 5) (v := .ref (aA κ 1)) (C := "UnitThreads") (T := T_Ut) (N := 7) hx hb hts in_Ut hown B.1 B.2.1 0 (wa_0 κ σ) rfl 0 (by decide) (hts _ w_167) (fun _ h9 => h9) rfl d_Ut_acting_6 ?_
      refine zalen hx hb B 1 2 (wa_1 κ σ) rfl d_Ut_acting_9 ?_
      refine lv_icmp_ge (tgt := 37) hx hb d_Ut_acting_10 (by decide) (fun c_2 => ?_) (fun c_2 => ?_)
      · have c_2 := (nI_leI (a := nA κ) (b := k) (by omega) (by omega)).mp c_2
        exact absurd c_2 (by omega)
      · have c_2 := (not_congr (nI_leI (a := nA κ) (b := k) (by omega) (by omega))).mp c_2
        refine lv_aload_n hx hb d_Ut_acting_13 rfl (lv_at hl 0 rfl) ?_
        refine lv_iload_n hx hb d_Ut_acting_14 rfl (lv_at hl 2 rfl) ?_
        refine zcV_i (As := [.int (nI k)]) (rest := []) ⟨hx, hb, hml, hown, hts⟩ (c_Ut_modeOf l κ σ k (by omega) hn) (cwV 1 hts (zgoodV w_250 w_252 s_4 w_1 w_253) rfl rfl rfl (by decide +kernel) ⟨Nat.le_of_ble_eq_true rfl, Nat.le_of_ble_eq_true rfl⟩) B (zrecv B (ci := 5) rfl (wa_0 κ σ)) rfl hl.1 rfl (Nat.le_of_ble_eq_true rfl) d_Ut_acting_15 ⟨Nat.zero_le _, Nat.zero_le _⟩ (fun r σ' H locs hp B => ?_)
        obtain ⟨rfl, hp⟩ := hp
        rw [hp] at B
        have B : BA κ A s.heap s σ H locs := B
        refine lv_istore_n (lv' := [(3, .int (fx_mode σ k)), (0, .ref (aA κ 0)), (1, .int (r)), (2, .int (nI k))]) hx hb d_Ut_acting_18 rfl hl (by decide) rfl (fun ls hl => ?_)
        refine lv_iload_n hx hb d_Ut_acting_19 rfl (lv_at hl 0 rfl) ?_
        refine lv_if_eq (tgt := 28) hx hb d_Ut_acting_20 (by decide) (fun c_3 => ?_) (fun c_3 => ?_)
        · refine lv_iinc (v := r + 1) (lv' := [(1, .int (r + 1)), (3, .int (fx_mode σ k)), (0, .ref (aA κ 0)), (2, .int (nI k))]) hx hb d_Ut_acting_28 hl (k := 2) rfl (rfl) (by decide) rfl (fun ls hl => ?_)
          refine lv_iinc (v := nI (k + 1)) (lv' := [(2, .int (nI (k + 1))), (1, .int (r + 1)), (3, .int (fx_mode σ k)), (0, .ref (aA κ 0))]) hx hb d_Ut_acting_31 hl (k := 3) rfl (zinc _) (by decide) rfl (fun ls hl => ?_)
          refine lv_goto (tgt := 4) hx hb d_Ut_acting_34 (by decide) ?_
          exact ih (k + 1) (r + 1) (by omega) (by rw [hst]; simp [fx_acting, c_2, c_3]) _ _ B ls (lv_sub hl [3, 1, 0] rfl)
        · refine lv_iload_n hx hb d_Ut_acting_23 rfl (lv_at hl 0 rfl) ?_
          refine lv_iconst (v := 1) hx hb d_Ut_acting_24 (by decide) ?_
          refine lv_icmp_ne (tgt := 31) hx hb d_Ut_acting_25 (by decide) (fun c_4 => ?_) (fun c_4 => ?_)
          · refine lv_iinc (v := nI (k + 1)) (lv' := [(2, .int (nI (k + 1))), (3, .int (fx_mode σ k)), (0, .ref (aA κ 0)), (1, .int (r))]) hx hb d_Ut_acting_31 hl (k := 3) rfl (zinc _) (by decide) rfl (fun ls hl => ?_)
            refine lv_goto (tgt := 4) hx hb d_Ut_acting_34 (by decide) ?_
            exact ih (k + 1) r (by omega) (by rw [hst]; simp [fx_acting, c_2, c_3, c_4]) _ _ B ls (lv_sub hl [2, 3, 0] rfl)
          · refine lv_iinc (v := r + 1) (lv' := [(1, .int (r + 1)), (3, .int (fx_mode σ k)), (0, .ref (aA κ 0)), (2, .int (nI k))]) hx hb d_Ut_acting_28 hl (k := 2) rfl (rfl) (by decide) rfl (fun ls hl => ?_)
            refine lv_iinc (v := nI (k + 1)) (lv' := [(2, .int (nI (k + 1))), (1, .int (r + 1)), (3, .int (fx_mode σ k)), (0, .ref (aA κ 0))]) hx hb d_Ut_acting_31 hl (k := 3) rfl (zinc _) (by decide) rfl (fun ls hl => ?_)
            refine lv_goto (tgt := 4) hx hb d_Ut_acting_34 (by decide) ?_
            exact ih (k + 1) (r + 1) (by omega) (by rw [hst]; simp [fx_acting, c_2, c_3, c_4]) _ _ B ls (lv_sub hl [3, 1, 0] rfl)
  refine lv_iconst (v := 0) hx hb d_Ut_acting_0 (by decide) ?_
  refine lv_istore_n (lv' := [(1, .int (0)), (0, .ref (aA κ 0))]) hx hb d_Ut_acting_1 rfl hl (by decide) rfl (fun ls hl => ?_)
  refine lv_iconst (v := nI 0) hx hb d_Ut_acting_2 (by decide) ?_
  refine lv_istore_n (lv' := [(2, .int (nI 0)), (1, .int (0)), (0, .ref (aA κ 0))]) hx hb d_Ut_acting_3 rfl hl (by decide) rfl (fun ls hl => ?_)
  exact L_4 (nA κ) 0 0 (by omega) rfl _ _ B ls (lv_sub hl [2, 1, 0] rfl)
set_option maxHeartbeats 4000000 in
set_option maxRecDepth 100000 in
theorem c_Ut_takesEntry (l : Launch) (κ : KA) (σ : zS) (p1 p2 : Int32) (hn : nA κ ≤ 8) : zMi l y_Ut_takesEntry (zws y_Ut_takesEntry prog_1_method_20_code 3 (some .boolean)) ({ frames := 1, cells := 0, slots := 0, locals := 21 }) κ.1 vwCl (tysA κ) nwA (wA κ) σ [.ref (aA κ 0), .int (p1), .int (p2)] (fun r σ' => r = zb (fx_takes (nA κ) σ p1 p2) ∧ σ' = σ) := by
  refine zintro (cc := prog_1_method_20_code) (maxL := 3) (ret := (some .boolean)) (by decide) rfl (Nat.le_of_ble_eq_true rfl) ?_
  intro p e s m below meth c ls hx hb hr hml hts hown hlocks hl B
  have hl : lv_has ls 3 [(0, .ref (aA κ 0)), (1, .int (p1)), (2, .int (p2))] := hl
  have B : BA κ (va_A (wA κ σ) s.heap.size) s.heap s σ s.heap [] := B
  have hr : meth.sig.returnType = (some .boolean) := hr
  have hown : s.vm.findClass "UnitThreads" = some m.cls := hown
  show W p l e (headSpec (zws y_Ut_takesEntry prog_1_method_20_code 3 (some .boolean)) ({ frames := 1, cells := 0, slots := 0, locals := 21 })).room s m [.ref (aA κ 0), .int (p1), .int (p2)].toArray below meth c s.heap [] 0 0 (MQ below (va_Qi (fun r σ' => r = zb (fx_takes (nA κ) σ p1 p2) ∧ σ' = σ) (zQ κ.1 vwCl (tysA κ) (wA κ) (va_A (wA κ σ) s.heap.size)) (va_A (wA κ σ) s.heap.size)) [.ref (aA κ 0), .int (p1), .int (p2)].toArray s 0 0 (va_A (wA κ σ) s.heap.size)) (F0 m 0 ls [])
  generalize va_A (wA κ σ) s.heap.size = A at B ⊢
  have hts : ∀ w ∈ zW, w.before [.ref (aA κ 0), .int (p1), .int (p2)].toArray s = true := fun w h => hts w (List.mem_cons_of_mem _ h)
  refine lv_aload_n hx hb d_Ut_takesEntry_0 rfl (lv_at hl 0 rfl) ?_
  refine lv_iload_n hx hb d_Ut_takesEntry_1 rfl (lv_at hl 1 rfl) ?_
  refine zcV_i (As := [.int (p1)]) (rest := []) ⟨hx, hb, hml, hown, hts⟩ (c_Ut_isUnit l κ σ p1 ) (cwV 1 hts (zgoodV w_197 w_199 s_1 w_1 w_200) rfl rfl rfl (by decide +kernel) ⟨Nat.le_of_ble_eq_true rfl, Nat.le_of_ble_eq_true rfl⟩) B (zrecv B (ci := 5) rfl (wa_0 κ σ)) rfl hl.1 rfl (Nat.le_of_ble_eq_true rfl) d_Ut_takesEntry_2 ⟨Nat.zero_le _, Nat.zero_le _⟩ (fun r σ' H locs hp B => ?_)
  obtain ⟨rfl, hp⟩ := hp
  rw [hp] at B
  have B : BA κ A s.heap s σ H locs := B
  refine lv_if_eq (tgt := 56) hx hb d_Ut_takesEntry_5 (by decide) (fun c_1 => ?_) (fun c_1 => ?_)
  · have c_1 := zb_eq0.mp c_1
    refine lv_iconst (v := 0) hx hb d_Ut_takesEntry_56 (by decide) ?_
    exact zret_z hx hb hr rfl hlocks B (⟨by simp [zb, fx_takes, c_1], rfl⟩) d_Ut_takesEntry_57
  · have c_1 := zb_ne0.mp c_1
    refine lv_iload_n hx hb d_Ut_takesEntry_8 rfl (lv_at hl 2 rfl) ?_
    refine lv_if_lt (tgt := 56) hx hb d_Ut_takesEntry_9 (by decide) (fun c_2 => ?_) (fun c_2 => ?_)
    · refine lv_iconst (v := 0) hx hb d_Ut_takesEntry_56 (by decide) ?_
      exact zret_z hx hb hr rfl hlocks B (⟨by simp [zb, fx_takes, c_1, c_2], rfl⟩) d_Ut_takesEntry_57
    · refine lv_iload_n hx hb d_Ut_takesEntry_12 rfl (lv_at hl 2 rfl) ?_
      refine lv_sipush (v := 200) hx hb d_Ut_takesEntry_13 (by decide) ?_
      refine lv_icmp_gt (tgt := 56) hx hb d_Ut_takesEntry_16 (by decide) (fun c_3 => ?_) (fun c_3 => ?_)
      · refine lv_iconst (v := 0) hx hb d_Ut_takesEntry_56 (by decide) ?_
        exact zret_z hx hb hr rfl hlocks B (⟨by simp [zb, fx_takes, c_1, c_2, c_3], rfl⟩) d_Ut_takesEntry_57
      · refine lv_aload_n hx hb d_Ut_takesEntry_19 rfl (lv_at hl 0 rfl) ?_
        refine va_get (D := κ.1) (ci := 5) (v := .int (σ.1 23 0)) (C := "UnitThreads") (T := T_Ut) (N := 7) hx hb hts in_Ut hown B.1 B.2.1 0 (wa_0 κ σ) rfl 6 (by decide) (hts _ w_173) (fun _ h9 => h9) rfl d_Ut_takesEntry_20 ?_
        refine lv_if_ne (tgt := 56) hx hb d_Ut_takesEntry_23 (by decide) (fun c_4 => ?_) (fun c_4 => ?_)
        · refine lv_iconst (v := 0) hx hb d_Ut_takesEntry_56 (by decide) ?_
          exact zret_z hx hb hr rfl hlocks B (⟨by simp [zb, fx_takes, c_1, c_2, c_3, c_4], rfl⟩) d_Ut_takesEntry_57
        · refine lv_iload_n hx hb d_Ut_takesEntry_26 rfl (lv_at hl 2 rfl) ?_
          refine lv_aload_n hx hb d_Ut_takesEntry_27 rfl (lv_at hl 0 rfl) ?_
          refine va_get (D := κ.1) (ci := 5) (v := .ref (aA κ 1)) (C := "UnitThreads") (T := T_Ut) (N := 7) hx hb hts in_Ut hown B.1 B.2.1 0 (wa_0 κ σ) rfl 0 (by decide) (hts _ w_167) (fun _ h9 => h9) rfl d_Ut_takesEntry_28 ?_
          refine lv_iload_n hx hb d_Ut_takesEntry_31 rfl (lv_at hl 1 rfl) ?_
          have hu_5 : tn p1 < nA κ := (fx_isUnit_in c_1 hn).2
          refine zaald hx hb B 1 2 (wa_1 κ σ) rfl (tn p1) ((fx_isUnit_in c_1 hn).1) hu_5 (by omega) rfl d_Ut_takesEntry_32 ?_
          refine va_get (D := κ.1) (ci := 0) (v := .int (σ.1 0 (tn p1))) (C := "UnitThreads$Unit") (T := T_Un) (N := 8) hx hb hts in_Un hown B.1 B.2.1 (43 + (tn p1)) (wa_u κ σ hu_5) rfl 0 (by decide) (hts _ w_34) (fun _ h9 => h9) rfl d_Ut_takesEntry_33 ?_
          refine lv_icmp_lt (tgt := 56) hx hb d_Ut_takesEntry_36 (by decide) (fun c_6 => ?_) (fun c_6 => ?_)
          · refine lv_iconst (v := 0) hx hb d_Ut_takesEntry_56 (by decide) ?_
            exact zret_z hx hb hr rfl hlocks B (⟨by simp [zb, fx_takes, c_1, c_2, c_3, c_4, c_6], rfl⟩) d_Ut_takesEntry_57
          · refine lv_aload_n hx hb d_Ut_takesEntry_39 rfl (lv_at hl 0 rfl) ?_
            refine va_get (D := κ.1) (ci := 5) (v := .ref (aA κ 2)) (C := "UnitThreads") (T := T_Ut) (N := 7) hx hb hts in_Ut hown B.1 B.2.1 0 (wa_0 κ σ) rfl 1 (by decide) (hts _ w_168) (fun _ h9 => h9) rfl d_Ut_takesEntry_40 ?_
            refine va_get (D := κ.1) (ci := 1) (v := .int (σ.1 12 0)) (C := "UnitThreads$Entries") (T := T_En) (N := 6) hx hb hts in_En hown B.1 B.2.1 2 (wa_2 κ σ) rfl 5 (by decide) (hts _ w_80) (fun _ h9 => h9) rfl d_Ut_takesEntry_43 ?_
            refine lv_sipush (v := 300) hx hb d_Ut_takesEntry_46 (by decide) ?_
            refine lv_icmp_ge (tgt := 56) hx hb d_Ut_takesEntry_49 (by decide) (fun c_7 => ?_) (fun c_7 => ?_)
            · refine lv_iconst (v := 0) hx hb d_Ut_takesEntry_56 (by decide) ?_
              exact zret_z hx hb hr rfl hlocks B (⟨by simp [zb, fx_takes, c_1, c_2, c_3, c_4, c_6, c_7], rfl⟩) d_Ut_takesEntry_57
            · refine lv_iconst (v := 1) hx hb d_Ut_takesEntry_52 (by decide) ?_
              refine lv_goto (tgt := 57) hx hb d_Ut_takesEntry_53 (by decide) ?_
              exact zret_z hx hb hr rfl hlocks B (⟨by simp [zb, fx_takes, c_1, c_2, c_3, c_4, c_6, c_7], rfl⟩) d_Ut_takesEntry_57
set_option maxHeartbeats 4000000 in
set_option maxRecDepth 100000 in
theorem c_Ut_tell (l : Launch) (κ : KA) (σ : zS) (p1 : Int32) (u : Nat) (hu : u < nA κ) (p3 p4 : Int32) (v : Int64) (hn : nA κ ≤ 8) (E : Nat) (hE : σ.1 12 0 = nI E) (hlt : E < 300) : zMv l y_Ut_tell (zws y_Ut_tell prog_1_method_21_code 7 none) ({ frames := 1, cells := 0, slots := 0, locals := 26 }) κ.1 vwCl (tysA κ) nwA (wA κ) σ [.ref (aA κ 0), .int (p1), .int (nI u), .int (p3), .int (p4), .long (v)] (fun σ' => σ' = fx_tell σ E p1 u p3 p4 v) := by
  refine zintro (cc := prog_1_method_21_code) (maxL := 7) (ret := none) (by decide) rfl (Nat.le_of_ble_eq_true rfl) ?_
  intro p e s m below meth c ls hx hb hr hml hts hown hlocks hl B
  have hl : lv_has ls 7 [(0, .ref (aA κ 0)), (1, .int (p1)), (2, .int (nI u)), (3, .int (p3)), (4, .int (p4)), (5, .long (v))] := hl
  have B : BA κ (va_A (wA κ σ) s.heap.size) s.heap s σ s.heap [] := B
  have hr : meth.sig.returnType = none := hr
  have hown : s.vm.findClass "UnitThreads" = some m.cls := hown
  show W p l e (headSpec (zws y_Ut_tell prog_1_method_21_code 7 none) ({ frames := 1, cells := 0, slots := 0, locals := 26 })).room s m [.ref (aA κ 0), .int (p1), .int (nI u), .int (p3), .int (p4), .long (v)].toArray below meth c s.heap [] 0 0 (MQ below (va_Qv (fun σ' => σ' = fx_tell σ E p1 u p3 p4 v) (zQ κ.1 vwCl (tysA κ) (wA κ) (va_A (wA κ σ) s.heap.size)) (va_A (wA κ σ) s.heap.size)) [.ref (aA κ 0), .int (p1), .int (nI u), .int (p3), .int (p4), .long (v)].toArray s 0 0 (va_A (wA κ σ) s.heap.size)) (F0 m 0 ls [])
  generalize va_A (wA κ σ) s.heap.size = A at B ⊢
  have hts : ∀ w ∈ zW, w.before [.ref (aA κ 0), .int (p1), .int (nI u), .int (p3), .int (p4), .long (v)].toArray s = true := fun w h => hts w (List.mem_cons_of_mem _ h)
  refine lv_aload_n hx hb d_Ut_tell_0 rfl (lv_at hl 0 rfl) ?_
  refine va_get (D := κ.1) (ci := 5) (v := .ref (aA κ 2)) (C := "UnitThreads") (T := T_Ut) (N := 7) hx hb hts in_Ut hown B.1 B.2.1 0 (wa_0 κ σ) rfl 1 (by decide) (hts _ w_168) (fun _ h9 => h9) rfl d_Ut_tell_1 ?_
  refine lv_iload_n hx hb d_Ut_tell_4 rfl (lv_at hl 1 rfl) ?_
  refine lv_iload_n hx hb d_Ut_tell_5 rfl (lv_at hl 2 rfl) ?_
  refine lv_iload_n hx hb d_Ut_tell_6 rfl (lv_at hl 3 rfl) ?_
  refine lv_iload hx hb d_Ut_tell_7 (lv_at hl 4 rfl) ?_
  refine lv_lload hx hb d_Ut_tell_9 (lv_at hl 5 rfl) ?_
  refine zcV_v (As := [.int (p1), .int (nI u), .int (p3), .int (p4), .long (v)]) (rest := []) ⟨hx, hb, hml, hown, hts⟩ (c_En_add l κ σ p1 (nI u) p3 p4 v E hE hlt) (cwV 5 hts (zgoodV w_208 w_209 w_210 w_4 w_211) rfl rfl rfl (by decide +kernel) ⟨Nat.le_of_ble_eq_true rfl, Nat.le_of_ble_eq_true rfl⟩) B (zrecv B (ci := 1) rfl (wa_2 κ σ)) rfl hl.1 rfl (Nat.le_of_ble_eq_true rfl) d_Ut_tell_11 ⟨Nat.zero_le _, Nat.zero_le _⟩ (fun σ' H locs hp B => ?_)
  rw [hp] at B
  have B : BA κ A s.heap s (fx_add σ E p1 (nI u) p3 p4 v) H locs := B
  refine lv_aload_n hx hb d_Ut_tell_14 rfl (lv_at hl 0 rfl) ?_
  refine va_get (D := κ.1) (ci := 5) (v := .ref (aA κ 1)) (C := "UnitThreads") (T := T_Ut) (N := 7) hx hb hts in_Ut hown B.1 B.2.1 0 (wa_0 κ (fx_add σ E p1 (nI u) p3 p4 v)) rfl 0 (by decide) (hts _ w_167) (fun _ h9 => h9) rfl d_Ut_tell_15 ?_
  refine lv_iload_n hx hb d_Ut_tell_18 rfl (lv_at hl 2 rfl) ?_
  have hu_1 : u < nA κ := (by omega)
  refine zaald hx hb B 1 2 (wa_1 κ (fx_add σ E p1 (nI u) p3 p4 v)) rfl u rfl hu_1 (by omega) rfl d_Ut_tell_19 ?_
  refine lv_aload_n hx hb d_Ut_tell_20 rfl (lv_at hl 0 rfl) ?_
  refine va_get (D := κ.1) (ci := 5) (v := .ref (aA κ 1)) (C := "UnitThreads") (T := T_Ut) (N := 7) hx hb hts in_Ut hown B.1 B.2.1 0 (wa_0 κ (fx_add σ E p1 (nI u) p3 p4 v)) rfl 0 (by decide) (hts _ w_167) (fun _ h9 => h9) rfl d_Ut_tell_21 ?_
  refine lv_iload_n hx hb d_Ut_tell_24 rfl (lv_at hl 2 rfl) ?_
  have hu_2 : u < nA κ := (by omega)
  refine zaald hx hb B 1 2 (wa_1 κ (fx_add σ E p1 (nI u) p3 p4 v)) rfl u rfl hu_2 (by omega) rfl d_Ut_tell_25 ?_
  refine va_get (D := κ.1) (ci := 0) (v := .int ((fx_add σ E p1 (nI u) p3 p4 v).1 1 u)) (C := "UnitThreads$Unit") (T := T_Un) (N := 8) hx hb hts in_Un hown B.1 B.2.1 (43 + u) (wa_u κ (fx_add σ E p1 (nI u) p3 p4 v) hu_2) rfl 1 (by decide) (hts _ w_36) (fun _ h9 => h9) rfl d_Ut_tell_26 ?_
  refine zrwi (y := σ.1 1 u) (rfl) ?_
  refine lv_iload_n hx hb d_Ut_tell_29 rfl (lv_at hl 3 rfl) ?_
  refine va_mmax hx hb (hml.trans hl.1.symm) hown (hts _ w_22) (hts _ w_23) (hts _ w_2) (hts _ w_24) (Nat.le_of_ble_eq_true rfl) (Nat.le_of_ble_eq_true rfl) (Nat.zero_le _) (Nat.zero_le _) d_Ut_tell_30 ?_
  refine zput (ci := 0) (v := .int (if σ.1 1 u < p3 then p3 else σ.1 1 u)) (ty := .int) (C := "UnitThreads$Unit") (T := T_Un) (N := 8) hx hb hts in_Un ty_Un tyok_Un nm_Un hown B (43 + u) (wa_u κ (fx_add σ E p1 (nI u) p3 p4 v) hu_1) rfl 1 (by decide) (hts _ w_36) (fun _ h9 => h9) rfl (by decide +kernel) rfl rfl (Nat.le_of_ble_eq_true rfl) (wq_1 κ (fx_add σ E p1 (nI u) p3 p4 v) hu_1 (if σ.1 1 u < p3 then p3 else σ.1 1 u)) d_Ut_tell_33 (fun H locs B => ?_)
  have B : BA κ A s.heap s (zi (fx_add σ E p1 (nI u) p3 p4 v) 1 u (if σ.1 1 u < p3 then p3 else σ.1 1 u)) H locs := B
  exact zret_v hx hb hr hlocks B (rfl) d_Ut_tell_36
set_option maxHeartbeats 4000000 in
set_option maxRecDepth 100000 in
theorem c_Ut_step (l : Launch) (κ : KA) (σ : zS) (p1 p2 p3 : Int32) (v : Int64) (hn : nA κ ≤ 8) (E : Nat) (hE : σ.1 12 0 = nI E) (hE3 : E ≤ 300) : zMi l y_Ut_step (zws y_Ut_step prog_1_method_2_code 6 (some .boolean)) ({ frames := 2, cells := 0, slots := 0, locals := 52 }) κ.1 vwCl (tysA κ) nwA (wA κ) σ [.ref (aA κ 0), .int (p1), .int (p2), .int (p3), .long (v)] (fun r σ' => r = zb (fx_stepB (nA κ) σ p1 p2 p3) ∧ σ' = fx_stepS (nA κ) E σ p1 p2 p3 v) := by
  refine zintro (cc := prog_1_method_2_code) (maxL := 6) (ret := (some .boolean)) (by decide) rfl (Nat.le_of_ble_eq_true rfl) ?_
  intro p e s m below meth c ls hx hb hr hml hts hown hlocks hl B
  have hl : lv_has ls 6 [(0, .ref (aA κ 0)), (1, .int (p1)), (2, .int (p2)), (3, .int (p3)), (4, .long (v))] := hl
  have B : BA κ (va_A (wA κ σ) s.heap.size) s.heap s σ s.heap [] := B
  have hr : meth.sig.returnType = (some .boolean) := hr
  have hown : s.vm.findClass "UnitThreads" = some m.cls := hown
  show W p l e (headSpec (zws y_Ut_step prog_1_method_2_code 6 (some .boolean)) ({ frames := 2, cells := 0, slots := 0, locals := 52 })).room s m [.ref (aA κ 0), .int (p1), .int (p2), .int (p3), .long (v)].toArray below meth c s.heap [] 0 0 (MQ below (va_Qi (fun r σ' => r = zb (fx_stepB (nA κ) σ p1 p2 p3) ∧ σ' = fx_stepS (nA κ) E σ p1 p2 p3 v) (zQ κ.1 vwCl (tysA κ) (wA κ) (va_A (wA κ σ) s.heap.size)) (va_A (wA κ σ) s.heap.size)) [.ref (aA κ 0), .int (p1), .int (p2), .int (p3), .long (v)].toArray s 0 0 (va_A (wA κ σ) s.heap.size)) (F0 m 0 ls [])
  generalize va_A (wA κ σ) s.heap.size = A at B ⊢
  have hts : ∀ w ∈ zW, w.before [.ref (aA κ 0), .int (p1), .int (p2), .int (p3), .long (v)].toArray s = true := fun w h => hts w (List.mem_cons_of_mem _ h)
  refine lv_aload_n hx hb d_Ut_step_0 rfl (lv_at hl 0 rfl) ?_
  refine lv_iload_n hx hb d_Ut_step_1 rfl (lv_at hl 1 rfl) ?_
  refine lv_iload_n hx hb d_Ut_step_2 rfl (lv_at hl 2 rfl) ?_
  refine zcV_i (As := [.int (p1), .int (p2)]) (rest := []) ⟨hx, hb, hml, hown, hts⟩ (c_Ut_takesEntry l κ σ p1 p2 hn) (cwV 2 hts (zgoodV w_193 w_195 s_0 w_1 w_196) rfl rfl rfl (by decide +kernel) ⟨Nat.le_of_ble_eq_true rfl, Nat.le_of_ble_eq_true rfl⟩) B (zrecv B (ci := 5) rfl (wa_0 κ σ)) rfl hl.1 rfl (Nat.le_of_ble_eq_true rfl) d_Ut_step_3 ⟨Nat.zero_le _, Nat.zero_le _⟩ (fun r σ' H locs hp B => ?_)
  obtain ⟨rfl, hp⟩ := hp
  rw [hp] at B
  have B : BA κ A s.heap s σ H locs := B
  refine lv_if_eq (tgt := 17) hx hb d_Ut_step_6 (by decide) (fun c_1 => ?_) (fun c_1 => ?_)
  · have c_1 := zb_eq0.mp c_1
    refine lv_iconst (v := 0) hx hb d_Ut_step_17 (by decide) ?_
    exact zret_z hx hb hr rfl hlocks B (⟨by simp [zb, fx_stepS, fx_stepB, c_1], by simp [zb, fx_stepS, fx_stepB, c_1]⟩) d_Ut_step_18
  · have c_1 := zb_ne0.mp c_1
    refine lv_iload_n hx hb d_Ut_step_9 rfl (lv_at hl 1 rfl) ?_
    refine lv_iload_n hx hb d_Ut_step_10 rfl (lv_at hl 3 rfl) ?_
    refine zcS_i (As := [.int (p1), .int (p3)]) (rest := []) ⟨hx, hb, hml, hown, hts⟩ (c_Ut_isOutputOf l κ σ p1 p3 ) (cwS 2 hts (zgoodS w_201 w_202 w_1 w_203) rfl rfl rfl (by decide +kernel) ⟨Nat.le_of_ble_eq_true rfl, Nat.le_of_ble_eq_true rfl⟩) B rfl hl.1 rfl (Nat.le_of_ble_eq_true rfl) d_Ut_step_11 ⟨Nat.zero_le _, Nat.zero_le _⟩ (fun r σ' H locs hp B => ?_)
    obtain ⟨rfl, hp⟩ := hp
    rw [hp] at B
    have B : BA κ A s.heap s σ H locs := B
    refine lv_if_ne (tgt := 19) hx hb d_Ut_step_14 (by decide) (fun c_2 => ?_) (fun c_2 => ?_)
    · have c_2 := zb_ne0.mp c_2
      refine lv_aload_n hx hb d_Ut_step_19 rfl (lv_at hl 0 rfl) ?_
      refine lv_iconst (v := 0) hx hb d_Ut_step_20 (by decide) ?_
      refine lv_iload_n hx hb d_Ut_step_21 rfl (lv_at hl 1 rfl) ?_
      refine zrwi (y := nI (tn p1)) ((fx_takes_in c_1 hn).1) ?_
      refine lv_iload_n hx hb d_Ut_step_22 rfl (lv_at hl 2 rfl) ?_
      refine lv_iload_n hx hb d_Ut_step_23 rfl (lv_at hl 3 rfl) ?_
      refine lv_lload hx hb d_Ut_step_24 (lv_at hl 4 rfl) ?_
      refine zcV_v (As := [.int (0), .int (nI (tn p1)), .int (p2), .int (p3), .long (v)]) (rest := []) ⟨hx, hb, hml, hown, hts⟩ (c_Ut_tell l κ σ 0 (tn p1) (fx_takes_in c_1 hn).2 p2 p3 v hn E hE (fx_takes_lt c_1 hE hE3)) (cwV 5 hts (zgoodV w_204 w_206 s_2 w_1 w_207) rfl rfl rfl (by decide +kernel) ⟨Nat.le_of_ble_eq_true rfl, Nat.le_of_ble_eq_true rfl⟩) B (zrecv B (ci := 5) rfl (wa_0 κ σ)) rfl hl.1 rfl (Nat.le_of_ble_eq_true rfl) d_Ut_step_26 ⟨Nat.zero_le _, Nat.zero_le _⟩ (fun σ' H locs hp B => ?_)
      rw [hp] at B
      have B : BA κ A s.heap s (fx_tell σ E 0 (tn p1) p2 p3 v) H locs := B
      refine lv_iconst (v := 1) hx hb d_Ut_step_29 (by decide) ?_
      exact zret_z hx hb hr rfl hlocks B (⟨by simp [zb, fx_stepS, fx_stepB, c_1, c_2], by simp [zb, fx_stepS, fx_stepB, c_1, c_2]⟩) d_Ut_step_30
    · have c_2 := zb_eq0.mp c_2
      refine lv_iconst (v := 0) hx hb d_Ut_step_17 (by decide) ?_
      exact zret_z hx hb hr rfl hlocks B (⟨by simp [zb, fx_stepS, fx_stepB, c_1, c_2], by simp [zb, fx_stepS, fx_stepB, c_1, c_2]⟩) d_Ut_step_18
set_option maxHeartbeats 4000000 in
set_option maxRecDepth 100000 in
theorem c_Ut_asks (l : Launch) (κ : KA) (σ : zS) (p1 p2 p3 : Int32) (hn : nA κ ≤ 8) (E : Nat) (hE : σ.1 12 0 = nI E) (hE3 : E ≤ 300) : zMi l y_Ut_asks (zws y_Ut_asks prog_1_method_3_code 4 (some .boolean)) ({ frames := 2, cells := 0, slots := 0, locals := 52 }) κ.1 vwCl (tysA κ) nwA (wA κ) σ [.ref (aA κ 0), .int (p1), .int (p2), .int (p3)] (fun r σ' => r = zb (fx_asksB (nA κ) E σ p1 p2 p3) ∧ σ' = fx_asksS (nA κ) E σ p1 p2 p3) := by
  refine zintro (cc := prog_1_method_3_code) (maxL := 4) (ret := (some .boolean)) (by decide) rfl (Nat.le_of_ble_eq_true rfl) ?_
  intro p e s m below meth c ls hx hb hr hml hts hown hlocks hl B
  have hl : lv_has ls 4 [(0, .ref (aA κ 0)), (1, .int (p1)), (2, .int (p2)), (3, .int (p3))] := hl
  have B : BA κ (va_A (wA κ σ) s.heap.size) s.heap s σ s.heap [] := B
  have hr : meth.sig.returnType = (some .boolean) := hr
  have hown : s.vm.findClass "UnitThreads" = some m.cls := hown
  show W p l e (headSpec (zws y_Ut_asks prog_1_method_3_code 4 (some .boolean)) ({ frames := 2, cells := 0, slots := 0, locals := 52 })).room s m [.ref (aA κ 0), .int (p1), .int (p2), .int (p3)].toArray below meth c s.heap [] 0 0 (MQ below (va_Qi (fun r σ' => r = zb (fx_asksB (nA κ) E σ p1 p2 p3) ∧ σ' = fx_asksS (nA κ) E σ p1 p2 p3) (zQ κ.1 vwCl (tysA κ) (wA κ) (va_A (wA κ σ) s.heap.size)) (va_A (wA κ σ) s.heap.size)) [.ref (aA κ 0), .int (p1), .int (p2), .int (p3)].toArray s 0 0 (va_A (wA κ σ) s.heap.size)) (F0 m 0 ls [])
  generalize va_A (wA κ σ) s.heap.size = A at B ⊢
  have hts : ∀ w ∈ zW, w.before [.ref (aA κ 0), .int (p1), .int (p2), .int (p3)].toArray s = true := fun w h => hts w (List.mem_cons_of_mem _ h)
  refine lv_aload_n hx hb d_Ut_asks_0 rfl (lv_at hl 0 rfl) ?_
  refine lv_iload_n hx hb d_Ut_asks_1 rfl (lv_at hl 1 rfl) ?_
  refine lv_iload_n hx hb d_Ut_asks_2 rfl (lv_at hl 2 rfl) ?_
  refine zcV_i (As := [.int (p1), .int (p2)]) (rest := []) ⟨hx, hb, hml, hown, hts⟩ (c_Ut_takesEntry l κ σ p1 p2 hn) (cwV 2 hts (zgoodV w_193 w_195 s_0 w_1 w_196) rfl rfl rfl (by decide +kernel) ⟨Nat.le_of_ble_eq_true rfl, Nat.le_of_ble_eq_true rfl⟩) B (zrecv B (ci := 5) rfl (wa_0 κ σ)) rfl hl.1 rfl (Nat.le_of_ble_eq_true rfl) d_Ut_asks_3 ⟨Nat.zero_le _, Nat.zero_le _⟩ (fun r σ' H locs hp B => ?_)
  obtain ⟨rfl, hp⟩ := hp
  rw [hp] at B
  have B : BA κ A s.heap s σ H locs := B
  refine lv_if_eq (tgt := 31) hx hb d_Ut_asks_6 (by decide) (fun c_1 => ?_) (fun c_1 => ?_)
  · have c_1 := zb_eq0.mp c_1
    refine lv_iconst (v := 0) hx hb d_Ut_asks_31 (by decide) ?_
    exact zret_z hx hb hr rfl hlocks B (⟨by simp [zb, fx_asksS, fx_asksB, c_1], by simp [zb, fx_asksS, fx_asksB, c_1]⟩) d_Ut_asks_32
  · have c_1 := zb_ne0.mp c_1
    refine lv_iload_n hx hb d_Ut_asks_9 rfl (lv_at hl 3 rfl) ?_
    refine zcS_i (As := [.int (p3)]) (rest := []) ⟨hx, hb, hml, hown, hts⟩ (c_Ut_isWay l κ σ p3 ) (cwS 1 hts (zgoodS w_216 w_217 w_1 w_218) rfl rfl rfl (by decide +kernel) ⟨Nat.le_of_ble_eq_true rfl, Nat.le_of_ble_eq_true rfl⟩) B rfl hl.1 rfl (Nat.le_of_ble_eq_true rfl) d_Ut_asks_10 ⟨Nat.zero_le _, Nat.zero_le _⟩ (fun r σ' H locs hp B => ?_)
    obtain ⟨rfl, hp⟩ := hp
    rw [hp] at B
    have B : BA κ A s.heap s σ H locs := B
    refine lv_if_eq (tgt := 31) hx hb d_Ut_asks_13 (by decide) (fun c_2 => ?_) (fun c_2 => ?_)
    · have c_2 := zb_eq0.mp c_2
      refine lv_iconst (v := 0) hx hb d_Ut_asks_31 (by decide) ?_
      exact zret_z hx hb hr rfl hlocks B (⟨by simp [zb, fx_asksS, fx_asksB, c_1, c_2], by simp [zb, fx_asksS, fx_asksB, c_1, c_2]⟩) d_Ut_asks_32
    · have c_2 := zb_ne0.mp c_2
      refine lv_aload_n hx hb d_Ut_asks_16 rfl (lv_at hl 0 rfl) ?_
      refine va_get (D := κ.1) (ci := 5) (v := .ref (aA κ 2)) (C := "UnitThreads") (T := T_Ut) (N := 7) hx hb hts in_Ut hown B.1 B.2.1 0 (wa_0 κ σ) rfl 1 (by decide) (hts _ w_168) (fun _ h9 => h9) rfl d_Ut_asks_17 ?_
      refine lv_iconst (v := 1) hx hb d_Ut_asks_20 (by decide) ?_
      refine lv_iload_n hx hb d_Ut_asks_21 rfl (lv_at hl 1 rfl) ?_
      refine lv_iload_n hx hb d_Ut_asks_22 rfl (lv_at hl 2 rfl) ?_
      refine lv_iload_n hx hb d_Ut_asks_23 rfl (lv_at hl 3 rfl) ?_
      refine zcV_i (As := [.int (1), .int (p1), .int (p2), .int (p3)]) (rest := []) ⟨hx, hb, hml, hown, hts⟩ (c_En_find l κ σ 1 p1 p2 p3 E hE hE3) (cwV 4 hts (zgoodV w_219 w_220 w_221 w_4 w_222) rfl rfl rfl (by decide +kernel) ⟨Nat.le_of_ble_eq_true rfl, Nat.le_of_ble_eq_true rfl⟩) B (zrecv B (ci := 1) rfl (wa_2 κ σ)) rfl hl.1 rfl (Nat.le_of_ble_eq_true rfl) d_Ut_asks_24 ⟨Nat.zero_le _, Nat.zero_le _⟩ (fun r σ' H locs hp B => ?_)
      obtain ⟨rfl, hp⟩ := hp
      rw [hp] at B
      have B : BA κ A s.heap s σ H locs := B
      refine lv_iconst (v := (-1)) hx hb d_Ut_asks_27 (by decide) ?_
      refine lv_icmp_eq (tgt := 33) hx hb d_Ut_asks_28 (by decide) (fun c_3 => ?_) (fun c_3 => ?_)
      · refine lv_aload_n hx hb d_Ut_asks_33 rfl (lv_at hl 0 rfl) ?_
        refine lv_iconst (v := 1) hx hb d_Ut_asks_34 (by decide) ?_
        refine lv_iload_n hx hb d_Ut_asks_35 rfl (lv_at hl 1 rfl) ?_
        refine zrwi (y := nI (tn p1)) ((fx_takes_in c_1 hn).1) ?_
        refine lv_iload_n hx hb d_Ut_asks_36 rfl (lv_at hl 2 rfl) ?_
        refine lv_iload_n hx hb d_Ut_asks_37 rfl (lv_at hl 3 rfl) ?_
        refine lv_lconst (v := 0) hx hb d_Ut_asks_38 (by decide) ?_
        refine zcV_v (As := [.int (1), .int (nI (tn p1)), .int (p2), .int (p3), .long (0)]) (rest := []) ⟨hx, hb, hml, hown, hts⟩ (c_Ut_tell l κ σ 1 (tn p1) (fx_takes_in c_1 hn).2 p2 p3 0 hn E hE (fx_takes_lt c_1 hE hE3)) (cwV 5 hts (zgoodV w_204 w_206 s_2 w_1 w_207) rfl rfl rfl (by decide +kernel) ⟨Nat.le_of_ble_eq_true rfl, Nat.le_of_ble_eq_true rfl⟩) B (zrecv B (ci := 5) rfl (wa_0 κ σ)) rfl hl.1 rfl (Nat.le_of_ble_eq_true rfl) d_Ut_asks_39 ⟨Nat.zero_le _, Nat.zero_le _⟩ (fun σ' H locs hp B => ?_)
        rw [hp] at B
        have B : BA κ A s.heap s (fx_tell σ E 1 (tn p1) p2 p3 0) H locs := B
        refine lv_iconst (v := 1) hx hb d_Ut_asks_42 (by decide) ?_
        exact zret_z hx hb hr rfl hlocks B (⟨by simp [zb, fx_asksS, fx_asksB, c_1, c_2, c_3], by simp [zb, fx_asksS, fx_asksB, c_1, c_2, c_3]⟩) d_Ut_asks_43
      · refine lv_iconst (v := 0) hx hb d_Ut_asks_31 (by decide) ?_
        exact zret_z hx hb hr rfl hlocks B (⟨by simp [zb, fx_asksS, fx_asksB, c_1, c_2, c_3], by simp [zb, fx_asksS, fx_asksB, c_1, c_2, c_3]⟩) d_Ut_asks_32
set_option maxHeartbeats 4000000 in
set_option maxRecDepth 100000 in
theorem c_Ut_throwsAt (l : Launch) (κ : KA) (σ : zS) (p1 p2 : Int32) (hn : nA κ ≤ 8) (E : Nat) (hE : σ.1 12 0 = nI E) (hE3 : E ≤ 300) : zMi l y_Ut_throwsAt (zws y_Ut_throwsAt prog_1_method_4_code 3 (some .boolean)) ({ frames := 2, cells := 0, slots := 0, locals := 52 }) κ.1 vwCl (tysA κ) nwA (wA κ) σ [.ref (aA κ 0), .int (p1), .int (p2)] (fun r σ' => r = zb (fx_throwB (nA κ) E σ p1 p2) ∧ σ' = fx_throwS (nA κ) E σ p1 p2) := by
  refine zintro (cc := prog_1_method_4_code) (maxL := 3) (ret := (some .boolean)) (by decide) rfl (Nat.le_of_ble_eq_true rfl) ?_
  intro p e s m below meth c ls hx hb hr hml hts hown hlocks hl B
  have hl : lv_has ls 3 [(0, .ref (aA κ 0)), (1, .int (p1)), (2, .int (p2))] := hl
  have B : BA κ (va_A (wA κ σ) s.heap.size) s.heap s σ s.heap [] := B
  have hr : meth.sig.returnType = (some .boolean) := hr
  have hown : s.vm.findClass "UnitThreads" = some m.cls := hown
  show W p l e (headSpec (zws y_Ut_throwsAt prog_1_method_4_code 3 (some .boolean)) ({ frames := 2, cells := 0, slots := 0, locals := 52 })).room s m [.ref (aA κ 0), .int (p1), .int (p2)].toArray below meth c s.heap [] 0 0 (MQ below (va_Qi (fun r σ' => r = zb (fx_throwB (nA κ) E σ p1 p2) ∧ σ' = fx_throwS (nA κ) E σ p1 p2) (zQ κ.1 vwCl (tysA κ) (wA κ) (va_A (wA κ σ) s.heap.size)) (va_A (wA κ σ) s.heap.size)) [.ref (aA κ 0), .int (p1), .int (p2)].toArray s 0 0 (va_A (wA κ σ) s.heap.size)) (F0 m 0 ls [])
  generalize va_A (wA κ σ) s.heap.size = A at B ⊢
  have hts : ∀ w ∈ zW, w.before [.ref (aA κ 0), .int (p1), .int (p2)].toArray s = true := fun w h => hts w (List.mem_cons_of_mem _ h)
  refine lv_aload_n hx hb d_Ut_throwsAt_0 rfl (lv_at hl 0 rfl) ?_
  refine lv_iload_n hx hb d_Ut_throwsAt_1 rfl (lv_at hl 1 rfl) ?_
  refine lv_iload_n hx hb d_Ut_throwsAt_2 rfl (lv_at hl 2 rfl) ?_
  refine zcV_i (As := [.int (p1), .int (p2)]) (rest := []) ⟨hx, hb, hml, hown, hts⟩ (c_Ut_takesEntry l κ σ p1 p2 hn) (cwV 2 hts (zgoodV w_193 w_195 s_0 w_1 w_196) rfl rfl rfl (by decide +kernel) ⟨Nat.le_of_ble_eq_true rfl, Nat.le_of_ble_eq_true rfl⟩) B (zrecv B (ci := 5) rfl (wa_0 κ σ)) rfl hl.1 rfl (Nat.le_of_ble_eq_true rfl) d_Ut_throwsAt_3 ⟨Nat.zero_le _, Nat.zero_le _⟩ (fun r σ' H locs hp B => ?_)
  obtain ⟨rfl, hp⟩ := hp
  rw [hp] at B
  have B : BA κ A s.heap s σ H locs := B
  refine lv_if_eq (tgt := 24) hx hb d_Ut_throwsAt_6 (by decide) (fun c_1 => ?_) (fun c_1 => ?_)
  · have c_1 := zb_eq0.mp c_1
    refine lv_iconst (v := 0) hx hb d_Ut_throwsAt_24 (by decide) ?_
    exact zret_z hx hb hr rfl hlocks B (⟨by simp [zb, fx_throwS, fx_throwB, c_1], by simp [zb, fx_throwS, fx_throwB, c_1]⟩) d_Ut_throwsAt_25
  · have c_1 := zb_ne0.mp c_1
    refine lv_aload_n hx hb d_Ut_throwsAt_9 rfl (lv_at hl 0 rfl) ?_
    refine va_get (D := κ.1) (ci := 5) (v := .ref (aA κ 2)) (C := "UnitThreads") (T := T_Ut) (N := 7) hx hb hts in_Ut hown B.1 B.2.1 0 (wa_0 κ σ) rfl 1 (by decide) (hts _ w_168) (fun _ h9 => h9) rfl d_Ut_throwsAt_10 ?_
    refine lv_iconst (v := 2) hx hb d_Ut_throwsAt_13 (by decide) ?_
    refine lv_iload_n hx hb d_Ut_throwsAt_14 rfl (lv_at hl 1 rfl) ?_
    refine lv_iload_n hx hb d_Ut_throwsAt_15 rfl (lv_at hl 2 rfl) ?_
    refine lv_iconst (v := 0) hx hb d_Ut_throwsAt_16 (by decide) ?_
    refine zcV_i (As := [.int (2), .int (p1), .int (p2), .int (0)]) (rest := []) ⟨hx, hb, hml, hown, hts⟩ (c_En_find l κ σ 2 p1 p2 0 E hE hE3) (cwV 4 hts (zgoodV w_219 w_220 w_221 w_4 w_222) rfl rfl rfl (by decide +kernel) ⟨Nat.le_of_ble_eq_true rfl, Nat.le_of_ble_eq_true rfl⟩) B (zrecv B (ci := 1) rfl (wa_2 κ σ)) rfl hl.1 rfl (Nat.le_of_ble_eq_true rfl) d_Ut_throwsAt_17 ⟨Nat.zero_le _, Nat.zero_le _⟩ (fun r σ' H locs hp B => ?_)
    obtain ⟨rfl, hp⟩ := hp
    rw [hp] at B
    have B : BA κ A s.heap s σ H locs := B
    refine lv_iconst (v := (-1)) hx hb d_Ut_throwsAt_20 (by decide) ?_
    refine lv_icmp_eq (tgt := 26) hx hb d_Ut_throwsAt_21 (by decide) (fun c_2 => ?_) (fun c_2 => ?_)
    · refine lv_aload_n hx hb d_Ut_throwsAt_26 rfl (lv_at hl 0 rfl) ?_
      refine lv_iconst (v := 2) hx hb d_Ut_throwsAt_27 (by decide) ?_
      refine lv_iload_n hx hb d_Ut_throwsAt_28 rfl (lv_at hl 1 rfl) ?_
      refine zrwi (y := nI (tn p1)) ((fx_takes_in c_1 hn).1) ?_
      refine lv_iload_n hx hb d_Ut_throwsAt_29 rfl (lv_at hl 2 rfl) ?_
      refine lv_iconst (v := 0) hx hb d_Ut_throwsAt_30 (by decide) ?_
      refine lv_lconst (v := 0) hx hb d_Ut_throwsAt_31 (by decide) ?_
      refine zcV_v (As := [.int (2), .int (nI (tn p1)), .int (p2), .int (0), .long (0)]) (rest := []) ⟨hx, hb, hml, hown, hts⟩ (c_Ut_tell l κ σ 2 (tn p1) (fx_takes_in c_1 hn).2 p2 0 0 hn E hE (fx_takes_lt c_1 hE hE3)) (cwV 5 hts (zgoodV w_204 w_206 s_2 w_1 w_207) rfl rfl rfl (by decide +kernel) ⟨Nat.le_of_ble_eq_true rfl, Nat.le_of_ble_eq_true rfl⟩) B (zrecv B (ci := 5) rfl (wa_0 κ σ)) rfl hl.1 rfl (Nat.le_of_ble_eq_true rfl) d_Ut_throwsAt_32 ⟨Nat.zero_le _, Nat.zero_le _⟩ (fun σ' H locs hp B => ?_)
      rw [hp] at B
      have B : BA κ A s.heap s (fx_tell σ E 2 (tn p1) p2 0 0) H locs := B
      refine lv_iconst (v := 1) hx hb d_Ut_throwsAt_35 (by decide) ?_
      exact zret_z hx hb hr rfl hlocks B (⟨by simp [zb, fx_throwS, fx_throwB, c_1, c_2], by simp [zb, fx_throwS, fx_throwB, c_1, c_2]⟩) d_Ut_throwsAt_36
    · refine lv_iconst (v := 0) hx hb d_Ut_throwsAt_24 (by decide) ?_
      exact zret_z hx hb hr rfl hlocks B (⟨by simp [zb, fx_throwS, fx_throwB, c_1, c_2], by simp [zb, fx_throwS, fx_throwB, c_1, c_2]⟩) d_Ut_throwsAt_25
set_option maxHeartbeats 4000000 in
set_option maxRecDepth 100000 in
theorem c_Ut_safe (l : Launch) (κ : KA) (σ : zS) (p1 : Int32) (v : Int64) (hn : nA κ ≤ 8) : zMi l y_Ut_safe (zws y_Ut_safe prog_1_method_5_code 4 (some .boolean)) ({ frames := 1, cells := 0, slots := 0, locals := 21 }) κ.1 vwCl (tysA κ) nwA (wA κ) σ [.ref (aA κ 0), .int (p1), .long (v)] (fun r σ' => r = zb (fx_safeB (nA κ) σ p1) ∧ σ' = fx_safeS (nA κ) σ p1 v) := by
  refine zintro (cc := prog_1_method_5_code) (maxL := 4) (ret := (some .boolean)) (by decide) rfl (Nat.le_of_ble_eq_true rfl) ?_
  intro p e s m below meth c ls hx hb hr hml hts hown hlocks hl B
  have hl : lv_has ls 4 [(0, .ref (aA κ 0)), (1, .int (p1)), (2, .long (v))] := hl
  have B : BA κ (va_A (wA κ σ) s.heap.size) s.heap s σ s.heap [] := B
  have hr : meth.sig.returnType = (some .boolean) := hr
  have hown : s.vm.findClass "UnitThreads" = some m.cls := hown
  show W p l e (headSpec (zws y_Ut_safe prog_1_method_5_code 4 (some .boolean)) ({ frames := 1, cells := 0, slots := 0, locals := 21 })).room s m [.ref (aA κ 0), .int (p1), .long (v)].toArray below meth c s.heap [] 0 0 (MQ below (va_Qi (fun r σ' => r = zb (fx_safeB (nA κ) σ p1) ∧ σ' = fx_safeS (nA κ) σ p1 v) (zQ κ.1 vwCl (tysA κ) (wA κ) (va_A (wA κ σ) s.heap.size)) (va_A (wA κ σ) s.heap.size)) [.ref (aA κ 0), .int (p1), .long (v)].toArray s 0 0 (va_A (wA κ σ) s.heap.size)) (F0 m 0 ls [])
  generalize va_A (wA κ σ) s.heap.size = A at B ⊢
  have hts : ∀ w ∈ zW, w.before [.ref (aA κ 0), .int (p1), .long (v)].toArray s = true := fun w h => hts w (List.mem_cons_of_mem _ h)
  refine lv_aload_n hx hb d_Ut_safe_0 rfl (lv_at hl 0 rfl) ?_
  refine va_get (D := κ.1) (ci := 5) (v := .ref (aA κ 14)) (C := "UnitThreads") (T := T_Ut) (N := 7) hx hb hts in_Ut hown B.1 B.2.1 0 (wa_0 κ σ) rfl 4 (by decide) (hts _ w_171) (fun _ h9 => h9) rfl d_Ut_safe_1 ?_
  refine lv_iload_n hx hb d_Ut_safe_4 rfl (lv_at hl 1 rfl) ?_
  refine zcV_i (As := [.int (p1)]) (rest := []) ⟨hx, hb, hml, hown, hts⟩ (c_Bo_hasOutput l κ σ p1 ) (cwV 1 hts (zgoodV w_231 w_232 w_233 w_7 w_234) rfl rfl rfl (by decide +kernel) ⟨Nat.le_of_ble_eq_true rfl, Nat.le_of_ble_eq_true rfl⟩) B (zrecv B (ci := 4) rfl (wa_14 κ σ)) rfl hl.1 rfl (Nat.le_of_ble_eq_true rfl) d_Ut_safe_5 ⟨Nat.zero_le _, Nat.zero_le _⟩ (fun r σ' H locs hp B => ?_)
  obtain ⟨rfl, hp⟩ := hp
  rw [hp] at B
  have B : BA κ A s.heap s σ H locs := B
  refine lv_if_eq (tgt := 18) hx hb d_Ut_safe_8 (by decide) (fun c_1 => ?_) (fun c_1 => ?_)
  · have c_1 := zb_eq0.mp c_1
    refine lv_iconst (v := 0) hx hb d_Ut_safe_18 (by decide) ?_
    exact zret_z hx hb hr rfl hlocks B (⟨by simp [zb, fx_safeS, fx_safeB, c_1], by simp [zb, fx_safeS, fx_safeB, c_1]⟩) d_Ut_safe_19
  · have c_1 := zb_ne0.mp c_1
    refine lv_aload_n hx hb d_Ut_safe_11 rfl (lv_at hl 0 rfl) ?_
    refine va_get (D := κ.1) (ci := 5) (v := .int (σ.1 23 0)) (C := "UnitThreads") (T := T_Ut) (N := 7) hx hb hts in_Ut hown B.1 B.2.1 0 (wa_0 κ σ) rfl 6 (by decide) (hts _ w_173) (fun _ h9 => h9) rfl d_Ut_safe_12 ?_
    refine lv_if_eq (tgt := 20) hx hb d_Ut_safe_15 (by decide) (fun c_2 => ?_) (fun c_2 => ?_)
    · refine lv_aload_n hx hb d_Ut_safe_20 rfl (lv_at hl 0 rfl) ?_
      refine va_get (D := κ.1) (ci := 5) (v := .ref (aA κ 14)) (C := "UnitThreads") (T := T_Ut) (N := 7) hx hb hts in_Ut hown B.1 B.2.1 0 (wa_0 κ σ) rfl 4 (by decide) (hts _ w_171) (fun _ h9 => h9) rfl d_Ut_safe_21 ?_
      refine va_get (D := κ.1) (ci := 4) (v := .ref (aA κ 16)) (C := "UnitThreads$Board") (T := T_Bo) (N := 6) hx hb hts in_Bo hown B.1 B.2.1 14 (wa_14 κ σ) rfl 1 (by decide) (hts _ w_147) (fun _ h9 => h9) rfl d_Ut_safe_24 ?_
      refine lv_iload_n hx hb d_Ut_safe_27 rfl (lv_at hl 1 rfl) ?_
      refine lv_lload_n hx hb d_Ut_safe_28 rfl (lv_at hl 2 rfl) ?_
      refine zlast hx hb B 16 1 (wa_16 κ σ) rfl (tn p1) ((fx_hasOut_in c_1 hn).1) ((fx_hasOut_in c_1 hn).2) (by omega) (ws_16 κ σ (tn p1) v) d_Ut_safe_29 (fun H locs B => ?_)
      have B : BA κ A s.heap s (zl σ 3 (tn p1) v) H locs := B
      refine lv_iconst (v := 1) hx hb d_Ut_safe_30 (by decide) ?_
      exact zret_z hx hb hr rfl hlocks B (⟨by simp [zb, fx_safeS, fx_safeB, c_1, c_2], by simp [zb, fx_safeS, fx_safeB, c_1, c_2]⟩) d_Ut_safe_31
    · refine lv_iconst (v := 0) hx hb d_Ut_safe_18 (by decide) ?_
      exact zret_z hx hb hr rfl hlocks B (⟨by simp [zb, fx_safeS, fx_safeB, c_1, c_2], by simp [zb, fx_safeS, fx_safeB, c_1, c_2]⟩) d_Ut_safe_19
set_option maxHeartbeats 4000000 in
set_option maxRecDepth 100000 in
theorem c_Ut_bar (l : Launch) (κ : KA) (σ : zS) (p1 p2 : Int32) : zMi l y_Ut_bar (zws y_Ut_bar prog_1_method_6_code 3 (some .boolean)) ({ frames := 1, cells := 0, slots := 0, locals := 21 }) κ.1 vwCl (tysA κ) nwA (wA κ) σ [.ref (aA κ 0), .int (p1), .int (p2)] (fun r σ' => r = zb (fx_barB σ p1 p2) ∧ σ' = fx_barS σ p1 p2) := by
  refine zintro (cc := prog_1_method_6_code) (maxL := 3) (ret := (some .boolean)) (by decide) rfl (Nat.le_of_ble_eq_true rfl) ?_
  intro p e s m below meth c ls hx hb hr hml hts hown hlocks hl B
  have hl : lv_has ls 3 [(0, .ref (aA κ 0)), (1, .int (p1)), (2, .int (p2))] := hl
  have B : BA κ (va_A (wA κ σ) s.heap.size) s.heap s σ s.heap [] := B
  have hr : meth.sig.returnType = (some .boolean) := hr
  have hown : s.vm.findClass "UnitThreads" = some m.cls := hown
  show W p l e (headSpec (zws y_Ut_bar prog_1_method_6_code 3 (some .boolean)) ({ frames := 1, cells := 0, slots := 0, locals := 21 })).room s m [.ref (aA κ 0), .int (p1), .int (p2)].toArray below meth c s.heap [] 0 0 (MQ below (va_Qi (fun r σ' => r = zb (fx_barB σ p1 p2) ∧ σ' = fx_barS σ p1 p2) (zQ κ.1 vwCl (tysA κ) (wA κ) (va_A (wA κ σ) s.heap.size)) (va_A (wA κ σ) s.heap.size)) [.ref (aA κ 0), .int (p1), .int (p2)].toArray s 0 0 (va_A (wA κ σ) s.heap.size)) (F0 m 0 ls [])
  generalize va_A (wA κ σ) s.heap.size = A at B ⊢
  have hts : ∀ w ∈ zW, w.before [.ref (aA κ 0), .int (p1), .int (p2)].toArray s = true := fun w h => hts w (List.mem_cons_of_mem _ h)
  refine lv_iload_n hx hb d_Ut_bar_0 rfl (lv_at hl 1 rfl) ?_
  refine zcS_i (As := [.int (p1)]) (rest := []) ⟨hx, hb, hml, hown, hts⟩ (c_Ut_isWay l κ σ p1 ) (cwS 1 hts (zgoodS w_216 w_217 w_1 w_218) rfl rfl rfl (by decide +kernel) ⟨Nat.le_of_ble_eq_true rfl, Nat.le_of_ble_eq_true rfl⟩) B rfl hl.1 rfl (Nat.le_of_ble_eq_true rfl) d_Ut_bar_1 ⟨Nat.zero_le _, Nat.zero_le _⟩ (fun r σ' H locs hp B => ?_)
  obtain ⟨rfl, hp⟩ := hp
  rw [hp] at B
  have B : BA κ A s.heap s σ H locs := B
  refine lv_if_eq (tgt := 24) hx hb d_Ut_bar_4 (by decide) (fun c_1 => ?_) (fun c_1 => ?_)
  · have c_1 := zb_eq0.mp c_1
    refine lv_iconst (v := 0) hx hb d_Ut_bar_24 (by decide) ?_
    exact zret_z hx hb hr rfl hlocks B (⟨by simp [zb, fx_barS, fx_barB, c_1], by simp [zb, fx_barS, fx_barB, c_1]⟩) d_Ut_bar_25
  · have c_1 := zb_ne0.mp c_1
    refine lv_iload_n hx hb d_Ut_bar_7 rfl (lv_at hl 2 rfl) ?_
    refine lv_if_lt (tgt := 24) hx hb d_Ut_bar_8 (by decide) (fun c_2 => ?_) (fun c_2 => ?_)
    · refine lv_iconst (v := 0) hx hb d_Ut_bar_24 (by decide) ?_
      exact zret_z hx hb hr rfl hlocks B (⟨by simp [zb, fx_barS, fx_barB, c_1, c_2], by simp [zb, fx_barS, fx_barB, c_1, c_2]⟩) d_Ut_bar_25
    · refine lv_iload_n hx hb d_Ut_bar_11 rfl (lv_at hl 2 rfl) ?_
      refine lv_bipush (v := 64) hx hb d_Ut_bar_12 (by decide) ?_
      refine lv_icmp_ge (tgt := 24) hx hb d_Ut_bar_14 (by decide) (fun c_3 => ?_) (fun c_3 => ?_)
      · refine lv_iconst (v := 0) hx hb d_Ut_bar_24 (by decide) ?_
        exact zret_z hx hb hr rfl hlocks B (⟨by simp [zb, fx_barS, fx_barB, c_1, c_2, c_3], by simp [zb, fx_barS, fx_barB, c_1, c_2, c_3]⟩) d_Ut_bar_25
      · refine lv_aload_n hx hb d_Ut_bar_17 rfl (lv_at hl 0 rfl) ?_
        refine va_get (D := κ.1) (ci := 5) (v := .int (σ.1 23 0)) (C := "UnitThreads") (T := T_Ut) (N := 7) hx hb hts in_Ut hown B.1 B.2.1 0 (wa_0 κ σ) rfl 6 (by decide) (hts _ w_173) (fun _ h9 => h9) rfl d_Ut_bar_18 ?_
        refine lv_if_eq (tgt := 26) hx hb d_Ut_bar_21 (by decide) (fun c_4 => ?_) (fun c_4 => ?_)
        · refine lv_iload_n hx hb d_Ut_bar_26 rfl (lv_at hl 2 rfl) ?_
          refine lv_aload_n hx hb d_Ut_bar_27 rfl (lv_at hl 0 rfl) ?_
          refine va_get (D := κ.1) (ci := 5) (v := .ref (aA κ 14)) (C := "UnitThreads") (T := T_Ut) (N := 7) hx hb hts in_Ut hown B.1 B.2.1 0 (wa_0 κ σ) rfl 4 (by decide) (hts _ w_171) (fun _ h9 => h9) rfl d_Ut_bar_28 ?_
          refine va_get (D := κ.1) (ci := 4) (v := .int (σ.1 21 0)) (C := "UnitThreads$Board") (T := T_Bo) (N := 6) hx hb hts in_Bo hown B.1 B.2.1 14 (wa_14 κ σ) rfl 5 (by decide) (hts _ w_153) (fun _ h9 => h9) rfl d_Ut_bar_31 ?_
          refine lv_icmp_lt (tgt := 50) hx hb d_Ut_bar_34 (by decide) (fun c_5 => ?_) (fun c_5 => ?_)
          · refine lv_iconst (v := 0) hx hb d_Ut_bar_50 (by decide) ?_
            exact zret_z hx hb hr rfl hlocks B (⟨by simp [zb, fx_barS, fx_barB, c_1, c_2, c_3, c_4, c_5], by simp [zb, fx_barS, fx_barB, c_1, c_2, c_3, c_4, c_5]⟩) d_Ut_bar_51
          · refine lv_aload_n hx hb d_Ut_bar_37 rfl (lv_at hl 0 rfl) ?_
            refine va_get (D := κ.1) (ci := 5) (v := .ref (aA κ 20)) (C := "UnitThreads") (T := T_Ut) (N := 7) hx hb hts in_Ut hown B.1 B.2.1 0 (wa_0 κ σ) rfl 5 (by decide) (hts _ w_172) (fun _ h9 => h9) rfl d_Ut_bar_38 ?_
            refine lv_iload_n hx hb d_Ut_bar_41 rfl (lv_at hl 2 rfl) ?_
            refine ziald hx hb B 20 0 (wa_20 κ σ) rfl (tn p2) (zix c_2) (zixlt (n := 64) c_2 c_3 (by omega)) (by decide) d_Ut_bar_42 ?_
            refine lv_iload_n hx hb d_Ut_bar_43 rfl (lv_at hl 1 rfl) ?_
            refine zcS_i (As := [.int (σ.1 22 (tn p2)), .int (p1)]) (rest := []) ⟨hx, hb, hml, hown, hts⟩ (c_Ut_hasWay l κ σ (σ.1 22 (tn p2)) p1 ) (cwS 2 hts (zgoodS w_239 w_240 w_1 w_241) rfl rfl rfl (by decide +kernel) ⟨Nat.le_of_ble_eq_true rfl, Nat.le_of_ble_eq_true rfl⟩) B rfl hl.1 rfl (Nat.le_of_ble_eq_true rfl) d_Ut_bar_44 ⟨Nat.zero_le _, Nat.zero_le _⟩ (fun r σ' H locs hp B => ?_)
            obtain ⟨rfl, hp⟩ := hp
            rw [hp] at B
            have B : BA κ A s.heap s σ H locs := B
            refine lv_if_eq (tgt := 52) hx hb d_Ut_bar_47 (by decide) (fun c_6 => ?_) (fun c_6 => ?_)
            · have c_6 := zb_eq0.mp c_6
              refine lv_aload_n hx hb d_Ut_bar_52 rfl (lv_at hl 0 rfl) ?_
              refine va_get (D := κ.1) (ci := 5) (v := .ref (aA κ 20)) (C := "UnitThreads") (T := T_Ut) (N := 7) hx hb hts in_Ut hown B.1 B.2.1 0 (wa_0 κ σ) rfl 5 (by decide) (hts _ w_172) (fun _ h9 => h9) rfl d_Ut_bar_53 ?_
              refine lv_iload_n hx hb d_Ut_bar_56 rfl (lv_at hl 2 rfl) ?_
              refine lv_dup2_11 hx hb d_Ut_bar_57 rfl rfl ?_
              refine ziald hx hb B 20 0 (wa_20 κ σ) rfl (tn p2) (zix c_2) (zixlt (n := 64) c_2 c_3 (by omega)) (by decide) d_Ut_bar_58 ?_
              refine lv_iconst (v := 1) hx hb d_Ut_bar_59 (by decide) ?_
              refine lv_iload_n hx hb d_Ut_bar_60 rfl (lv_at hl 1 rfl) ?_
              refine lv_ishl hx hb d_Ut_bar_61 ?_
              refine lv_ior hx hb d_Ut_bar_62 ?_
              refine ziast hx hb B 20 0 (wa_20 κ σ) rfl (tn p2) (zix c_2) (zixlt (n := 64) c_2 c_3 (by omega)) (by decide) (ws_20 κ σ (tn p2) ((σ.1 22 (tn p2)) ||| (1 <<< (p1 &&& 31)))) d_Ut_bar_63 (fun H locs B => ?_)
              have B : BA κ A s.heap s (zi σ 22 (tn p2) ((σ.1 22 (tn p2)) ||| (1 <<< (p1 &&& 31)))) H locs := B
              refine lv_iconst (v := 1) hx hb d_Ut_bar_64 (by decide) ?_
              exact zret_z hx hb hr rfl hlocks B (⟨by simp [zb, fx_barS, fx_barB, c_1, c_2, c_3, c_4, c_5, c_6], by simp [zb, fx_barS, fx_barB, c_1, c_2, c_3, c_4, c_5, c_6]⟩) d_Ut_bar_65
            · have c_6 := zb_ne0.mp c_6
              refine lv_iconst (v := 0) hx hb d_Ut_bar_50 (by decide) ?_
              exact zret_z hx hb hr rfl hlocks B (⟨by simp [zb, fx_barS, fx_barB, c_1, c_2, c_3, c_4, c_5, c_6], by simp [zb, fx_barS, fx_barB, c_1, c_2, c_3, c_4, c_5, c_6]⟩) d_Ut_bar_51
        · refine lv_iconst (v := 0) hx hb d_Ut_bar_24 (by decide) ?_
          exact zret_z hx hb hr rfl hlocks B (⟨by simp [zb, fx_barS, fx_barB, c_1, c_2, c_3, c_4], by simp [zb, fx_barS, fx_barB, c_1, c_2, c_3, c_4]⟩) d_Ut_bar_25
set_option maxHeartbeats 4000000 in
set_option maxRecDepth 100000 in
theorem c_Ut_output (l : Launch) (κ : KA) (σ : zS) (p1 p2 : Int32) (hn : nA κ ≤ 8) (b : Nat) (hbs : σ.1 21 0 = nI b) (hb64 : b ≤ 64) : zMl l y_Ut_output (zws y_Ut_output prog_1_method_8_code 3 (some .long)) ({ frames := 2, cells := 0, slots := 0, locals := 43 }) κ.1 vwCl (tysA κ) nwA (wA κ) σ [.ref (aA κ 0), .int (p1), .int (p2)] (fun r σ' => r = fx_valueAt (nA κ) σ p1 p2 ∧ σ' = σ) := by
  refine zintro (cc := prog_1_method_8_code) (maxL := 3) (ret := (some .long)) (by decide) rfl (Nat.le_of_ble_eq_true rfl) ?_
  intro p e s m below meth c ls hx hb hr hml hts hown hlocks hl B
  have hl : lv_has ls 3 [(0, .ref (aA κ 0)), (1, .int (p1)), (2, .int (p2))] := hl
  have B : BA κ (va_A (wA κ σ) s.heap.size) s.heap s σ s.heap [] := B
  have hr : meth.sig.returnType = (some .long) := hr
  have hown : s.vm.findClass "UnitThreads" = some m.cls := hown
  show W p l e (headSpec (zws y_Ut_output prog_1_method_8_code 3 (some .long)) ({ frames := 2, cells := 0, slots := 0, locals := 43 })).room s m [.ref (aA κ 0), .int (p1), .int (p2)].toArray below meth c s.heap [] 0 0 (MQ below (va_Ql (fun r σ' => r = fx_valueAt (nA κ) σ p1 p2 ∧ σ' = σ) (zQ κ.1 vwCl (tysA κ) (wA κ) (va_A (wA κ σ) s.heap.size)) (va_A (wA κ σ) s.heap.size)) [.ref (aA κ 0), .int (p1), .int (p2)].toArray s 0 0 (va_A (wA κ σ) s.heap.size)) (F0 m 0 ls [])
  generalize va_A (wA κ σ) s.heap.size = A at B ⊢
  have hts : ∀ w ∈ zW, w.before [.ref (aA κ 0), .int (p1), .int (p2)].toArray s = true := fun w h => hts w (List.mem_cons_of_mem _ h)
  refine lv_aload_n hx hb d_Ut_output_0 rfl (lv_at hl 0 rfl) ?_
  refine va_get (D := κ.1) (ci := 5) (v := .ref (aA κ 14)) (C := "UnitThreads") (T := T_Ut) (N := 7) hx hb hts in_Ut hown B.1 B.2.1 0 (wa_0 κ σ) rfl 4 (by decide) (hts _ w_171) (fun _ h9 => h9) rfl d_Ut_output_1 ?_
  refine lv_iload_n hx hb d_Ut_output_4 rfl (lv_at hl 1 rfl) ?_
  refine lv_iload_n hx hb d_Ut_output_5 rfl (lv_at hl 2 rfl) ?_
  refine zcV_l (As := [.int (p1), .int (p2)]) (rest := []) ⟨hx, hb, hml, hown, hts⟩ (c_Bo_valueAt l κ σ p1 p2 hn b hbs hb64) (cwV 2 hts (zgoodV w_349 w_350 w_351 w_7 w_352) rfl rfl rfl (by decide +kernel) ⟨Nat.le_of_ble_eq_true rfl, Nat.le_of_ble_eq_true rfl⟩) B (zrecv B (ci := 4) rfl (wa_14 κ σ)) rfl hl.1 rfl (Nat.le_of_ble_eq_true rfl) d_Ut_output_6 ⟨Nat.zero_le _, Nat.zero_le _⟩ (fun r σ' H locs hp B => ?_)
  obtain ⟨rfl, hp⟩ := hp
  rw [hp] at B
  have B : BA κ A s.heap s σ H locs := B
  exact zret_l hx hb hr hlocks B (⟨rfl, rfl⟩) d_Ut_output_9
set_option maxHeartbeats 4000000 in
set_option maxRecDepth 100000 in
theorem c_Ut_owner (l : Launch) (κ : KA) (σ : zS) (p1 p2 : Int32) (b : Nat) (hbs : σ.1 21 0 = nI b) (hb64 : b ≤ 64) : zMi l y_Ut_owner (zws y_Ut_owner prog_1_method_9_code 3 (some .int)) ({ frames := 2, cells := 0, slots := 0, locals := 43 }) κ.1 vwCl (tysA κ) nwA (wA κ) σ [.ref (aA κ 0), .int (p1), .int (p2)] (fun r σ' => r = fx_ownerAt σ p1 p2 ∧ σ' = σ) := by
  refine zintro (cc := prog_1_method_9_code) (maxL := 3) (ret := (some .int)) (by decide) rfl (Nat.le_of_ble_eq_true rfl) ?_
  intro p e s m below meth c ls hx hb hr hml hts hown hlocks hl B
  have hl : lv_has ls 3 [(0, .ref (aA κ 0)), (1, .int (p1)), (2, .int (p2))] := hl
  have B : BA κ (va_A (wA κ σ) s.heap.size) s.heap s σ s.heap [] := B
  have hr : meth.sig.returnType = (some .int) := hr
  have hown : s.vm.findClass "UnitThreads" = some m.cls := hown
  show W p l e (headSpec (zws y_Ut_owner prog_1_method_9_code 3 (some .int)) ({ frames := 2, cells := 0, slots := 0, locals := 43 })).room s m [.ref (aA κ 0), .int (p1), .int (p2)].toArray below meth c s.heap [] 0 0 (MQ below (va_Qi (fun r σ' => r = fx_ownerAt σ p1 p2 ∧ σ' = σ) (zQ κ.1 vwCl (tysA κ) (wA κ) (va_A (wA κ σ) s.heap.size)) (va_A (wA κ σ) s.heap.size)) [.ref (aA κ 0), .int (p1), .int (p2)].toArray s 0 0 (va_A (wA κ σ) s.heap.size)) (F0 m 0 ls [])
  generalize va_A (wA κ σ) s.heap.size = A at B ⊢
  have hts : ∀ w ∈ zW, w.before [.ref (aA κ 0), .int (p1), .int (p2)].toArray s = true := fun w h => hts w (List.mem_cons_of_mem _ h)
  refine lv_aload_n hx hb d_Ut_owner_0 rfl (lv_at hl 0 rfl) ?_
  refine va_get (D := κ.1) (ci := 5) (v := .ref (aA κ 14)) (C := "UnitThreads") (T := T_Ut) (N := 7) hx hb hts in_Ut hown B.1 B.2.1 0 (wa_0 κ σ) rfl 4 (by decide) (hts _ w_171) (fun _ h9 => h9) rfl d_Ut_owner_1 ?_
  refine lv_iload_n hx hb d_Ut_owner_4 rfl (lv_at hl 1 rfl) ?_
  refine lv_iload_n hx hb d_Ut_owner_5 rfl (lv_at hl 2 rfl) ?_
  refine zcV_i (As := [.int (p1), .int (p2)]) (rest := []) ⟨hx, hb, hml, hown, hts⟩ (c_Bo_ownerAt l κ σ p1 p2 b hbs hb64) (cwV 2 hts (zgoodV w_362 w_363 w_364 w_7 w_365) rfl rfl rfl (by decide +kernel) ⟨Nat.le_of_ble_eq_true rfl, Nat.le_of_ble_eq_true rfl⟩) B (zrecv B (ci := 4) rfl (wa_14 κ σ)) rfl hl.1 rfl (Nat.le_of_ble_eq_true rfl) d_Ut_owner_6 ⟨Nat.zero_le _, Nat.zero_le _⟩ (fun r σ' H locs hp B => ?_)
  obtain ⟨rfl, hp⟩ := hp
  rw [hp] at B
  have B : BA κ A s.heap s σ H locs := B
  exact zret_i hx hb hr hlocks B (⟨rfl, rfl⟩) d_Ut_owner_9
set_option maxHeartbeats 4000000 in
set_option maxRecDepth 100000 in
theorem c_Ut_state (l : Launch) (κ : KA) (σ : zS) (p1 : Int32) (hn : nA κ ≤ 8) : zMi l y_Ut_state (zws y_Ut_state prog_1_method_10_code 2 (some .int)) ({ frames := 2, cells := 0, slots := 0, locals := 41 }) κ.1 vwCl (tysA κ) nwA (wA κ) σ [.ref (aA κ 0), .int (p1)] (fun r σ' => r = fx_state (nA κ) σ p1 ∧ σ' = σ) := by
  refine zintro (cc := prog_1_method_10_code) (maxL := 2) (ret := (some .int)) (by decide) rfl (Nat.le_of_ble_eq_true rfl) ?_
  intro p e s m below meth c ls hx hb hr hml hts hown hlocks hl B
  have hl : lv_has ls 2 [(0, .ref (aA κ 0)), (1, .int (p1))] := hl
  have B : BA κ (va_A (wA κ σ) s.heap.size) s.heap s σ s.heap [] := B
  have hr : meth.sig.returnType = (some .int) := hr
  have hown : s.vm.findClass "UnitThreads" = some m.cls := hown
  show W p l e (headSpec (zws y_Ut_state prog_1_method_10_code 2 (some .int)) ({ frames := 2, cells := 0, slots := 0, locals := 41 })).room s m [.ref (aA κ 0), .int (p1)].toArray below meth c s.heap [] 0 0 (MQ below (va_Qi (fun r σ' => r = fx_state (nA κ) σ p1 ∧ σ' = σ) (zQ κ.1 vwCl (tysA κ) (wA κ) (va_A (wA κ σ) s.heap.size)) (va_A (wA κ σ) s.heap.size)) [.ref (aA κ 0), .int (p1)].toArray s 0 0 (va_A (wA κ σ) s.heap.size)) (F0 m 0 ls [])
  generalize va_A (wA κ σ) s.heap.size = A at B ⊢
  have hts : ∀ w ∈ zW, w.before [.ref (aA κ 0), .int (p1)].toArray s = true := fun w h => hts w (List.mem_cons_of_mem _ h)
  refine lv_aload_n hx hb d_Ut_state_0 rfl (lv_at hl 0 rfl) ?_
  refine lv_iload_n hx hb d_Ut_state_1 rfl (lv_at hl 1 rfl) ?_
  refine zcV_i (As := [.int (p1)]) (rest := []) ⟨hx, hb, hml, hown, hts⟩ (c_Ut_isUnit l κ σ p1 ) (cwV 1 hts (zgoodV w_197 w_199 s_1 w_1 w_200) rfl rfl rfl (by decide +kernel) ⟨Nat.le_of_ble_eq_true rfl, Nat.le_of_ble_eq_true rfl⟩) B (zrecv B (ci := 5) rfl (wa_0 κ σ)) rfl hl.1 rfl (Nat.le_of_ble_eq_true rfl) d_Ut_state_2 ⟨Nat.zero_le _, Nat.zero_le _⟩ (fun r σ' H locs hp B => ?_)
  obtain ⟨rfl, hp⟩ := hp
  rw [hp] at B
  have B : BA κ A s.heap s σ H locs := B
  refine lv_if_eq (tgt := 16) hx hb d_Ut_state_5 (by decide) (fun c_1 => ?_) (fun c_1 => ?_)
  · have c_1 := zb_eq0.mp c_1
    refine lv_iconst (v := (-1)) hx hb d_Ut_state_16 (by decide) ?_
    exact zret_i hx hb hr hlocks B (⟨by simp [zb, fx_state, c_1], rfl⟩) d_Ut_state_17
  · have c_1 := zb_ne0.mp c_1
    refine lv_aload_n hx hb d_Ut_state_8 rfl (lv_at hl 0 rfl) ?_
    refine lv_iload_n hx hb d_Ut_state_9 rfl (lv_at hl 1 rfl) ?_
    refine zrwi (y := nI (tn p1)) ((fx_isUnit_in c_1 hn).1) ?_
    refine zcV_i (As := [.int (nI (tn p1))]) (rest := []) ⟨hx, hb, hml, hown, hts⟩ (c_Ut_modeOf l κ σ (tn p1) ((fx_isUnit_in c_1 hn).2) hn) (cwV 1 hts (zgoodV w_250 w_252 s_4 w_1 w_253) rfl rfl rfl (by decide +kernel) ⟨Nat.le_of_ble_eq_true rfl, Nat.le_of_ble_eq_true rfl⟩) B (zrecv B (ci := 5) rfl (wa_0 κ σ)) rfl hl.1 rfl (Nat.le_of_ble_eq_true rfl) d_Ut_state_10 ⟨Nat.zero_le _, Nat.zero_le _⟩ (fun r σ' H locs hp B => ?_)
    obtain ⟨rfl, hp⟩ := hp
    rw [hp] at B
    have B : BA κ A s.heap s σ H locs := B
    refine lv_goto (tgt := 17) hx hb d_Ut_state_13 (by decide) ?_
    exact zret_i hx hb hr hlocks B (⟨by simp [zb, fx_state, c_1], rfl⟩) d_Ut_state_17
set_option maxHeartbeats 4000000 in
set_option maxRecDepth 100000 in
theorem c_Ut_restart (l : Launch) (κ : KA) (σ : zS) (p1 : Int32) (hn : nA κ ≤ 8) : zMi l y_Ut_restart (zws y_Ut_restart prog_1_method_11_code 2 (some .boolean)) ({ frames := 2, cells := 0, slots := 0, locals := 41 }) κ.1 vwCl (tysA κ) nwA (wA κ) σ [.ref (aA κ 0), .int (p1)] (fun r σ' => r = zb (fx_restB (nA κ) σ p1) ∧ σ' = fx_restS (nA κ) σ p1) := by
  refine zintro (cc := prog_1_method_11_code) (maxL := 2) (ret := (some .boolean)) (by decide) rfl (Nat.le_of_ble_eq_true rfl) ?_
  intro p e s m below meth c ls hx hb hr hml hts hown hlocks hl B
  have hl : lv_has ls 2 [(0, .ref (aA κ 0)), (1, .int (p1))] := hl
  have B : BA κ (va_A (wA κ σ) s.heap.size) s.heap s σ s.heap [] := B
  have hr : meth.sig.returnType = (some .boolean) := hr
  have hown : s.vm.findClass "UnitThreads" = some m.cls := hown
  show W p l e (headSpec (zws y_Ut_restart prog_1_method_11_code 2 (some .boolean)) ({ frames := 2, cells := 0, slots := 0, locals := 41 })).room s m [.ref (aA κ 0), .int (p1)].toArray below meth c s.heap [] 0 0 (MQ below (va_Qi (fun r σ' => r = zb (fx_restB (nA κ) σ p1) ∧ σ' = fx_restS (nA κ) σ p1) (zQ κ.1 vwCl (tysA κ) (wA κ) (va_A (wA κ σ) s.heap.size)) (va_A (wA κ σ) s.heap.size)) [.ref (aA κ 0), .int (p1)].toArray s 0 0 (va_A (wA κ σ) s.heap.size)) (F0 m 0 ls [])
  generalize va_A (wA κ σ) s.heap.size = A at B ⊢
  have hts : ∀ w ∈ zW, w.before [.ref (aA κ 0), .int (p1)].toArray s = true := fun w h => hts w (List.mem_cons_of_mem _ h)
  refine lv_aload_n hx hb d_Ut_restart_0 rfl (lv_at hl 0 rfl) ?_
  refine lv_iload_n hx hb d_Ut_restart_1 rfl (lv_at hl 1 rfl) ?_
  refine zcV_i (As := [.int (p1)]) (rest := []) ⟨hx, hb, hml, hown, hts⟩ (c_Ut_isUnit l κ σ p1 ) (cwV 1 hts (zgoodV w_197 w_199 s_1 w_1 w_200) rfl rfl rfl (by decide +kernel) ⟨Nat.le_of_ble_eq_true rfl, Nat.le_of_ble_eq_true rfl⟩) B (zrecv B (ci := 5) rfl (wa_0 κ σ)) rfl hl.1 rfl (Nat.le_of_ble_eq_true rfl) d_Ut_restart_2 ⟨Nat.zero_le _, Nat.zero_le _⟩ (fun r σ' H locs hp B => ?_)
  obtain ⟨rfl, hp⟩ := hp
  rw [hp] at B
  have B : BA κ A s.heap s σ H locs := B
  refine lv_if_eq (tgt := 17) hx hb d_Ut_restart_5 (by decide) (fun c_1 => ?_) (fun c_1 => ?_)
  · have c_1 := zb_eq0.mp c_1
    refine lv_iconst (v := 0) hx hb d_Ut_restart_17 (by decide) ?_
    exact zret_z hx hb hr rfl hlocks B (⟨by simp [zb, fx_restS, fx_restB, c_1], by simp [zb, fx_restS, fx_restB, c_1]⟩) d_Ut_restart_18
  · have c_1 := zb_ne0.mp c_1
    refine lv_aload_n hx hb d_Ut_restart_8 rfl (lv_at hl 0 rfl) ?_
    refine lv_iload_n hx hb d_Ut_restart_9 rfl (lv_at hl 1 rfl) ?_
    refine zrwi (y := nI (tn p1)) ((fx_isUnit_in c_1 hn).1) ?_
    refine zcV_i (As := [.int (nI (tn p1))]) (rest := []) ⟨hx, hb, hml, hown, hts⟩ (c_Ut_modeOf l κ σ (tn p1) ((fx_isUnit_in c_1 hn).2) hn) (cwV 1 hts (zgoodV w_250 w_252 s_4 w_1 w_253) rfl rfl rfl (by decide +kernel) ⟨Nat.le_of_ble_eq_true rfl, Nat.le_of_ble_eq_true rfl⟩) B (zrecv B (ci := 5) rfl (wa_0 κ σ)) rfl hl.1 rfl (Nat.le_of_ble_eq_true rfl) d_Ut_restart_10 ⟨Nat.zero_le _, Nat.zero_le _⟩ (fun r σ' H locs hp B => ?_)
    obtain ⟨rfl, hp⟩ := hp
    rw [hp] at B
    have B : BA κ A s.heap s σ H locs := B
    refine lv_iconst (v := 2) hx hb d_Ut_restart_13 (by decide) ?_
    refine lv_icmp_eq (tgt := 19) hx hb d_Ut_restart_14 (by decide) (fun c_2 => ?_) (fun c_2 => ?_)
    · refine lv_aload_n hx hb d_Ut_restart_19 rfl (lv_at hl 0 rfl) ?_
      refine va_get (D := κ.1) (ci := 5) (v := .ref (aA κ 1)) (C := "UnitThreads") (T := T_Ut) (N := 7) hx hb hts in_Ut hown B.1 B.2.1 0 (wa_0 κ σ) rfl 0 (by decide) (hts _ w_167) (fun _ h9 => h9) rfl d_Ut_restart_20 ?_
      refine lv_iload_n hx hb d_Ut_restart_23 rfl (lv_at hl 1 rfl) ?_
      have hu_3 : tn p1 < nA κ := (fx_isUnit_in c_1 hn).2
      refine zaald hx hb B 1 2 (wa_1 κ σ) rfl (tn p1) ((fx_isUnit_in c_1 hn).1) hu_3 (by omega) rfl d_Ut_restart_24 ?_
      refine lv_iconst (v := 0) hx hb d_Ut_restart_25 (by decide) ?_
      refine zput (ci := 0) (v := .int (0)) (ty := .int) (C := "UnitThreads$Unit") (T := T_Un) (N := 8) hx hb hts in_Un ty_Un tyok_Un nm_Un hown B (43 + (tn p1)) (wa_u κ σ hu_3) rfl 2 (by decide) (hts _ w_38) (fun _ h9 => h9) rfl (by decide +kernel) rfl rfl (Nat.le_of_ble_eq_true rfl) (wq_2 κ σ hu_3 0) d_Ut_restart_26 (fun H locs B => ?_)
      have B : BA κ A s.heap s (zi σ 2 (tn p1) 0) H locs := B
      refine lv_iconst (v := 1) hx hb d_Ut_restart_29 (by decide) ?_
      exact zret_z hx hb hr rfl hlocks B (⟨by simp [zb, fx_restS, fx_restB, c_1, c_2], by simp [zb, fx_restS, fx_restB, c_1, c_2]⟩) d_Ut_restart_30
    · refine lv_iconst (v := 0) hx hb d_Ut_restart_17 (by decide) ?_
      exact zret_z hx hb hr rfl hlocks B (⟨by simp [zb, fx_restS, fx_restB, c_1, c_2], by simp [zb, fx_restS, fx_restB, c_1, c_2]⟩) d_Ut_restart_18
set_option maxHeartbeats 4000000 in
set_option maxRecDepth 100000 in
theorem c_Ut_held (l : Launch) (κ : KA) (σ : zS) (p1 : Int32) (hn : nA κ ≤ 8) : zMi l y_Ut_held (zws y_Ut_held prog_1_method_12_code 2 (some .int)) ({ frames := 2, cells := 0, slots := 0, locals := 41 }) κ.1 vwCl (tysA κ) nwA (wA κ) σ [.ref (aA κ 0), .int (p1)] (fun r σ' => r = fx_held (nA κ) σ p1 ∧ σ' = σ) := by
  refine zintro (cc := prog_1_method_12_code) (maxL := 2) (ret := (some .int)) (by decide) rfl (Nat.le_of_ble_eq_true rfl) ?_
  intro p e s m below meth c ls hx hb hr hml hts hown hlocks hl B
  have hl : lv_has ls 2 [(0, .ref (aA κ 0)), (1, .int (p1))] := hl
  have B : BA κ (va_A (wA κ σ) s.heap.size) s.heap s σ s.heap [] := B
  have hr : meth.sig.returnType = (some .int) := hr
  have hown : s.vm.findClass "UnitThreads" = some m.cls := hown
  show W p l e (headSpec (zws y_Ut_held prog_1_method_12_code 2 (some .int)) ({ frames := 2, cells := 0, slots := 0, locals := 41 })).room s m [.ref (aA κ 0), .int (p1)].toArray below meth c s.heap [] 0 0 (MQ below (va_Qi (fun r σ' => r = fx_held (nA κ) σ p1 ∧ σ' = σ) (zQ κ.1 vwCl (tysA κ) (wA κ) (va_A (wA κ σ) s.heap.size)) (va_A (wA κ σ) s.heap.size)) [.ref (aA κ 0), .int (p1)].toArray s 0 0 (va_A (wA κ σ) s.heap.size)) (F0 m 0 ls [])
  generalize va_A (wA κ σ) s.heap.size = A at B ⊢
  have hts : ∀ w ∈ zW, w.before [.ref (aA κ 0), .int (p1)].toArray s = true := fun w h => hts w (List.mem_cons_of_mem _ h)
  refine lv_aload_n hx hb d_Ut_held_0 rfl (lv_at hl 0 rfl) ?_
  refine lv_iload_n hx hb d_Ut_held_1 rfl (lv_at hl 1 rfl) ?_
  refine zcV_i (As := [.int (p1)]) (rest := []) ⟨hx, hb, hml, hown, hts⟩ (c_Ut_isUnit l κ σ p1 ) (cwV 1 hts (zgoodV w_197 w_199 s_1 w_1 w_200) rfl rfl rfl (by decide +kernel) ⟨Nat.le_of_ble_eq_true rfl, Nat.le_of_ble_eq_true rfl⟩) B (zrecv B (ci := 5) rfl (wa_0 κ σ)) rfl hl.1 rfl (Nat.le_of_ble_eq_true rfl) d_Ut_held_2 ⟨Nat.zero_le _, Nat.zero_le _⟩ (fun r σ' H locs hp B => ?_)
  obtain ⟨rfl, hp⟩ := hp
  rw [hp] at B
  have B : BA κ A s.heap s σ H locs := B
  refine lv_if_eq (tgt := 29) hx hb d_Ut_held_5 (by decide) (fun c_1 => ?_) (fun c_1 => ?_)
  · have c_1 := zb_eq0.mp c_1
    refine lv_iconst (v := (-1)) hx hb d_Ut_held_29 (by decide) ?_
    exact zret_i hx hb hr hlocks B (⟨by simp [zb, fx_held, c_1], rfl⟩) d_Ut_held_30
  · have c_1 := zb_ne0.mp c_1
    refine lv_aload_n hx hb d_Ut_held_8 rfl (lv_at hl 0 rfl) ?_
    refine lv_iload_n hx hb d_Ut_held_9 rfl (lv_at hl 1 rfl) ?_
    refine zrwi (y := nI (tn p1)) ((fx_isUnit_in c_1 hn).1) ?_
    refine zcV_i (As := [.int (nI (tn p1))]) (rest := []) ⟨hx, hb, hml, hown, hts⟩ (c_Ut_modeOf l κ σ (tn p1) ((fx_isUnit_in c_1 hn).2) hn) (cwV 1 hts (zgoodV w_250 w_252 s_4 w_1 w_253) rfl rfl rfl (by decide +kernel) ⟨Nat.le_of_ble_eq_true rfl, Nat.le_of_ble_eq_true rfl⟩) B (zrecv B (ci := 5) rfl (wa_0 κ σ)) rfl hl.1 rfl (Nat.le_of_ble_eq_true rfl) d_Ut_held_10 ⟨Nat.zero_le _, Nat.zero_le _⟩ (fun r σ' H locs hp B => ?_)
    obtain ⟨rfl, hp⟩ := hp
    rw [hp] at B
    have B : BA κ A s.heap s σ H locs := B
    refine lv_iconst (v := 2) hx hb d_Ut_held_13 (by decide) ?_
    refine lv_icmp_ne (tgt := 29) hx hb d_Ut_held_14 (by decide) (fun c_2 => ?_) (fun c_2 => ?_)
    · refine lv_iconst (v := (-1)) hx hb d_Ut_held_29 (by decide) ?_
      exact zret_i hx hb hr hlocks B (⟨by simp [zb, fx_held, c_1, c_2], rfl⟩) d_Ut_held_30
    · refine lv_aload_n hx hb d_Ut_held_17 rfl (lv_at hl 0 rfl) ?_
      refine va_get (D := κ.1) (ci := 5) (v := .ref (aA κ 1)) (C := "UnitThreads") (T := T_Ut) (N := 7) hx hb hts in_Ut hown B.1 B.2.1 0 (wa_0 κ σ) rfl 0 (by decide) (hts _ w_167) (fun _ h9 => h9) rfl d_Ut_held_18 ?_
      refine lv_iload_n hx hb d_Ut_held_21 rfl (lv_at hl 1 rfl) ?_
      have hu_3 : tn p1 < nA κ := (fx_isUnit_in c_1 hn).2
      refine zaald hx hb B 1 2 (wa_1 κ σ) rfl (tn p1) ((fx_isUnit_in c_1 hn).1) hu_3 (by omega) rfl d_Ut_held_22 ?_
      refine va_get (D := κ.1) (ci := 0) (v := .int (σ.1 3 (tn p1))) (C := "UnitThreads$Unit") (T := T_Un) (N := 8) hx hb hts in_Un hown B.1 B.2.1 (43 + (tn p1)) (wa_u κ σ hu_3) rfl 3 (by decide) (hts _ w_40) (fun _ h9 => h9) rfl d_Ut_held_23 ?_
      refine lv_goto (tgt := 30) hx hb d_Ut_held_26 (by decide) ?_
      exact zret_i hx hb hr hlocks B (⟨by simp [zb, fx_held, c_1, c_2], rfl⟩) d_Ut_held_30
set_option maxHeartbeats 4000000 in
set_option maxRecDepth 100000 in
theorem c_Ut_log (l : Launch) (κ : KA) (σ : zS) (p1 p2 : Int32) (hn : nA κ ≤ 8) (t : Nat) (ht : σ.1 18 0 = nI t) (htm : t ≤ nA κ * 64) : zMi l y_Ut_log (zws y_Ut_log prog_1_method_13_code 3 (some .int)) ({ frames := 1, cells := 0, slots := 0, locals := 22 }) κ.1 vwCl (tysA κ) nwA (wA κ) σ [.ref (aA κ 0), .int (p1), .int (p2)] (fun r σ' => r = fx_look σ p1 p2 ∧ σ' = σ) := by
  refine zintro (cc := prog_1_method_13_code) (maxL := 3) (ret := (some .int)) (by decide) rfl (Nat.le_of_ble_eq_true rfl) ?_
  intro p e s m below meth c ls hx hb hr hml hts hown hlocks hl B
  have hl : lv_has ls 3 [(0, .ref (aA κ 0)), (1, .int (p1)), (2, .int (p2))] := hl
  have B : BA κ (va_A (wA κ σ) s.heap.size) s.heap s σ s.heap [] := B
  have hr : meth.sig.returnType = (some .int) := hr
  have hown : s.vm.findClass "UnitThreads" = some m.cls := hown
  show W p l e (headSpec (zws y_Ut_log prog_1_method_13_code 3 (some .int)) ({ frames := 1, cells := 0, slots := 0, locals := 22 })).room s m [.ref (aA κ 0), .int (p1), .int (p2)].toArray below meth c s.heap [] 0 0 (MQ below (va_Qi (fun r σ' => r = fx_look σ p1 p2 ∧ σ' = σ) (zQ κ.1 vwCl (tysA κ) (wA κ) (va_A (wA κ σ) s.heap.size)) (va_A (wA κ σ) s.heap.size)) [.ref (aA κ 0), .int (p1), .int (p2)].toArray s 0 0 (va_A (wA κ σ) s.heap.size)) (F0 m 0 ls [])
  generalize va_A (wA κ σ) s.heap.size = A at B ⊢
  have hts : ∀ w ∈ zW, w.before [.ref (aA κ 0), .int (p1), .int (p2)].toArray s = true := fun w h => hts w (List.mem_cons_of_mem _ h)
  refine lv_aload_n hx hb d_Ut_log_0 rfl (lv_at hl 0 rfl) ?_
  refine va_get (D := κ.1) (ci := 5) (v := .ref (aA κ 10)) (C := "UnitThreads") (T := T_Ut) (N := 7) hx hb hts in_Ut hown B.1 B.2.1 0 (wa_0 κ σ) rfl 3 (by decide) (hts _ w_170) (fun _ h9 => h9) rfl d_Ut_log_1 ?_
  refine lv_iload_n hx hb d_Ut_log_4 rfl (lv_at hl 1 rfl) ?_
  refine lv_iload_n hx hb d_Ut_log_5 rfl (lv_at hl 2 rfl) ?_
  refine zcV_i (As := [.int (p1), .int (p2)]) (rest := []) ⟨hx, hb, hml, hown, hts⟩ (c_Tu_look l κ σ p1 p2 hn t ht htm) (cwV 2 hts (zgoodV w_383 w_384 w_385 w_6 w_386) rfl rfl rfl (by decide +kernel) ⟨Nat.le_of_ble_eq_true rfl, Nat.le_of_ble_eq_true rfl⟩) B (zrecv B (ci := 3) rfl (wa_10 κ σ)) rfl hl.1 rfl (Nat.le_of_ble_eq_true rfl) d_Ut_log_6 ⟨Nat.zero_le _, Nat.zero_le _⟩ (fun r σ' H locs hp B => ?_)
  obtain ⟨rfl, hp⟩ := hp
  rw [hp] at B
  have B : BA κ A s.heap s σ H locs := B
  exact zret_i hx hb hr hlocks B (⟨rfl, rfl⟩) d_Ut_log_9
set_option maxHeartbeats 4000000 in
set_option maxRecDepth 100000 in
theorem c_Ut_count (l : Launch) (κ : KA) (σ : zS) (p1 : Int32) (hn : nA κ ≤ 8) : zMi l y_Ut_count (zws y_Ut_count prog_1_method_14_code 2 (some .int)) ({ frames := 3, cells := 0, slots := 0, locals := 64 }) κ.1 vwCl (tysA κ) nwA (wA κ) σ [.ref (aA κ 0), .int (p1)] (fun r σ' => r = fx_count (nA κ) σ p1 ∧ σ' = σ) := by
  refine zintro (cc := prog_1_method_14_code) (maxL := 2) (ret := (some .int)) (by decide) rfl (Nat.le_of_ble_eq_true rfl) ?_
  intro p e s m below meth c ls hx hb hr hml hts hown hlocks hl B
  have hl : lv_has ls 2 [(0, .ref (aA κ 0)), (1, .int (p1))] := hl
  have B : BA κ (va_A (wA κ σ) s.heap.size) s.heap s σ s.heap [] := B
  have hr : meth.sig.returnType = (some .int) := hr
  have hown : s.vm.findClass "UnitThreads" = some m.cls := hown
  show W p l e (headSpec (zws y_Ut_count prog_1_method_14_code 2 (some .int)) ({ frames := 3, cells := 0, slots := 0, locals := 64 })).room s m [.ref (aA κ 0), .int (p1)].toArray below meth c s.heap [] 0 0 (MQ below (va_Qi (fun r σ' => r = fx_count (nA κ) σ p1 ∧ σ' = σ) (zQ κ.1 vwCl (tysA κ) (wA κ) (va_A (wA κ σ) s.heap.size)) (va_A (wA κ σ) s.heap.size)) [.ref (aA κ 0), .int (p1)].toArray s 0 0 (va_A (wA κ σ) s.heap.size)) (F0 m 0 ls [])
  generalize va_A (wA κ σ) s.heap.size = A at B ⊢
  have hts : ∀ w ∈ zW, w.before [.ref (aA κ 0), .int (p1)].toArray s = true := fun w h => hts w (List.mem_cons_of_mem _ h)
  refine lv_iload_n hx hb d_Ut_count_0 rfl (lv_at hl 1 rfl) ?_
  by_cases c_1 : p1 = 0
  · refine lv_tableIn (off := 31) (tgt := 32) hx hb d_Ut_count_1 (by rw [c_1]; decide) (by rw [c_1]; decide) (by rw [c_1]; decide) (by decide) ?_
    refine lv_aload_n hx hb d_Ut_count_32 rfl (lv_at hl 0 rfl) ?_
    refine va_get (D := κ.1) (ci := 5) (v := .ref (aA κ 14)) (C := "UnitThreads") (T := T_Ut) (N := 7) hx hb hts in_Ut hown B.1 B.2.1 0 (wa_0 κ σ) rfl 4 (by decide) (hts _ w_171) (fun _ h9 => h9) rfl d_Ut_count_33 ?_
    refine va_get (D := κ.1) (ci := 4) (v := .int (σ.1 21 0)) (C := "UnitThreads$Board") (T := T_Bo) (N := 6) hx hb hts in_Bo hown B.1 B.2.1 14 (wa_14 κ σ) rfl 5 (by decide) (hts _ w_153) (fun _ h9 => h9) rfl d_Ut_count_36 ?_
    exact zret_i hx hb hr hlocks B (⟨by simp [zb, fx_count, c_1], rfl⟩) d_Ut_count_39
  by_cases c_2 : p1 = 1
  · refine lv_tableIn (off := 39) (tgt := 40) hx hb d_Ut_count_1 (by rw [c_2]; decide) (by rw [c_2]; decide) (by rw [c_2]; decide) (by decide) ?_
    refine lv_aload_n hx hb d_Ut_count_40 rfl (lv_at hl 0 rfl) ?_
    refine va_get (D := κ.1) (ci := 5) (v := .ref (aA κ 10)) (C := "UnitThreads") (T := T_Ut) (N := 7) hx hb hts in_Ut hown B.1 B.2.1 0 (wa_0 κ σ) rfl 3 (by decide) (hts _ w_170) (fun _ h9 => h9) rfl d_Ut_count_41 ?_
    refine va_get (D := κ.1) (ci := 3) (v := .int (σ.1 18 0)) (C := "UnitThreads$Turns") (T := T_Tu) (N := 4) hx hb hts in_Tu hown B.1 B.2.1 10 (wa_10 κ σ) rfl 3 (by decide) (hts _ w_125) (fun _ h9 => h9) rfl d_Ut_count_44 ?_
    exact zret_i hx hb hr hlocks B (⟨by simp [zb, fx_count, c_1, c_2], rfl⟩) d_Ut_count_47
  by_cases c_3 : p1 = 2
  · refine lv_tableIn (off := 47) (tgt := 48) hx hb d_Ut_count_1 (by rw [c_3]; decide) (by rw [c_3]; decide) (by rw [c_3]; decide) (by decide) ?_
    refine lv_aload_n hx hb d_Ut_count_48 rfl (lv_at hl 0 rfl) ?_
    refine va_get (D := κ.1) (ci := 5) (v := .ref (aA κ 2)) (C := "UnitThreads") (T := T_Ut) (N := 7) hx hb hts in_Ut hown B.1 B.2.1 0 (wa_0 κ σ) rfl 1 (by decide) (hts _ w_168) (fun _ h9 => h9) rfl d_Ut_count_49 ?_
    refine va_get (D := κ.1) (ci := 1) (v := .int (σ.1 12 0)) (C := "UnitThreads$Entries") (T := T_En) (N := 6) hx hb hts in_En hown B.1 B.2.1 2 (wa_2 κ σ) rfl 5 (by decide) (hts _ w_80) (fun _ h9 => h9) rfl d_Ut_count_52 ?_
    exact zret_i hx hb hr hlocks B (⟨by simp [zb, fx_count, c_1, c_2, c_3], rfl⟩) d_Ut_count_55
  by_cases c_4 : p1 = 3
  · refine lv_tableIn (off := 55) (tgt := 56) hx hb d_Ut_count_1 (by rw [c_4]; decide) (by rw [c_4]; decide) (by rw [c_4]; decide) (by decide) ?_
    refine lv_aload_n hx hb d_Ut_count_56 rfl (lv_at hl 0 rfl) ?_
    refine zcV_i (As := []) (rest := []) ⟨hx, hb, hml, hown, hts⟩ (c_Ut_acting l κ σ hn) (cwV 0 hts (zgoodV w_246 w_248 s_3 w_1 w_249) rfl rfl rfl (by decide +kernel) ⟨Nat.le_of_ble_eq_true rfl, Nat.le_of_ble_eq_true rfl⟩) B (zrecv B (ci := 5) rfl (wa_0 κ σ)) rfl hl.1 rfl (Nat.le_of_ble_eq_true rfl) d_Ut_count_57 ⟨Nat.zero_le _, Nat.zero_le _⟩ (fun r σ' H locs hp B => ?_)
    obtain ⟨rfl, hp⟩ := hp
    rw [hp] at B
    have B : BA κ A s.heap s σ H locs := B
    exact zret_i hx hb hr hlocks B (⟨by simp [zb, fx_count, c_1, c_2, c_3, c_4], rfl⟩) d_Ut_count_60
  refine lv_tableOut (tgt := 61) hx hb d_Ut_count_1 (ztab3 c_1 c_2 c_3 c_4) (by decide) ?_
  refine lv_aload_n hx hb d_Ut_count_61 rfl (lv_at hl 0 rfl) ?_
  refine lv_iload_n hx hb d_Ut_count_62 rfl (lv_at hl 1 rfl) ?_
  refine lv_iconst (v := 4) hx hb d_Ut_count_63 (by decide) ?_
  refine lv_isub hx hb d_Ut_count_64 ?_
  refine zcV_i (As := [.int (p1 - 4)]) (rest := []) ⟨hx, hb, hml, hown, hts⟩ (c_Ut_isUnit l κ σ (p1 - 4) ) (cwV 1 hts (zgoodV w_197 w_199 s_1 w_1 w_200) rfl rfl rfl (by decide +kernel) ⟨Nat.le_of_ble_eq_true rfl, Nat.le_of_ble_eq_true rfl⟩) B (zrecv B (ci := 5) rfl (wa_0 κ σ)) rfl hl.1 rfl (Nat.le_of_ble_eq_true rfl) d_Ut_count_65 ⟨Nat.zero_le _, Nat.zero_le _⟩ (fun r σ' H locs hp B => ?_)
  obtain ⟨rfl, hp⟩ := hp
  rw [hp] at B
  have B : BA κ A s.heap s σ H locs := B
  refine lv_if_eq (tgt := 85) hx hb d_Ut_count_68 (by decide) (fun c_5 => ?_) (fun c_5 => ?_)
  · have c_5 := zb_eq0.mp c_5
    refine lv_iconst (v := (-1)) hx hb d_Ut_count_85 (by decide) ?_
    exact zret_i hx hb hr hlocks B (⟨by simp [zb, fx_count, c_1, c_2, c_3, c_4, c_5], rfl⟩) d_Ut_count_86
  · have c_5 := zb_ne0.mp c_5
    refine lv_aload_n hx hb d_Ut_count_71 rfl (lv_at hl 0 rfl) ?_
    refine va_get (D := κ.1) (ci := 5) (v := .ref (aA κ 1)) (C := "UnitThreads") (T := T_Ut) (N := 7) hx hb hts in_Ut hown B.1 B.2.1 0 (wa_0 κ σ) rfl 0 (by decide) (hts _ w_167) (fun _ h9 => h9) rfl d_Ut_count_72 ?_
    refine lv_iload_n hx hb d_Ut_count_75 rfl (lv_at hl 1 rfl) ?_
    refine lv_iconst (v := 4) hx hb d_Ut_count_76 (by decide) ?_
    refine lv_isub hx hb d_Ut_count_77 ?_
    have hu_6 : tn (p1 - 4) < nA κ := (fx_isUnit_in c_5 hn).2
    refine zaald hx hb B 1 2 (wa_1 κ σ) rfl (tn (p1 - 4)) ((fx_isUnit_in c_5 hn).1) hu_6 (by omega) rfl d_Ut_count_78 ?_
    refine va_get (D := κ.1) (ci := 0) (v := .int (σ.1 0 (tn (p1 - 4)))) (C := "UnitThreads$Unit") (T := T_Un) (N := 8) hx hb hts in_Un hown B.1 B.2.1 (43 + (tn (p1 - 4))) (wa_u κ σ hu_6) rfl 0 (by decide) (hts _ w_34) (fun _ h9 => h9) rfl d_Ut_count_79 ?_
    refine lv_goto (tgt := 86) hx hb d_Ut_count_82 (by decide) ?_
    exact zret_i hx hb hr hlocks B (⟨by simp [zb, fx_count, c_1, c_2, c_3, c_4, c_5], rfl⟩) d_Ut_count_86
set_option maxHeartbeats 4000000 in
set_option maxRecDepth 100000 in
theorem c_Ut_close (l : Launch) (κ : KA) (σ : zS) (hn : nA κ ≤ 8) : zMi l y_Ut_close (zws y_Ut_close prog_1_method_15_code 3 (some .int)) ({ frames := 2, cells := 0, slots := 0, locals := 68 }) κ.1 vwCl (tysA κ) nwA (wA κ) σ [.ref (aA κ 0)] (fun r σ' => r = fx_closeR (nA κ) σ ∧ σ' = fx_closeS (nA κ) σ) := by
  refine zintro (cc := prog_1_method_15_code) (maxL := 3) (ret := (some .int)) (by decide) rfl (Nat.le_of_ble_eq_true rfl) ?_
  intro p e s m below meth c ls hx hb hr hml hts hown hlocks hl B
  have hl : lv_has ls 3 [(0, .ref (aA κ 0))] := hl
  have B : BA κ (va_A (wA κ σ) s.heap.size) s.heap s σ s.heap [] := B
  have hr : meth.sig.returnType = (some .int) := hr
  have hown : s.vm.findClass "UnitThreads" = some m.cls := hown
  show W p l e (headSpec (zws y_Ut_close prog_1_method_15_code 3 (some .int)) ({ frames := 2, cells := 0, slots := 0, locals := 68 })).room s m [.ref (aA κ 0)].toArray below meth c s.heap [] 0 0 (MQ below (va_Qi (fun r σ' => r = fx_closeR (nA κ) σ ∧ σ' = fx_closeS (nA κ) σ) (zQ κ.1 vwCl (tysA κ) (wA κ) (va_A (wA κ σ) s.heap.size)) (va_A (wA κ σ) s.heap.size)) [.ref (aA κ 0)].toArray s 0 0 (va_A (wA κ σ) s.heap.size)) (F0 m 0 ls [])
  generalize va_A (wA κ σ) s.heap.size = A at B ⊢
  have hts : ∀ w ∈ zW, w.before [.ref (aA κ 0)].toArray s = true := fun w h => hts w (List.mem_cons_of_mem _ h)
  have L_13 : ∀ (j : Nat) (k : Nat) (r : Int32), (k + j = nA κ) → (σ.1 23 0 = 0) → (fx_closeN σ (nA κ) 0 0 = fx_closeN σ j k r) → ∀ (H : Heap) (locs : List Loc), BA κ A s.heap s σ H locs → ∀ (ls : Array Slot), lv_has ls 3 [(0, .ref (aA κ 0)), (1, .int (r)), (2, .int (nI k))] → W p l e (headSpec (zws y_Ut_close prog_1_method_15_code 3 (some .int)) ({ frames := 2, cells := 0, slots := 0, locals := 68 })).room s m [.ref (aA κ 0)].toArray below meth c H locs 0 0 (MQ below (va_Qi (fun r σ' => r = fx_closeR (nA κ) σ ∧ σ' = fx_closeS (nA κ) σ) (zQ κ.1 vwCl (tysA κ) (wA κ) A) A) [.ref (aA κ 0)].toArray s 0 0 A) (F0 m 13 ls []) := by
    intro j
    induction j with
    | zero =>
      intro k r hj h0 hst H locs B ls hl
      refine lv_iload_n hx hb d_Ut_close_13 rfl (lv_at hl 2 rfl) ?_
      refine lv_aload_n hx hb d_Ut_close_14 rfl (lv_at hl 0 rfl) ?_
      refine va_get (D := κ.1) (ci := 5) (v := .ref (aA κ 1)) (C := "UnitThreads") (T := T_Ut) (N := 7) hx hb hts in_Ut hown B.1 B.2.1 0 (wa_0 κ σ) rfl 0 (by decide) (hts _ w_167) (fun _ h9 => h9) rfl d_Ut_close_15 ?_
      refine zalen hx hb B 1 2 (wa_1 κ σ) rfl d_Ut_close_18 ?_
      refine lv_icmp_ge (tgt := 40) hx hb d_Ut_close_19 (by decide) (fun c_1 => ?_) (fun c_1 => ?_)
      · have c_1 := (nI_leI (a := nA κ) (b := k) (by omega) (by omega)).mp c_1
        refine lv_aload_n hx hb d_Ut_close_40 rfl (lv_at hl 0 rfl) ?_
        refine va_get (D := κ.1) (ci := 5) (v := .ref (aA κ 14)) (C := "UnitThreads") (T := T_Ut) (N := 7) hx hb hts in_Ut hown B.1 B.2.1 0 (wa_0 κ σ) rfl 4 (by decide) (hts _ w_171) (fun _ h9 => h9) rfl d_Ut_close_41 ?_
        refine zcV_v (As := []) (rest := []) ⟨hx, hb, hml, hown, hts⟩ (c_Bo_shut l κ σ  hn) (cwV 0 hts (zgoodV w_395 w_396 w_397 w_7 w_398) rfl rfl rfl (by decide +kernel) ⟨Nat.le_of_ble_eq_true rfl, Nat.le_of_ble_eq_true rfl⟩) B (zrecv B (ci := 4) rfl (wa_14 κ σ)) rfl hl.1 rfl (Nat.le_of_ble_eq_true rfl) d_Ut_close_44 ⟨Nat.zero_le _, Nat.zero_le _⟩ (fun σ' H locs hp B => ?_)
        rw [hp] at B
        have B : BA κ A s.heap s (fx_shut (nA κ) σ) H locs := B
        refine lv_aload_n hx hb d_Ut_close_47 rfl (lv_at hl 0 rfl) ?_
        refine lv_iconst (v := 1) hx hb d_Ut_close_48 (by decide) ?_
        refine zput (ci := 5) (v := .int (1)) (ty := .boolean) (C := "UnitThreads") (T := T_Ut) (N := 7) hx hb hts in_Ut ty_Ut tyok_Ut nm_Ut hown B 0 (wa_0 κ (fx_shut (nA κ) σ)) rfl 6 (by decide) (hts _ w_173) (fun _ h9 => h9) rfl (by decide +kernel) rfl rfl (Nat.le_of_ble_eq_true rfl) (wp_0_6 κ (fx_shut (nA κ) σ) 1) d_Ut_close_49 (fun H locs B => ?_)
        have B : BA κ A s.heap s (zi (fx_shut (nA κ) σ) 23 0 1) H locs := B
        refine lv_iload_n hx hb d_Ut_close_52 rfl (lv_at hl 1 rfl) ?_
        exact zret_i hx hb hr hlocks B (⟨by rw [fx_closeR, if_pos h0, hst]; rfl, by rw [fx_closeS, if_pos h0]⟩) d_Ut_close_53
      · have c_1 := (not_congr (nI_leI (a := nA κ) (b := k) (by omega) (by omega))).mp c_1
        exact absurd c_1 (by omega)
    | succ j ih =>
      intro k r hj h0 hst H locs B ls hl
      refine lv_iload_n hx hb d_Ut_close_13 rfl (lv_at hl 2 rfl) ?_
      refine lv_aload_n hx hb d_Ut_close_14 rfl (lv_at hl 0 rfl) ?_
      refine va_get (D := κ.1) (ci := 5) (v := .ref (aA κ 1)) (C := "UnitThreads") (T := T_Ut) (N := 7) hx hb hts in_Ut hown B.1 B.2.1 0 (wa_0 κ σ) rfl 0 (by decide) (hts _ w_167) (fun _ h9 => h9) rfl d_Ut_close_15 ?_
      refine zalen hx hb B 1 2 (wa_1 κ σ) rfl d_Ut_close_18 ?_
      refine lv_icmp_ge (tgt := 40) hx hb d_Ut_close_19 (by decide) (fun c_2 => ?_) (fun c_2 => ?_)
      · have c_2 := (nI_leI (a := nA κ) (b := k) (by omega) (by omega)).mp c_2
        exact absurd c_2 (by omega)
      · have c_2 := (not_congr (nI_leI (a := nA κ) (b := k) (by omega) (by omega))).mp c_2
        refine lv_aload_n hx hb d_Ut_close_22 rfl (lv_at hl 0 rfl) ?_
        refine lv_iload_n hx hb d_Ut_close_23 rfl (lv_at hl 2 rfl) ?_
        refine zcV_i (As := [.int (nI k)]) (rest := []) ⟨hx, hb, hml, hown, hts⟩ (c_Ut_modeOf l κ σ k (by omega) hn) (cwV 1 hts (zgoodV w_250 w_252 s_4 w_1 w_253) rfl rfl rfl (by decide +kernel) ⟨Nat.le_of_ble_eq_true rfl, Nat.le_of_ble_eq_true rfl⟩) B (zrecv B (ci := 5) rfl (wa_0 κ σ)) rfl hl.1 rfl (Nat.le_of_ble_eq_true rfl) d_Ut_close_24 ⟨Nat.zero_le _, Nat.zero_le _⟩ (fun r σ' H locs hp B => ?_)
        obtain ⟨rfl, hp⟩ := hp
        rw [hp] at B
        have B : BA κ A s.heap s σ H locs := B
        refine lv_iconst (v := 3) hx hb d_Ut_close_27 (by decide) ?_
        refine lv_icmp_eq (tgt := 34) hx hb d_Ut_close_28 (by decide) (fun c_3 => ?_) (fun c_3 => ?_)
        · refine lv_iinc (v := nI (k + 1)) (lv' := [(2, .int (nI (k + 1))), (0, .ref (aA κ 0)), (1, .int (r))]) hx hb d_Ut_close_34 hl (k := 2) rfl (zinc _) (by decide) rfl (fun ls hl => ?_)
          refine lv_goto (tgt := 13) hx hb d_Ut_close_37 (by decide) ?_
          exact ih (k + 1) r (by omega) h0 (by rw [hst]; simp [fx_closeN, c_2, c_3]) _ _ B ls (lv_sub hl [1, 2, 0] rfl)
        · refine lv_iinc (v := r + 1) (lv' := [(1, .int (r + 1)), (0, .ref (aA κ 0)), (2, .int (nI k))]) hx hb d_Ut_close_31 hl (k := 1) rfl (rfl) (by decide) rfl (fun ls hl => ?_)
          refine lv_iinc (v := nI (k + 1)) (lv' := [(2, .int (nI (k + 1))), (1, .int (r + 1)), (0, .ref (aA κ 0))]) hx hb d_Ut_close_34 hl (k := 2) rfl (zinc _) (by decide) rfl (fun ls hl => ?_)
          refine lv_goto (tgt := 13) hx hb d_Ut_close_37 (by decide) ?_
          exact ih (k + 1) (r + 1) (by omega) h0 (by rw [hst]; simp [fx_closeN, c_2, c_3]) _ _ B ls (lv_sub hl [2, 1, 0] rfl)
  refine lv_aload_n hx hb d_Ut_close_0 rfl (lv_at hl 0 rfl) ?_
  refine va_get (D := κ.1) (ci := 5) (v := .int (σ.1 23 0)) (C := "UnitThreads") (T := T_Ut) (N := 7) hx hb hts in_Ut hown B.1 B.2.1 0 (wa_0 κ σ) rfl 6 (by decide) (hts _ w_173) (fun _ h9 => h9) rfl d_Ut_close_1 ?_
  refine lv_if_eq (tgt := 9) hx hb d_Ut_close_4 (by decide) (fun c_4 => ?_) (fun c_4 => ?_)
  · refine lv_iconst (v := 0) hx hb d_Ut_close_9 (by decide) ?_
    refine lv_istore_n (lv' := [(1, .int (0)), (0, .ref (aA κ 0))]) hx hb d_Ut_close_10 rfl hl (by decide) rfl (fun ls hl => ?_)
    refine lv_iconst (v := nI 0) hx hb d_Ut_close_11 (by decide) ?_
    refine lv_istore_n (lv' := [(2, .int (nI 0)), (1, .int (0)), (0, .ref (aA κ 0))]) hx hb d_Ut_close_12 rfl hl (by decide) rfl (fun ls hl => ?_)
    exact L_13 (nA κ) 0 0 (by omega) c_4 rfl _ _ B ls (lv_sub hl [2, 1, 0] rfl)
  · refine lv_iconst (v := 0) hx hb d_Ut_close_7 (by decide) ?_
    exact zret_i hx hb hr hlocks B (⟨by simp [fx_closeR, c_4], by simp [fx_closeS, c_4]⟩) d_Ut_close_8
