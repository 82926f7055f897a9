set_option maxHeartbeats 4000000 in
set_option maxRecDepth 100000 in
theorem c_Bo_hasOutput (l : Launch) (κ : KA) (σ : zS) (p1 : Int32) : zMi l y_Bo_hasOutput (zws y_Bo_hasOutput prog_2_method_2_code 2 (some .boolean)) ({ frames := 0, cells := 0, slots := 0, locals := 0 }) κ.1 vwCl (tysA κ) nwA (wA κ) σ [.ref (aA κ 14), .int (p1)] (fun r σ' => r = zb (fx_hasOut (nA κ) p1) ∧ σ' = σ) := by
  refine zintro (cc := prog_2_method_2_code) (maxL := 2) (ret := (some .boolean)) (by decide) rfl (Nat.le_of_ble_eq_true rfl) ?_
  intro p e s m below meth c ls hx hb hr hml hts hown hlocks hl B
  have hl : lv_has ls 2 [(0, .ref (aA κ 14)), (1, .int (p1))] := hl
  have B : BA κ (va_A (wA κ σ) s.heap.size) s.heap s σ s.heap [] := B
  have hr : meth.sig.returnType = (some .boolean) := hr
  have hown : s.vm.findClass "UnitThreads$Board" = some m.cls := hown
  show W p l e (headSpec (zws y_Bo_hasOutput prog_2_method_2_code 2 (some .boolean)) ({ frames := 0, cells := 0, slots := 0, locals := 0 })).room s m [.ref (aA κ 14), .int (p1)].toArray below meth c s.heap [] 0 0 (MQ below (va_Qi (fun r σ' => r = zb (fx_hasOut (nA κ) p1) ∧ σ' = σ) (zQ κ.1 vwCl (tysA κ) (wA κ) (va_A (wA κ σ) s.heap.size)) (va_A (wA κ σ) s.heap.size)) [.ref (aA κ 14), .int (p1)].toArray s 0 0 (va_A (wA κ σ) s.heap.size)) (F0 m 0 ls [])
  generalize va_A (wA κ σ) s.heap.size = A at B ⊢
  have hts : ∀ w ∈ zW, w.before [.ref (aA κ 14), .int (p1)].toArray s = true := fun w h => hts w (List.mem_cons_of_mem _ h)
  refine lv_iload_n hx hb d_Bo_hasOutput_0 rfl (lv_at hl 1 rfl) ?_
  refine lv_if_lt (tgt := 17) hx hb d_Bo_hasOutput_1 (by decide) (fun c_1 => ?_) (fun c_1 => ?_)
  · refine lv_iconst (v := 0) hx hb d_Bo_hasOutput_17 (by decide) ?_
    exact zret_z hx hb hr rfl hlocks B (⟨by simp [zb, fx_hasOut, c_1], rfl⟩) d_Bo_hasOutput_18
  · refine lv_iload_n hx hb d_Bo_hasOutput_4 rfl (lv_at hl 1 rfl) ?_
    refine lv_aload_n hx hb d_Bo_hasOutput_5 rfl (lv_at hl 0 rfl) ?_
    refine va_get (D := κ.1) (ci := 4) (v := .ref (aA κ 15)) (C := "UnitThreads$Board") (T := T_Bo) (N := 6) hx hb hts in_Bo hown B.1 B.2.1 14 (wa_14 κ σ) rfl 0 (by decide) (hts _ w_144) (fun _ h9 => h9) rfl d_Bo_hasOutput_6 ?_
    refine zalen hx hb B 15 1 (wa_15 κ σ) rfl d_Bo_hasOutput_9 ?_
    refine lv_icmp_ge (tgt := 17) hx hb d_Bo_hasOutput_10 (by decide) (fun c_2 => ?_) (fun c_2 => ?_)
    · refine lv_iconst (v := 0) hx hb d_Bo_hasOutput_17 (by decide) ?_
      exact zret_z hx hb hr rfl hlocks B (⟨by simp [zb, fx_hasOut, c_1, c_2], rfl⟩) d_Bo_hasOutput_18
    · refine lv_iconst (v := 1) hx hb d_Bo_hasOutput_13 (by decide) ?_
      refine lv_goto (tgt := 18) hx hb d_Bo_hasOutput_14 (by decide) ?_
      exact zret_z hx hb hr rfl hlocks B (⟨by simp [zb, fx_hasOut, c_1, c_2], rfl⟩) d_Bo_hasOutput_18
set_option maxHeartbeats 4000000 in
set_option maxRecDepth 100000 in
theorem c_Bo_wasDone (l : Launch) (κ : KA) (σ : zS) (p1 : Int32) : zMi l y_Bo_wasDone (zws y_Bo_wasDone prog_2_method_3_code 2 (some .boolean)) ({ frames := 0, cells := 0, slots := 0, locals := 0 }) κ.1 vwCl (tysA κ) nwA (wA κ) σ [.ref (aA κ 14), .int (p1)] (fun r σ' => r = zb (fx_wasDone σ p1) ∧ σ' = σ) := by
  refine zintro (cc := prog_2_method_3_code) (maxL := 2) (ret := (some .boolean)) (by decide) rfl (Nat.le_of_ble_eq_true rfl) ?_
  intro p e s m below meth c ls hx hb hr hml hts hown hlocks hl B
  have hl : lv_has ls 2 [(0, .ref (aA κ 14)), (1, .int (p1))] := hl
  have B : BA κ (va_A (wA κ σ) s.heap.size) s.heap s σ s.heap [] := B
  have hr : meth.sig.returnType = (some .boolean) := hr
  have hown : s.vm.findClass "UnitThreads$Board" = some m.cls := hown
  show W p l e (headSpec (zws y_Bo_wasDone prog_2_method_3_code 2 (some .boolean)) ({ frames := 0, cells := 0, slots := 0, locals := 0 })).room s m [.ref (aA κ 14), .int (p1)].toArray below meth c s.heap [] 0 0 (MQ below (va_Qi (fun r σ' => r = zb (fx_wasDone σ p1) ∧ σ' = σ) (zQ κ.1 vwCl (tysA κ) (wA κ) (va_A (wA κ σ) s.heap.size)) (va_A (wA κ σ) s.heap.size)) [.ref (aA κ 14), .int (p1)].toArray s 0 0 (va_A (wA κ σ) s.heap.size)) (F0 m 0 ls [])
  generalize va_A (wA κ σ) s.heap.size = A at B ⊢
  have hts : ∀ w ∈ zW, w.before [.ref (aA κ 14), .int (p1)].toArray s = true := fun w h => hts w (List.mem_cons_of_mem _ h)
  refine lv_iload_n hx hb d_Bo_wasDone_0 rfl (lv_at hl 1 rfl) ?_
  refine lv_if_lt (tgt := 16) hx hb d_Bo_wasDone_1 (by decide) (fun c_1 => ?_) (fun c_1 => ?_)
  · refine lv_iconst (v := 0) hx hb d_Bo_wasDone_16 (by decide) ?_
    exact zret_z hx hb hr rfl hlocks B (⟨by simp [zb, fx_wasDone, c_1], rfl⟩) d_Bo_wasDone_17
  · refine lv_iload_n hx hb d_Bo_wasDone_4 rfl (lv_at hl 1 rfl) ?_
    refine lv_aload_n hx hb d_Bo_wasDone_5 rfl (lv_at hl 0 rfl) ?_
    refine va_get (D := κ.1) (ci := 4) (v := .int (σ.1 21 0)) (C := "UnitThreads$Board") (T := T_Bo) (N := 6) hx hb hts in_Bo hown B.1 B.2.1 14 (wa_14 κ σ) rfl 5 (by decide) (hts _ w_152) (fun _ h9 => h9) rfl d_Bo_wasDone_6 ?_
    refine lv_icmp_ge (tgt := 16) hx hb d_Bo_wasDone_9 (by decide) (fun c_2 => ?_) (fun c_2 => ?_)
    · refine lv_iconst (v := 0) hx hb d_Bo_wasDone_16 (by decide) ?_
      exact zret_z hx hb hr rfl hlocks B (⟨by simp [zb, fx_wasDone, c_1, c_2], rfl⟩) d_Bo_wasDone_17
    · refine lv_iconst (v := 1) hx hb d_Bo_wasDone_12 (by decide) ?_
      refine lv_goto (tgt := 17) hx hb d_Bo_wasDone_13 (by decide) ?_
      exact zret_z hx hb hr rfl hlocks B (⟨by simp [zb, fx_wasDone, c_1, c_2], rfl⟩) d_Bo_wasDone_17
set_option maxHeartbeats 4000000 in
set_option maxRecDepth 100000 in
theorem c_Bo_valueAt (l : Launch) (κ : KA) (σ : zS) (p1 p2 : Int32) (hn : nA κ ≤ 8) (b : Nat) (hbs : σ.1 21 0 = nI b) (hb64 : b ≤ 64) : zMl l y_Bo_valueAt (zws y_Bo_valueAt prog_2_method_4_code 3 (some .long)) ({ frames := 1, cells := 0, slots := 0, locals := 21 }) κ.1 vwCl (tysA κ) nwA (wA κ) σ [.ref (aA κ 14), .int (p1), .int (p2)] (fun r σ' => r = fx_valueAt (nA κ) σ p1 p2 ∧ σ' = σ) := by
  refine zintro (cc := prog_2_method_4_code) (maxL := 3) (ret := (some .long)) (by decide) rfl (Nat.le_of_ble_eq_true rfl) ?_
  intro p e s m below meth c ls hx hb hr hml hts hown hlocks hl B
  have hl : lv_has ls 3 [(0, .ref (aA κ 14)), (1, .int (p1)), (2, .int (p2))] := hl
  have B : BA κ (va_A (wA κ σ) s.heap.size) s.heap s σ s.heap [] := B
  have hr : meth.sig.returnType = (some .long) := hr
  have hown : s.vm.findClass "UnitThreads$Board" = some m.cls := hown
  show W p l e (headSpec (zws y_Bo_valueAt prog_2_method_4_code 3 (some .long)) ({ frames := 1, cells := 0, slots := 0, locals := 21 })).room s m [.ref (aA κ 14), .int (p1), .int (p2)].toArray below meth c s.heap [] 0 0 (MQ below (va_Ql (fun r σ' => r = fx_valueAt (nA κ) σ p1 p2 ∧ σ' = σ) (zQ κ.1 vwCl (tysA κ) (wA κ) (va_A (wA κ σ) s.heap.size)) (va_A (wA κ σ) s.heap.size)) [.ref (aA κ 14), .int (p1), .int (p2)].toArray s 0 0 (va_A (wA κ σ) s.heap.size)) (F0 m 0 ls [])
  generalize va_A (wA κ σ) s.heap.size = A at B ⊢
  have hts : ∀ w ∈ zW, w.before [.ref (aA κ 14), .int (p1), .int (p2)].toArray s = true := fun w h => hts w (List.mem_cons_of_mem _ h)
  refine lv_aload_n hx hb d_Bo_valueAt_0 rfl (lv_at hl 0 rfl) ?_
  refine lv_iload_n hx hb d_Bo_valueAt_1 rfl (lv_at hl 1 rfl) ?_
  refine zcV_i (As := [.int (p1)]) (rest := []) ⟨hx, hb, hml, hown, hts⟩ (c_Bo_hasOutput l κ σ p1 ) (cwV 1 hts (zgoodV w_353 w_232 w_233 w_7 w_234) rfl rfl rfl (by decide +kernel) ⟨Nat.le_of_ble_eq_true rfl, Nat.le_of_ble_eq_true rfl⟩) B (zrecv B (ci := 4) rfl (wa_14 κ σ)) rfl hl.1 rfl (Nat.le_of_ble_eq_true rfl) d_Bo_valueAt_2 ⟨Nat.zero_le _, Nat.zero_le _⟩ (fun r σ' H locs hp B => ?_)
  obtain ⟨rfl, hp⟩ := hp
  rw [hp] at B
  have B : BA κ A s.heap s σ H locs := B
  refine lv_if_ne (tgt := 10) hx hb d_Bo_valueAt_5 (by decide) (fun c_1 => ?_) (fun c_1 => ?_)
  · have c_1 := zb_ne0.mp c_1
    refine lv_iload_n hx hb d_Bo_valueAt_10 rfl (lv_at hl 2 rfl) ?_
    refine lv_iconst (v := (-1)) hx hb d_Bo_valueAt_11 (by decide) ?_
    refine lv_icmp_ne (tgt := 22) hx hb d_Bo_valueAt_12 (by decide) (fun c_2 => ?_) (fun c_2 => ?_)
    · refine lv_aload_n hx hb d_Bo_valueAt_22 rfl (lv_at hl 0 rfl) ?_
      refine lv_iload_n hx hb d_Bo_valueAt_23 rfl (lv_at hl 2 rfl) ?_
      refine zcV_i (As := [.int (p2)]) (rest := []) ⟨hx, hb, hml, hown, hts⟩ (c_Bo_wasDone l κ σ p2 ) (cwV 1 hts (zgoodV w_354 w_355 w_356 w_7 w_357) rfl rfl rfl (by decide +kernel) ⟨Nat.le_of_ble_eq_true rfl, Nat.le_of_ble_eq_true rfl⟩) B (zrecv B (ci := 4) rfl (wa_14 κ σ)) rfl hl.1 rfl (Nat.le_of_ble_eq_true rfl) d_Bo_valueAt_24 ⟨Nat.zero_le _, Nat.zero_le _⟩ (fun r σ' H locs hp B => ?_)
      obtain ⟨rfl, hp⟩ := hp
      rw [hp] at B
      have B : BA κ A s.heap s σ H locs := B
      refine lv_if_eq (tgt := 47) hx hb d_Bo_valueAt_27 (by decide) (fun c_3 => ?_) (fun c_3 => ?_)
      · have c_3 := zb_eq0.mp c_3
        refine lv_lconst (v := 0) hx hb d_Bo_valueAt_47 (by decide) ?_
        exact zret_l hx hb hr hlocks B (⟨by simp [zb, fx_valueAt, c_1, c_2, c_3], rfl⟩) d_Bo_valueAt_48
      · have c_3 := zb_ne0.mp c_3
        refine lv_aload_n hx hb d_Bo_valueAt_30 rfl (lv_at hl 0 rfl) ?_
        refine va_get (D := κ.1) (ci := 4) (v := .ref (aA κ 18)) (C := "UnitThreads$Board") (T := T_Bo) (N := 6) hx hb hts in_Bo hown B.1 B.2.1 14 (wa_14 κ σ) rfl 3 (by decide) (hts _ w_150) (fun _ h9 => h9) rfl d_Bo_valueAt_31 ?_
        refine lv_iload_n hx hb d_Bo_valueAt_34 rfl (lv_at hl 2 rfl) ?_
        refine lv_aload_n hx hb d_Bo_valueAt_35 rfl (lv_at hl 0 rfl) ?_
        refine va_get (D := κ.1) (ci := 4) (v := .ref (aA κ 15)) (C := "UnitThreads$Board") (T := T_Bo) (N := 6) hx hb hts in_Bo hown B.1 B.2.1 14 (wa_14 κ σ) rfl 0 (by decide) (hts _ w_144) (fun _ h9 => h9) rfl d_Bo_valueAt_36 ?_
        refine zalen hx hb B 15 1 (wa_15 κ σ) rfl d_Bo_valueAt_39 ?_
        refine lv_imul hx hb d_Bo_valueAt_40 ?_
        refine lv_iload_n hx hb d_Bo_valueAt_41 rfl (lv_at hl 1 rfl) ?_
        refine lv_iadd hx hb d_Bo_valueAt_42 ?_
        refine zrwi (y := nI (tn p2 * (nA κ * 4) + tn p1)) (zmad _ (fx_wasDone_in c_3 hbs hb64).1 (fx_hasOut_in c_1 hn).1) ?_
        refine zlald hx hb B 18 1 (wa_18 κ σ) rfl (tn p2 * (nA κ * 4) + tn p1) rfl (zidx (Nat.lt_of_lt_of_le (fx_wasDone_in c_3 hbs hb64).2 hb64) (fx_hasOut_in c_1 hn).2) (by omega) d_Bo_valueAt_43 ?_
        refine lv_goto (tgt := 48) hx hb d_Bo_valueAt_44 (by decide) ?_
        exact zret_l hx hb hr hlocks B (⟨by simp [zb, fx_valueAt, c_1, c_2, c_3], rfl⟩) d_Bo_valueAt_48
    · refine lv_aload_n hx hb d_Bo_valueAt_15 rfl (lv_at hl 0 rfl) ?_
      refine va_get (D := κ.1) (ci := 4) (v := .ref (aA κ 15)) (C := "UnitThreads$Board") (T := T_Bo) (N := 6) hx hb hts in_Bo hown B.1 B.2.1 14 (wa_14 κ σ) rfl 0 (by decide) (hts _ w_144) (fun _ h9 => h9) rfl d_Bo_valueAt_16 ?_
      refine lv_iload_n hx hb d_Bo_valueAt_19 rfl (lv_at hl 1 rfl) ?_
      refine zlald hx hb B 15 1 (wa_15 κ σ) rfl (tn p1) ((fx_hasOut_in c_1 hn).1) ((fx_hasOut_in c_1 hn).2) (by omega) d_Bo_valueAt_20 ?_
      exact zret_l hx hb hr hlocks B (⟨by simp [zb, fx_valueAt, c_1, c_2], rfl⟩) d_Bo_valueAt_21
  · have c_1 := zb_eq0.mp c_1
    refine lv_lconst (v := 0) hx hb d_Bo_valueAt_8 (by decide) ?_
    exact zret_l hx hb hr hlocks B (⟨by simp [zb, fx_valueAt, c_1], rfl⟩) d_Bo_valueAt_9
set_option maxHeartbeats 4000000 in
set_option maxRecDepth 100000 in
theorem c_Bo_ownerAt (l : Launch) (κ : KA) (σ : zS) (p1 p2 : Int32) (b : Nat) (hbs : σ.1 21 0 = nI b) (hb64 : b ≤ 64) : zMi l y_Bo_ownerAt (zws y_Bo_ownerAt prog_2_method_5_code 3 (some .int)) ({ frames := 1, cells := 0, slots := 0, locals := 21 }) κ.1 vwCl (tysA κ) nwA (wA κ) σ [.ref (aA κ 14), .int (p1), .int (p2)] (fun r σ' => r = fx_ownerAt σ p1 p2 ∧ σ' = σ) := by
  refine zintro (cc := prog_2_method_5_code) (maxL := 3) (ret := (some .int)) (by decide) rfl (Nat.le_of_ble_eq_true rfl) ?_
  intro p e s m below meth c ls hx hb hr hml hts hown hlocks hl B
  have hl : lv_has ls 3 [(0, .ref (aA κ 14)), (1, .int (p1)), (2, .int (p2))] := hl
  have B : BA κ (va_A (wA κ σ) s.heap.size) s.heap s σ s.heap [] := B
  have hr : meth.sig.returnType = (some .int) := hr
  have hown : s.vm.findClass "UnitThreads$Board" = some m.cls := hown
  show W p l e (headSpec (zws y_Bo_ownerAt prog_2_method_5_code 3 (some .int)) ({ frames := 1, cells := 0, slots := 0, locals := 21 })).room s m [.ref (aA κ 14), .int (p1), .int (p2)].toArray below meth c s.heap [] 0 0 (MQ below (va_Qi (fun r σ' => r = fx_ownerAt σ p1 p2 ∧ σ' = σ) (zQ κ.1 vwCl (tysA κ) (wA κ) (va_A (wA κ σ) s.heap.size)) (va_A (wA κ σ) s.heap.size)) [.ref (aA κ 14), .int (p1), .int (p2)].toArray s 0 0 (va_A (wA κ σ) s.heap.size)) (F0 m 0 ls [])
  generalize va_A (wA κ σ) s.heap.size = A at B ⊢
  have hts : ∀ w ∈ zW, w.before [.ref (aA κ 14), .int (p1), .int (p2)].toArray s = true := fun w h => hts w (List.mem_cons_of_mem _ h)
  refine lv_iload_n hx hb d_Bo_ownerAt_0 rfl (lv_at hl 1 rfl) ?_
  refine zcSN_i (As := [.int (p1)]) (rest := []) ⟨hx, hb, hml, hown, hts⟩ (c_Ut_isWay l κ σ p1 ) ⟨va_cnB 1 hts (zgoodC w_218) rfl rfl rfl (B.2.2.2.2.2 ("UnitThreads$Board", 45, y_Ut_isWay, "UnitThreads") (by decide +kernel)) (hts _ w_1) (by decide +kernel) ⟨Nat.le_of_ble_eq_true rfl, Nat.le_of_ble_eq_true rfl⟩, hts _ w_217, trivial⟩ B rfl hl.1 rfl (Nat.le_of_ble_eq_true rfl) d_Bo_ownerAt_1 ⟨Nat.zero_le _, Nat.zero_le _⟩ (fun r σ' H locs hp B => ?_)
  obtain ⟨rfl, hp⟩ := hp
  rw [hp] at B
  have B : BA κ A s.heap s σ H locs := B
  refine lv_if_ne (tgt := 9) hx hb d_Bo_ownerAt_4 (by decide) (fun c_1 => ?_) (fun c_1 => ?_)
  · have c_1 := zb_ne0.mp c_1
    refine lv_iload_n hx hb d_Bo_ownerAt_9 rfl (lv_at hl 2 rfl) ?_
    refine lv_iconst (v := (-1)) hx hb d_Bo_ownerAt_10 (by decide) ?_
    refine lv_icmp_ne (tgt := 21) hx hb d_Bo_ownerAt_11 (by decide) (fun c_2 => ?_) (fun c_2 => ?_)
    · refine lv_aload_n hx hb d_Bo_ownerAt_21 rfl (lv_at hl 0 rfl) ?_
      refine lv_iload_n hx hb d_Bo_ownerAt_22 rfl (lv_at hl 2 rfl) ?_
      refine zcV_i (As := [.int (p2)]) (rest := []) ⟨hx, hb, hml, hown, hts⟩ (c_Bo_wasDone l κ σ p2 ) (cwV 1 hts (zgoodV w_354 w_355 w_356 w_7 w_357) rfl rfl rfl (by decide +kernel) ⟨Nat.le_of_ble_eq_true rfl, Nat.le_of_ble_eq_true rfl⟩) B (zrecv B (ci := 4) rfl (wa_14 κ σ)) rfl hl.1 rfl (Nat.le_of_ble_eq_true rfl) d_Bo_ownerAt_23 ⟨Nat.zero_le _, Nat.zero_le _⟩ (fun r σ' H locs hp B => ?_)
      obtain ⟨rfl, hp⟩ := hp
      rw [hp] at B
      have B : BA κ A s.heap s σ H locs := B
      refine lv_if_eq (tgt := 43) hx hb d_Bo_ownerAt_26 (by decide) (fun c_3 => ?_) (fun c_3 => ?_)
      · have c_3 := zb_eq0.mp c_3
        refine lv_iconst (v := (-1)) hx hb d_Bo_ownerAt_43 (by decide) ?_
        exact zret_i hx hb hr hlocks B (⟨by simp [zb, fx_ownerAt, c_1, c_2, c_3], rfl⟩) d_Bo_ownerAt_44
      · have c_3 := zb_ne0.mp c_3
        refine lv_aload_n hx hb d_Bo_ownerAt_29 rfl (lv_at hl 0 rfl) ?_
        refine va_get (D := κ.1) (ci := 4) (v := .ref (aA κ 19)) (C := "UnitThreads$Board") (T := T_Bo) (N := 6) hx hb hts in_Bo hown B.1 B.2.1 14 (wa_14 κ σ) rfl 4 (by decide) (hts _ w_151) (fun _ h9 => h9) rfl d_Bo_ownerAt_30 ?_
        refine lv_iload_n hx hb d_Bo_ownerAt_33 rfl (lv_at hl 2 rfl) ?_
        refine lv_bipush (v := nI 16) hx hb d_Bo_ownerAt_34 (by decide) ?_
        refine lv_imul hx hb d_Bo_ownerAt_36 ?_
        refine lv_iload_n hx hb d_Bo_ownerAt_37 rfl (lv_at hl 1 rfl) ?_
        refine lv_iadd hx hb d_Bo_ownerAt_38 ?_
        refine zrwi (y := nI (tn p2 * 16 + tn p1)) (zmad _ (fx_wasDone_in c_3 hbs hb64).1 (fx_isWay_in c_1).1) ?_
        refine ziald hx hb B 19 0 (wa_19 κ σ) rfl (tn p2 * 16 + tn p1) rfl (zidx (M := 64) (Nat.lt_of_lt_of_le (fx_wasDone_in c_3 hbs hb64).2 hb64) (fx_isWay_in c_1).2) (by decide) d_Bo_ownerAt_39 ?_
        refine lv_goto (tgt := 44) hx hb d_Bo_ownerAt_40 (by decide) ?_
        exact zret_i hx hb hr hlocks B (⟨by simp [zb, fx_ownerAt, c_1, c_2, c_3], rfl⟩) d_Bo_ownerAt_44
    · refine lv_aload_n hx hb d_Bo_ownerAt_14 rfl (lv_at hl 0 rfl) ?_
      refine va_get (D := κ.1) (ci := 4) (v := .ref (aA κ 17)) (C := "UnitThreads$Board") (T := T_Bo) (N := 6) hx hb hts in_Bo hown B.1 B.2.1 14 (wa_14 κ σ) rfl 2 (by decide) (hts _ w_148) (fun _ h9 => h9) rfl d_Bo_ownerAt_15 ?_
      refine lv_iload_n hx hb d_Bo_ownerAt_18 rfl (lv_at hl 1 rfl) ?_
      refine ziald hx hb B 17 0 (wa_17 κ σ) rfl (tn p1) ((fx_isWay_in c_1).1) ((fx_isWay_in c_1).2) (by decide) d_Bo_ownerAt_19 ?_
      exact zret_i hx hb hr hlocks B (⟨by simp [zb, fx_ownerAt, c_1, c_2], rfl⟩) d_Bo_ownerAt_20
  · have c_1 := zb_eq0.mp c_1
    refine lv_iconst (v := (-1)) hx hb d_Bo_ownerAt_7 (by decide) ?_
    exact zret_i hx hb hr hlocks B (⟨by simp [zb, fx_ownerAt, c_1], rfl⟩) d_Bo_ownerAt_8
set_option maxHeartbeats 4000000 in
set_option maxRecDepth 100000 in
theorem c_Bo_makeSafe (l : Launch) (κ : KA) (σ : zS) (u : Nat) (hu : u < nA κ) (hn : nA κ ≤ 8) : zMv l y_Bo_makeSafe (zws y_Bo_makeSafe prog_2_method_6_code 4 none) ({ frames := 0, cells := 0, slots := 0, locals := 0 }) κ.1 vwCl (tysA κ) nwA (wA κ) σ [.ref (aA κ 14), .int (nI u)] (fun σ' => σ' = fx_makeSafe σ u) := by
  refine zintro (cc := prog_2_method_6_code) (maxL := 4) (ret := none) (by decide) rfl (Nat.le_of_ble_eq_true rfl) ?_
  intro p e s m below meth c ls hx hb hr hml hts hown hlocks hl B
  have hl : lv_has ls 4 [(0, .ref (aA κ 14)), (1, .int (nI u))] := hl
  have B : BA κ (va_A (wA κ σ) s.heap.size) s.heap s σ s.heap [] := B
  have hr : meth.sig.returnType = none := hr
  have hown : s.vm.findClass "UnitThreads$Board" = some m.cls := hown
  show W p l e (headSpec (zws y_Bo_makeSafe prog_2_method_6_code 4 none) ({ frames := 0, cells := 0, slots := 0, locals := 0 })).room s m [.ref (aA κ 14), .int (nI u)].toArray below meth c s.heap [] 0 0 (MQ below (va_Qv (fun σ' => σ' = fx_makeSafe σ u) (zQ κ.1 vwCl (tysA κ) (wA κ) (va_A (wA κ σ) s.heap.size)) (va_A (wA κ σ) s.heap.size)) [.ref (aA κ 14), .int (nI u)].toArray s 0 0 (va_A (wA κ σ) s.heap.size)) (F0 m 0 ls [])
  generalize va_A (wA κ σ) s.heap.size = A at B ⊢
  have hts : ∀ w ∈ zW, w.before [.ref (aA κ 14), .int (nI u)].toArray s = true := fun w h => hts w (List.mem_cons_of_mem _ h)
  have L_6 : ∀ (j : Nat) (k : Nat) (τ : zS), k + j = u * 4 + 4 → (fx_makeSafe σ u = zit fx_safe1 j k τ) → ∀ (H : Heap) (locs : List Loc), BA κ A s.heap s τ H locs → ∀ (ls : Array Slot), lv_has ls 4 [(0, .ref (aA κ 14)), (1, .int (nI u)), (2, .int (nI (u * 4))), (3, .int (nI k))] → W p l e (headSpec (zws y_Bo_makeSafe prog_2_method_6_code 4 none) ({ frames := 0, cells := 0, slots := 0, locals := 0 })).room s m [.ref (aA κ 14), .int (nI u)].toArray below meth c H locs 0 0 (MQ below (va_Qv (fun σ' => σ' = fx_makeSafe σ u) (zQ κ.1 vwCl (tysA κ) (wA κ) A) A) [.ref (aA κ 14), .int (nI u)].toArray s 0 0 A) (F0 m 6 ls []) := by
    intro j
    induction j with
    | zero =>
      intro k τ hj hst H locs B ls hl
      refine lv_iload_n hx hb d_Bo_makeSafe_6 rfl (lv_at hl 3 rfl) ?_
      refine lv_iload_n hx hb d_Bo_makeSafe_7 rfl (lv_at hl 2 rfl) ?_
      refine lv_iconst (v := nI 4) hx hb d_Bo_makeSafe_8 (by decide) ?_
      refine lv_iadd hx hb d_Bo_makeSafe_9 ?_
      refine zrwi (y := nI (u * 4 + 4)) (nI_add _ _) ?_
      refine lv_icmp_ge (tgt := 40) hx hb d_Bo_makeSafe_10 (by decide) (fun c_1 => ?_) (fun c_1 => ?_)
      · have c_1 := (nI_leI (a := u * 4 + 4) (b := k) (by omega) (by omega)).mp c_1
        exact zret_v hx hb hr hlocks B (hst.symm) d_Bo_makeSafe_40
      · have c_1 := (not_congr (nI_leI (a := u * 4 + 4) (b := k) (by omega) (by omega))).mp c_1
        exact absurd c_1 (by omega)
    | succ j ih =>
      intro k τ hj hst H locs B ls hl
      refine lv_iload_n hx hb d_Bo_makeSafe_6 rfl (lv_at hl 3 rfl) ?_
      refine lv_iload_n hx hb d_Bo_makeSafe_7 rfl (lv_at hl 2 rfl) ?_
      refine lv_iconst (v := nI 4) hx hb d_Bo_makeSafe_8 (by decide) ?_
      refine lv_iadd hx hb d_Bo_makeSafe_9 ?_
      refine zrwi (y := nI (u * 4 + 4)) (nI_add _ _) ?_
      refine lv_icmp_ge (tgt := 40) hx hb d_Bo_makeSafe_10 (by decide) (fun c_2 => ?_) (fun c_2 => ?_)
      · have c_2 := (nI_leI (a := u * 4 + 4) (b := k) (by omega) (by omega)).mp c_2
        exact absurd c_2 (by omega)
      · have c_2 := (not_congr (nI_leI (a := u * 4 + 4) (b := k) (by omega) (by omega))).mp c_2
        refine lv_iload_n hx hb d_Bo_makeSafe_13 rfl (lv_at hl 3 rfl) ?_
        refine lv_aload_n hx hb d_Bo_makeSafe_14 rfl (lv_at hl 0 rfl) ?_
        refine va_get (D := κ.1) (ci := 4) (v := .ref (aA κ 15)) (C := "UnitThreads$Board") (T := T_Bo) (N := 6) hx hb hts in_Bo hown B.1 B.2.1 14 (wa_14 κ τ) rfl 0 (by decide) (hts _ w_144) (fun _ h9 => h9) rfl d_Bo_makeSafe_15 ?_
        refine zalen hx hb B 15 1 (wa_15 κ τ) rfl d_Bo_makeSafe_18 ?_
        refine lv_icmp_ge (tgt := 40) hx hb d_Bo_makeSafe_19 (by decide) (fun c_3 => ?_) (fun c_3 => ?_)
        · have c_3 := (nI_leI (a := nA κ * 4) (b := k) (by omega) (by omega)).mp c_3
          exact absurd c_3 (by omega)
        · have c_3 := (not_congr (nI_leI (a := nA κ * 4) (b := k) (by omega) (by omega))).mp c_3
          refine lv_aload_n hx hb d_Bo_makeSafe_22 rfl (lv_at hl 0 rfl) ?_
          refine va_get (D := κ.1) (ci := 4) (v := .ref (aA κ 15)) (C := "UnitThreads$Board") (T := T_Bo) (N := 6) hx hb hts in_Bo hown B.1 B.2.1 14 (wa_14 κ τ) rfl 0 (by decide) (hts _ w_144) (fun _ h9 => h9) rfl d_Bo_makeSafe_23 ?_
          refine lv_iload_n hx hb d_Bo_makeSafe_26 rfl (lv_at hl 3 rfl) ?_
          refine lv_aload_n hx hb d_Bo_makeSafe_27 rfl (lv_at hl 0 rfl) ?_
          refine va_get (D := κ.1) (ci := 4) (v := .ref (aA κ 16)) (C := "UnitThreads$Board") (T := T_Bo) (N := 6) hx hb hts in_Bo hown B.1 B.2.1 14 (wa_14 κ τ) rfl 1 (by decide) (hts _ w_146) (fun _ h9 => h9) rfl d_Bo_makeSafe_28 ?_
          refine lv_iload_n hx hb d_Bo_makeSafe_31 rfl (lv_at hl 3 rfl) ?_
          refine zlald hx hb B 16 1 (wa_16 κ τ) rfl k rfl (by omega) (by omega) d_Bo_makeSafe_32 ?_
          refine zlast hx hb B 15 1 (wa_15 κ τ) rfl k rfl (by omega) (by omega) (ws_15 κ τ k (τ.2 3 k)) d_Bo_makeSafe_33 (fun H locs B => ?_)
          have B : BA κ A s.heap s (zl τ 2 k (τ.2 3 k)) H locs := B
          refine lv_iinc (v := nI (k + 1)) (lv' := [(3, .int (nI (k + 1))), (0, .ref (aA κ 14)), (1, .int (nI u)), (2, .int (nI (u * 4)))]) hx hb d_Bo_makeSafe_34 hl (k := 3) rfl (zinc _) (by decide) rfl (fun ls hl => ?_)
          refine lv_goto (tgt := 6) hx hb d_Bo_makeSafe_37 (by decide) ?_
          exact ih (k + 1) (zl τ 2 k (τ.2 3 k)) (by omega) hst _ _ B ls (lv_sub hl [1, 2, 3, 0] rfl)
  refine lv_iload_n hx hb d_Bo_makeSafe_0 rfl (lv_at hl 1 rfl) ?_
  refine lv_iconst (v := nI 4) hx hb d_Bo_makeSafe_1 (by decide) ?_
  refine lv_imul hx hb d_Bo_makeSafe_2 ?_
  refine zrwi (y := nI (u * 4)) (pk_mul _ _) ?_
  refine lv_istore_n (lv' := [(2, .int (nI (u * 4))), (0, .ref (aA κ 14)), (1, .int (nI u))]) hx hb d_Bo_makeSafe_3 rfl hl (by decide) rfl (fun ls hl => ?_)
  refine lv_iload_n hx hb d_Bo_makeSafe_4 rfl (lv_at hl 0 rfl) ?_
  refine lv_istore_n (lv' := [(3, .int (nI (u * 4))), (2, .int (nI (u * 4))), (0, .ref (aA κ 14)), (1, .int (nI u))]) hx hb d_Bo_makeSafe_5 rfl hl (by decide) rfl (fun ls hl => ?_)
  exact L_6 4 (u * 4) σ (by omega) rfl _ _ B ls (lv_sub hl [2, 3, 1, 0] rfl)
set_option maxHeartbeats 4000000 in
set_option maxRecDepth 100000 in
theorem c_Bo_ownsAll (l : Launch) (κ : KA) (σ : zS) (p1 p2 : Int32) : zMi l y_Bo_ownsAll (zws y_Bo_ownsAll prog_2_method_7_code 4 (some .boolean)) ({ frames := 1, cells := 0, slots := 0, locals := 21 }) κ.1 vwCl (tysA κ) nwA (wA κ) σ [.ref (aA κ 14), .int (p1), .int (p2)] (fun r σ' => r = zb (fx_ownsAll σ p1 p2 16 0) ∧ σ' = σ) := by
  refine zintro (cc := prog_2_method_7_code) (maxL := 4) (ret := (some .boolean)) (by decide) rfl (Nat.le_of_ble_eq_true rfl) ?_
  intro p e s m below meth c ls hx hb hr hml hts hown hlocks hl B
  have hl : lv_has ls 4 [(0, .ref (aA κ 14)), (1, .int (p1)), (2, .int (p2))] := hl
  have B : BA κ (va_A (wA κ σ) s.heap.size) s.heap s σ s.heap [] := B
  have hr : meth.sig.returnType = (some .boolean) := hr
  have hown : s.vm.findClass "UnitThreads$Board" = some m.cls := hown
  show W p l e (headSpec (zws y_Bo_ownsAll prog_2_method_7_code 4 (some .boolean)) ({ frames := 1, cells := 0, slots := 0, locals := 21 })).room s m [.ref (aA κ 14), .int (p1), .int (p2)].toArray below meth c s.heap [] 0 0 (MQ below (va_Qi (fun r σ' => r = zb (fx_ownsAll σ p1 p2 16 0) ∧ σ' = σ) (zQ κ.1 vwCl (tysA κ) (wA κ) (va_A (wA κ σ) s.heap.size)) (va_A (wA κ σ) s.heap.size)) [.ref (aA κ 14), .int (p1), .int (p2)].toArray s 0 0 (va_A (wA κ σ) s.heap.size)) (F0 m 0 ls [])
  generalize va_A (wA κ σ) s.heap.size = A at B ⊢
  have hts : ∀ w ∈ zW, w.before [.ref (aA κ 14), .int (p1), .int (p2)].toArray s = true := fun w h => hts w (List.mem_cons_of_mem _ h)
  have L_2 : ∀ (j : Nat) (k : Nat), k + j = 16 → (fx_ownsAll σ p1 p2 16 0 = fx_ownsAll σ p1 p2 j k) → ∀ (H : Heap) (locs : List Loc), BA κ A s.heap s σ H locs → ∀ (ls : Array Slot), lv_has ls 4 [(0, .ref (aA κ 14)), (1, .int (p1)), (2, .int (p2)), (3, .int (nI k))] → W p l e (headSpec (zws y_Bo_ownsAll prog_2_method_7_code 4 (some .boolean)) ({ frames := 1, cells := 0, slots := 0, locals := 21 })).room s m [.ref (aA κ 14), .int (p1), .int (p2)].toArray below meth c H locs 0 0 (MQ below (va_Qi (fun r σ' => r = zb (fx_ownsAll σ p1 p2 16 0) ∧ σ' = σ) (zQ κ.1 vwCl (tysA κ) (wA κ) A) A) [.ref (aA κ 14), .int (p1), .int (p2)].toArray s 0 0 A) (F0 m 2 ls []) := by
    intro j
    induction j with
    | zero =>
      intro k hj hst H locs B ls hl
      refine lv_iload_n hx hb d_Bo_ownsAll_2 rfl (lv_at hl 3 rfl) ?_
      refine lv_bipush (v := nI 16) hx hb d_Bo_ownsAll_3 (by decide) ?_
      refine lv_icmp_ge (tgt := 34) hx hb d_Bo_ownsAll_5 (by decide) (fun c_1 => ?_) (fun c_1 => ?_)
      · have c_1 := (nI_leI (a := 16) (b := k) (by omega) (by omega)).mp c_1
        refine lv_iconst (v := 1) hx hb d_Bo_ownsAll_34 (by decide) ?_
        exact zret_z hx hb hr rfl hlocks B (⟨by rw [hst]; simp [fx_ownsAll, zb, c_1], rfl⟩) d_Bo_ownsAll_35
      · have c_1 := (not_congr (nI_leI (a := 16) (b := k) (by omega) (by omega))).mp c_1
        exact absurd c_1 (by omega)
    | succ j ih =>
      intro k hj hst H locs B ls hl
      refine lv_iload_n hx hb d_Bo_ownsAll_2 rfl (lv_at hl 3 rfl) ?_
      refine lv_bipush (v := nI 16) hx hb d_Bo_ownsAll_3 (by decide) ?_
      refine lv_icmp_ge (tgt := 34) hx hb d_Bo_ownsAll_5 (by decide) (fun c_2 => ?_) (fun c_2 => ?_)
      · have c_2 := (nI_leI (a := 16) (b := k) (by omega) (by omega)).mp c_2
        exact absurd c_2 (by omega)
      · have c_2 := (not_congr (nI_leI (a := 16) (b := k) (by omega) (by omega))).mp c_2
        refine lv_iload_n hx hb d_Bo_ownsAll_8 rfl (lv_at hl 2 rfl) ?_
        refine lv_iload_n hx hb d_Bo_ownsAll_9 rfl (lv_at hl 3 rfl) ?_
        refine zcSN_i (As := [.int (p2), .int (nI k)]) (rest := []) ⟨hx, hb, hml, hown, hts⟩ (c_Ut_hasWay l κ σ p2 (nI k) ) ⟨va_cnB 2 hts (zgoodC w_241) rfl rfl rfl (B.2.2.2.2.2 ("UnitThreads$Board", 48, y_Ut_hasWay, "UnitThreads") (by decide +kernel)) (hts _ w_1) (by decide +kernel) ⟨Nat.le_of_ble_eq_true rfl, Nat.le_of_ble_eq_true rfl⟩, hts _ w_240, trivial⟩ B rfl hl.1 rfl (Nat.le_of_ble_eq_true rfl) d_Bo_ownsAll_10 ⟨Nat.zero_le _, Nat.zero_le _⟩ (fun r σ' H locs hp B => ?_)
        obtain ⟨rfl, hp⟩ := hp
        rw [hp] at B
        have B : BA κ A s.heap s σ H locs := B
        refine lv_if_eq (tgt := 28) hx hb d_Bo_ownsAll_13 (by decide) (fun c_3 => ?_) (fun c_3 => ?_)
        · have c_3 := zb_eq0.mp c_3
          refine lv_iinc (v := nI (k + 1)) (lv' := [(3, .int (nI (k + 1))), (0, .ref (aA κ 14)), (1, .int (p1)), (2, .int (p2))]) hx hb d_Bo_ownsAll_28 hl (k := 3) rfl (zinc _) (by decide) rfl (fun ls hl => ?_)
          refine lv_goto (tgt := 2) hx hb d_Bo_ownsAll_31 (by decide) ?_
          exact ih (k + 1) (by omega) (by rw [hst]; simp [fx_ownsAll, c_2, c_3]) _ _ B ls (lv_sub hl [1, 2, 3, 0] rfl)
        · have c_3 := zb_ne0.mp c_3
          refine lv_aload_n hx hb d_Bo_ownsAll_16 rfl (lv_at hl 0 rfl) ?_
          refine va_get (D := κ.1) (ci := 4) (v := .ref (aA κ 17)) (C := "UnitThreads$Board") (T := T_Bo) (N := 6) hx hb hts in_Bo hown B.1 B.2.1 14 (wa_14 κ σ) rfl 2 (by decide) (hts _ w_148) (fun _ h9 => h9) rfl d_Bo_ownsAll_17 ?_
          refine lv_iload_n hx hb d_Bo_ownsAll_20 rfl (lv_at hl 3 rfl) ?_
          refine ziald hx hb B 17 0 (wa_17 κ σ) rfl k rfl (by omega) (by decide) d_Bo_ownsAll_21 ?_
          refine lv_iload_n hx hb d_Bo_ownsAll_22 rfl (lv_at hl 1 rfl) ?_
          refine lv_icmp_eq (tgt := 28) hx hb d_Bo_ownsAll_23 (by decide) (fun c_4 => ?_) (fun c_4 => ?_)
          · refine lv_iinc (v := nI (k + 1)) (lv' := [(3, .int (nI (k + 1))), (0, .ref (aA κ 14)), (1, .int (p1)), (2, .int (p2))]) hx hb d_Bo_ownsAll_28 hl (k := 3) rfl (zinc _) (by decide) rfl (fun ls hl => ?_)
            refine lv_goto (tgt := 2) hx hb d_Bo_ownsAll_31 (by decide) ?_
            exact ih (k + 1) (by omega) (by rw [hst]; simp [fx_ownsAll, c_2, c_3, c_4]) _ _ B ls (lv_sub hl [1, 2, 3, 0] rfl)
          · refine lv_iconst (v := 0) hx hb d_Bo_ownsAll_26 (by decide) ?_
            exact zret_z hx hb hr rfl hlocks B (⟨by rw [hst]; simp [fx_ownsAll, zb, c_2, c_3, c_4], rfl⟩) d_Bo_ownsAll_27
  refine lv_iconst (v := nI 0) hx hb d_Bo_ownsAll_0 (by decide) ?_
  refine lv_istore_n (lv' := [(3, .int (nI 0)), (0, .ref (aA κ 14)), (1, .int (p1)), (2, .int (p2))]) hx hb d_Bo_ownsAll_1 rfl hl (by decide) rfl (fun ls hl => ?_)
  exact L_2 16 0 (by omega) rfl _ _ B ls (lv_sub hl [1, 2, 3, 0] rfl)
set_option maxHeartbeats 4000000 in
set_option maxRecDepth 100000 in
theorem c_Bo_giveBack (l : Launch) (κ : KA) (σ : zS) (p1 p2 : Int32) : zMv l y_Bo_giveBack (zws y_Bo_giveBack prog_2_method_8_code 4 none) ({ frames := 1, cells := 0, slots := 0, locals := 21 }) κ.1 vwCl (tysA κ) nwA (wA κ) σ [.ref (aA κ 14), .int (p1), .int (p2)] (fun σ' => σ' = fx_giveBack σ p1 p2) := by
  refine zintro (cc := prog_2_method_8_code) (maxL := 4) (ret := none) (by decide) rfl (Nat.le_of_ble_eq_true rfl) ?_
  intro p e s m below meth c ls hx hb hr hml hts hown hlocks hl B
  have hl : lv_has ls 4 [(0, .ref (aA κ 14)), (1, .int (p1)), (2, .int (p2))] := hl
  have B : BA κ (va_A (wA κ σ) s.heap.size) s.heap s σ s.heap [] := B
  have hr : meth.sig.returnType = none := hr
  have hown : s.vm.findClass "UnitThreads$Board" = some m.cls := hown
  show W p l e (headSpec (zws y_Bo_giveBack prog_2_method_8_code 4 none) ({ frames := 1, cells := 0, slots := 0, locals := 21 })).room s m [.ref (aA κ 14), .int (p1), .int (p2)].toArray below meth c s.heap [] 0 0 (MQ below (va_Qv (fun σ' => σ' = fx_giveBack σ p1 p2) (zQ κ.1 vwCl (tysA κ) (wA κ) (va_A (wA κ σ) s.heap.size)) (va_A (wA κ σ) s.heap.size)) [.ref (aA κ 14), .int (p1), .int (p2)].toArray s 0 0 (va_A (wA κ σ) s.heap.size)) (F0 m 0 ls [])
  generalize va_A (wA κ σ) s.heap.size = A at B ⊢
  have hts : ∀ w ∈ zW, w.before [.ref (aA κ 14), .int (p1), .int (p2)].toArray s = true := fun w h => hts w (List.mem_cons_of_mem _ h)
  have L_2 : ∀ (j : Nat) (k : Nat) (τ : zS), k + j = 16 → (fx_giveBack σ p1 p2 = zit (fx_give1 p1 p2) j k τ) → ∀ (H : Heap) (locs : List Loc), BA κ A s.heap s τ H locs → ∀ (ls : Array Slot), lv_has ls 4 [(0, .ref (aA κ 14)), (1, .int (p1)), (2, .int (p2)), (3, .int (nI k))] → W p l e (headSpec (zws y_Bo_giveBack prog_2_method_8_code 4 none) ({ frames := 1, cells := 0, slots := 0, locals := 21 })).room s m [.ref (aA κ 14), .int (p1), .int (p2)].toArray below meth c H locs 0 0 (MQ below (va_Qv (fun σ' => σ' = fx_giveBack σ p1 p2) (zQ κ.1 vwCl (tysA κ) (wA κ) A) A) [.ref (aA κ 14), .int (p1), .int (p2)].toArray s 0 0 A) (F0 m 2 ls []) := by
    intro j
    induction j with
    | zero =>
      intro k τ hj hst H locs B ls hl
      refine lv_iload_n hx hb d_Bo_giveBack_2 rfl (lv_at hl 3 rfl) ?_
      refine lv_bipush (v := nI 16) hx hb d_Bo_giveBack_3 (by decide) ?_
      refine lv_icmp_ge (tgt := 39) hx hb d_Bo_giveBack_5 (by decide) (fun c_1 => ?_) (fun c_1 => ?_)
      · have c_1 := (nI_leI (a := 16) (b := k) (by omega) (by omega)).mp c_1
        exact zret_v hx hb hr hlocks B (hst.symm) d_Bo_giveBack_39
      · have c_1 := (not_congr (nI_leI (a := 16) (b := k) (by omega) (by omega))).mp c_1
        exact absurd c_1 (by omega)
    | succ j ih =>
      intro k τ hj hst H locs B ls hl
      refine lv_iload_n hx hb d_Bo_giveBack_2 rfl (lv_at hl 3 rfl) ?_
      refine lv_bipush (v := nI 16) hx hb d_Bo_giveBack_3 (by decide) ?_
      refine lv_icmp_ge (tgt := 39) hx hb d_Bo_giveBack_5 (by decide) (fun c_2 => ?_) (fun c_2 => ?_)
      · have c_2 := (nI_leI (a := 16) (b := k) (by omega) (by omega)).mp c_2
        exact absurd c_2 (by omega)
      · have c_2 := (not_congr (nI_leI (a := 16) (b := k) (by omega) (by omega))).mp c_2
        refine lv_iload_n hx hb d_Bo_giveBack_8 rfl (lv_at hl 2 rfl) ?_
        refine lv_iload_n hx hb d_Bo_giveBack_9 rfl (lv_at hl 3 rfl) ?_
        refine zcSN_i (As := [.int (p2), .int (nI k)]) (rest := []) ⟨hx, hb, hml, hown, hts⟩ (c_Ut_hasWay l κ τ p2 (nI k) ) ⟨va_cnB 2 hts (zgoodC w_241) rfl rfl rfl (B.2.2.2.2.2 ("UnitThreads$Board", 48, y_Ut_hasWay, "UnitThreads") (by decide +kernel)) (hts _ w_1) (by decide +kernel) ⟨Nat.le_of_ble_eq_true rfl, Nat.le_of_ble_eq_true rfl⟩, hts _ w_240, trivial⟩ B rfl hl.1 rfl (Nat.le_of_ble_eq_true rfl) d_Bo_giveBack_10 ⟨Nat.zero_le _, Nat.zero_le _⟩ (fun r σ' H locs hp B => ?_)
        obtain ⟨rfl, hp⟩ := hp
        rw [hp] at B
        have B : BA κ A s.heap s τ H locs := B
        refine lv_if_eq (tgt := 33) hx hb d_Bo_giveBack_13 (by decide) (fun c_3 => ?_) (fun c_3 => ?_)
        · have c_3 := zb_eq0.mp c_3
          refine lv_iinc (v := nI (k + 1)) (lv' := [(3, .int (nI (k + 1))), (0, .ref (aA κ 14)), (1, .int (p1)), (2, .int (p2))]) hx hb d_Bo_giveBack_33 hl (k := 3) rfl (zinc _) (by decide) rfl (fun ls hl => ?_)
          refine lv_goto (tgt := 2) hx hb d_Bo_giveBack_36 (by decide) ?_
          exact ih (k + 1) τ (by omega) (by rw [hst]; simp [zit, fx_give1, c_2, c_3]) _ _ B ls (lv_sub hl [1, 2, 3, 0] rfl)
        · have c_3 := zb_ne0.mp c_3
          refine lv_aload_n hx hb d_Bo_giveBack_16 rfl (lv_at hl 0 rfl) ?_
          refine va_get (D := κ.1) (ci := 4) (v := .ref (aA κ 17)) (C := "UnitThreads$Board") (T := T_Bo) (N := 6) hx hb hts in_Bo hown B.1 B.2.1 14 (wa_14 κ τ) rfl 2 (by decide) (hts _ w_148) (fun _ h9 => h9) rfl d_Bo_giveBack_17 ?_
          refine lv_iload_n hx hb d_Bo_giveBack_20 rfl (lv_at hl 3 rfl) ?_
          refine ziald hx hb B 17 0 (wa_17 κ τ) rfl k rfl (by omega) (by decide) d_Bo_giveBack_21 ?_
          refine lv_iload_n hx hb d_Bo_giveBack_22 rfl (lv_at hl 1 rfl) ?_
          refine lv_icmp_ne (tgt := 33) hx hb d_Bo_giveBack_23 (by decide) (fun c_4 => ?_) (fun c_4 => ?_)
          · refine lv_iinc (v := nI (k + 1)) (lv' := [(3, .int (nI (k + 1))), (0, .ref (aA κ 14)), (1, .int (p1)), (2, .int (p2))]) hx hb d_Bo_giveBack_33 hl (k := 3) rfl (zinc _) (by decide) rfl (fun ls hl => ?_)
            refine lv_goto (tgt := 2) hx hb d_Bo_giveBack_36 (by decide) ?_
            exact ih (k + 1) τ (by omega) (by rw [hst]; simp [zit, fx_give1, c_2, c_3, c_4]) _ _ B ls (lv_sub hl [1, 2, 3, 0] rfl)
          · refine lv_aload_n hx hb d_Bo_giveBack_26 rfl (lv_at hl 0 rfl) ?_
            refine va_get (D := κ.1) (ci := 4) (v := .ref (aA κ 17)) (C := "UnitThreads$Board") (T := T_Bo) (N := 6) hx hb hts in_Bo hown B.1 B.2.1 14 (wa_14 κ τ) rfl 2 (by decide) (hts _ w_148) (fun _ h9 => h9) rfl d_Bo_giveBack_27 ?_
            refine lv_iload_n hx hb d_Bo_giveBack_30 rfl (lv_at hl 3 rfl) ?_
            refine lv_iconst (v := (-1)) hx hb d_Bo_giveBack_31 (by decide) ?_
            refine ziast hx hb B 17 0 (wa_17 κ τ) rfl k rfl (by omega) (by decide) (ws_17 κ τ k (-1)) d_Bo_giveBack_32 (fun H locs B => ?_)
            have B : BA κ A s.heap s (zi τ 19 k (-1)) H locs := B
            refine lv_iinc (v := nI (k + 1)) (lv' := [(3, .int (nI (k + 1))), (0, .ref (aA κ 14)), (1, .int (p1)), (2, .int (p2))]) hx hb d_Bo_giveBack_33 hl (k := 3) rfl (zinc _) (by decide) rfl (fun ls hl => ?_)
            refine lv_goto (tgt := 2) hx hb d_Bo_giveBack_36 (by decide) ?_
            exact ih (k + 1) (zi τ 19 k (-1)) (by omega) (by rw [hst]; simp [zit, fx_give1, c_2, c_3, c_4]) _ _ B ls (lv_sub hl [1, 2, 3, 0] rfl)
  refine lv_iconst (v := nI 0) hx hb d_Bo_giveBack_0 (by decide) ?_
  refine lv_istore_n (lv' := [(3, .int (nI 0)), (0, .ref (aA κ 14)), (1, .int (p1)), (2, .int (p2))]) hx hb d_Bo_giveBack_1 rfl hl (by decide) rfl (fun ls hl => ?_)
  exact L_2 16 0 σ (by omega) rfl _ _ B ls (lv_sub hl [1, 2, 3, 0] rfl)
