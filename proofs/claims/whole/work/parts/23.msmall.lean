set_option maxHeartbeats 4000000 in
set_option maxRecDepth 100000 in
theorem c_Mo_isIn (l : Launch) (κ : KA) (σ : zS) (p0 p1 p2 : Int32) : zMi l y_Mo_isIn (zws y_Mo_isIn prog_8_method_2_code 3 (some .boolean)) ({ frames := 0, cells := 0, slots := 0, locals := 0 }) κ.1 vwCl (tysA κ) nwA (wA κ) σ [.int (p0), .int (p1), .int (p2)] (fun r σ' => r = zb (fm_in p0 p1 p2) ∧ σ' = σ) := by
  refine zintro (cc := prog_8_method_2_code) (maxL := 3) (ret := (some .boolean)) (by decide) rfl (Nat.le_of_ble_eq_true rfl) ?_
  intro p e s m below meth c ls hx hb hr hml hts hown hlocks hl B
  have hl : lv_has ls 3 [(0, .int (p0)), (1, .int (p1)), (2, .int (p2))] := hl
  have B : BA κ (va_A (wA κ σ) s.heap.size) s.heap s σ s.heap [] := B
  have hr : meth.sig.returnType = (some .boolean) := hr
  have hown : s.vm.findClass "UnitThreadsModel" = some m.cls := hown
  show W p l e (headSpec (zws y_Mo_isIn prog_8_method_2_code 3 (some .boolean)) ({ frames := 0, cells := 0, slots := 0, locals := 0 })).room s m [.int (p0), .int (p1), .int (p2)].toArray below meth c s.heap [] 0 0 (MQ below (va_Qi (fun r σ' => r = zb (fm_in p0 p1 p2) ∧ σ' = σ) (zQ κ.1 vwCl (tysA κ) (wA κ) (va_A (wA κ σ) s.heap.size)) (va_A (wA κ σ) s.heap.size)) [.int (p0), .int (p1), .int (p2)].toArray s 0 0 (va_A (wA κ σ) s.heap.size)) (F0 m 0 ls [])
  generalize va_A (wA κ σ) s.heap.size = A at B ⊢
  have hts : ∀ w ∈ zW, w.before [.int (p0), .int (p1), .int (p2)].toArray s = true := fun w h => hts w (List.mem_cons_of_mem _ h)
  refine lv_iload_n hx hb d_Mo_isIn_0 rfl (lv_at hl 0 rfl) ?_
  refine lv_iload_n hx hb d_Mo_isIn_1 rfl (lv_at hl 1 rfl) ?_
  refine lv_icmp_lt (tgt := 14) hx hb d_Mo_isIn_2 (by decide) (fun c_1 => ?_) (fun c_1 => ?_)
  · refine lv_iconst (v := 0) hx hb d_Mo_isIn_14 (by decide) ?_
    exact zret_z hx hb hr rfl hlocks B (⟨by simp [zb, fm_in, c_1], rfl⟩) d_Mo_isIn_15
  · refine lv_iload_n hx hb d_Mo_isIn_5 rfl (lv_at hl 0 rfl) ?_
    refine lv_iload_n hx hb d_Mo_isIn_6 rfl (lv_at hl 2 rfl) ?_
    refine lv_icmp_gt (tgt := 14) hx hb d_Mo_isIn_7 (by decide) (fun c_2 => ?_) (fun c_2 => ?_)
    · refine lv_iconst (v := 0) hx hb d_Mo_isIn_14 (by decide) ?_
      exact zret_z hx hb hr rfl hlocks B (⟨by simp [zb, fm_in, c_1, c_2], rfl⟩) d_Mo_isIn_15
    · refine lv_iconst (v := 1) hx hb d_Mo_isIn_10 (by decide) ?_
      refine lv_goto (tgt := 15) hx hb d_Mo_isIn_11 (by decide) ?_
      exact zret_z hx hb hr rfl hlocks B (⟨by simp [zb, fm_in, c_1, c_2], rfl⟩) d_Mo_isIn_15
set_option maxHeartbeats 4000000 in
set_option maxRecDepth 100000 in
theorem c_Mo_isUnit (l : Launch) (κ : KA) (σ : zS) (p1 : Int32) : zMi l y_Mo_isUnit (zws y_Mo_isUnit prog_8_method_3_code 2 (some .boolean)) ({ frames := 1, cells := 0, slots := 0, locals := 22 }) κ.1 vwCl (tysA κ) nwA (wA κ) σ [.ref (aA κ 21), .int (p1)] (fun r σ' => r = zb (fm_isUnit (nA κ) p1) ∧ σ' = σ) := by
  refine zintro (cc := prog_8_method_3_code) (maxL := 2) (ret := (some .boolean)) (by decide) rfl (Nat.le_of_ble_eq_true rfl) ?_
  intro p e s m below meth c ls hx hb hr hml hts hown hlocks hl B
  have hl : lv_has ls 2 [(0, .ref (aA κ 21)), (1, .int (p1))] := hl
  have B : BA κ (va_A (wA κ σ) s.heap.size) s.heap s σ s.heap [] := B
  have hr : meth.sig.returnType = (some .boolean) := hr
  have hown : s.vm.findClass "UnitThreadsModel" = some m.cls := hown
  show W p l e (headSpec (zws y_Mo_isUnit prog_8_method_3_code 2 (some .boolean)) ({ frames := 1, cells := 0, slots := 0, locals := 22 })).room s m [.ref (aA κ 21), .int (p1)].toArray below meth c s.heap [] 0 0 (MQ below (va_Qi (fun r σ' => r = zb (fm_isUnit (nA κ) p1) ∧ σ' = σ) (zQ κ.1 vwCl (tysA κ) (wA κ) (va_A (wA κ σ) s.heap.size)) (va_A (wA κ σ) s.heap.size)) [.ref (aA κ 21), .int (p1)].toArray s 0 0 (va_A (wA κ σ) s.heap.size)) (F0 m 0 ls [])
  generalize va_A (wA κ σ) s.heap.size = A at B ⊢
  have hts : ∀ w ∈ zW, w.before [.ref (aA κ 21), .int (p1)].toArray s = true := fun w h => hts w (List.mem_cons_of_mem _ h)
  refine lv_iload_n hx hb d_Mo_isUnit_0 rfl (lv_at hl 1 rfl) ?_
  refine lv_iconst (v := 0) hx hb d_Mo_isUnit_1 (by decide) ?_
  refine lv_aload_n hx hb d_Mo_isUnit_2 rfl (lv_at hl 0 rfl) ?_
  refine va_get (D := κ.1) (ci := 6) (v := .int (nI (nA κ))) (C := "UnitThreadsModel") (T := T_Mo) (N := 26) hx hb hts in_Mo hown B.1 B.2.1 21 (wa_21 κ σ) rfl 0 (by decide) (hts _ w_408) (fun _ h9 => h9) rfl d_Mo_isUnit_3 ?_
  refine lv_iconst (v := 1) hx hb d_Mo_isUnit_6 (by decide) ?_
  refine lv_isub hx hb d_Mo_isUnit_7 ?_
  refine zcS_i (As := [.int (p1), .int (0), .int ((nI (nA κ)) - 1)]) (rest := []) ⟨hx, hb, hml, hown, hts⟩ (c_Mo_isIn l κ σ p1 0 ((nI (nA κ)) - 1) ) (cwS 3 hts (zgoodS w_496 w_497 w_9 w_498) rfl rfl rfl (by decide +kernel) ⟨Nat.le_of_ble_eq_true rfl, Nat.le_of_ble_eq_true rfl⟩) B rfl hl.1 rfl (Nat.le_of_ble_eq_true rfl) d_Mo_isUnit_8 ⟨Nat.zero_le _, Nat.zero_le _⟩ (fun r σ' H locs hp B => ?_)
  obtain ⟨rfl, hp⟩ := hp
  rw [hp] at B
  have B : BA κ A s.heap s σ H locs := B
  exact zret_z hx hb hr (zb_nar _) hlocks B (⟨rfl, rfl⟩) d_Mo_isUnit_11
set_option maxHeartbeats 4000000 in
set_option maxRecDepth 100000 in
theorem c_Mo_isOpen (l : Launch) (κ : KA) (σ : zS) (u : Nat) (p2 : Int32) (hu : u < nA κ) (hn : nA κ ≤ 8) : zMi l y_Mo_isOpen (zws y_Mo_isOpen prog_8_method_4_code 3 (some .boolean)) ({ frames := 0, cells := 0, slots := 0, locals := 0 }) κ.1 vwCl (tysA κ) nwA (wA κ) σ [.ref (aA κ 21), .int (nI u), .int (p2)] (fun r σ' => r = zb (fm_isOpen σ u p2) ∧ σ' = σ) := by
  refine zintro (cc := prog_8_method_4_code) (maxL := 3) (ret := (some .boolean)) (by decide) rfl (Nat.le_of_ble_eq_true rfl) ?_
  intro p e s m below meth c ls hx hb hr hml hts hown hlocks hl B
  have hl : lv_has ls 3 [(0, .ref (aA κ 21)), (1, .int (nI u)), (2, .int (p2))] := hl
  have B : BA κ (va_A (wA κ σ) s.heap.size) s.heap s σ s.heap [] := B
  have hr : meth.sig.returnType = (some .boolean) := hr
  have hown : s.vm.findClass "UnitThreadsModel" = some m.cls := hown
  show W p l e (headSpec (zws y_Mo_isOpen prog_8_method_4_code 3 (some .boolean)) ({ frames := 0, cells := 0, slots := 0, locals := 0 })).room s m [.ref (aA κ 21), .int (nI u), .int (p2)].toArray below meth c s.heap [] 0 0 (MQ below (va_Qi (fun r σ' => r = zb (fm_isOpen σ u p2) ∧ σ' = σ) (zQ κ.1 vwCl (tysA κ) (wA κ) (va_A (wA κ σ) s.heap.size)) (va_A (wA κ σ) s.heap.size)) [.ref (aA κ 21), .int (nI u), .int (p2)].toArray s 0 0 (va_A (wA κ σ) s.heap.size)) (F0 m 0 ls [])
  generalize va_A (wA κ σ) s.heap.size = A at B ⊢
  have hts : ∀ w ∈ zW, w.before [.ref (aA κ 21), .int (nI u), .int (p2)].toArray s = true := fun w h => hts w (List.mem_cons_of_mem _ h)
  refine lv_aload_n hx hb d_Mo_isOpen_0 rfl (lv_at hl 0 rfl) ?_
  refine va_get (D := κ.1) (ci := 6) (v := .int (σ.1 25 0)) (C := "UnitThreadsModel") (T := T_Mo) (N := 26) hx hb hts in_Mo hown B.1 B.2.1 21 (wa_21 κ σ) rfl 1 (by decide) (hts _ w_409) (fun _ h9 => h9) rfl d_Mo_isOpen_1 ?_
  refine lv_if_ne (tgt := 31) hx hb d_Mo_isOpen_4 (by decide) (fun c_1 => ?_) (fun c_1 => ?_)
  · refine lv_iconst (v := 0) hx hb d_Mo_isOpen_31 (by decide) ?_
    exact zret_z hx hb hr rfl hlocks B (⟨by simp [zb, fm_isOpen, c_1], rfl⟩) d_Mo_isOpen_32
  · refine lv_iload_n hx hb d_Mo_isOpen_7 rfl (lv_at hl 2 rfl) ?_
    refine lv_aload_n hx hb d_Mo_isOpen_8 rfl (lv_at hl 0 rfl) ?_
    refine va_get (D := κ.1) (ci := 6) (v := .ref (aA κ 33)) (C := "UnitThreadsModel") (T := T_Mo) (N := 26) hx hb hts in_Mo hown B.1 B.2.1 21 (wa_21 κ σ) rfl 15 (by decide) (hts _ w_423) (fun _ h9 => h9) rfl d_Mo_isOpen_9 ?_
    refine lv_iload_n hx hb d_Mo_isOpen_12 rfl (lv_at hl 1 rfl) ?_
    refine ziald hx hb B 33 0 (wa_33 κ σ) rfl u rfl (by omega) (by decide) d_Mo_isOpen_13 ?_
    refine lv_icmp_lt (tgt := 31) hx hb d_Mo_isOpen_14 (by decide) (fun c_2 => ?_) (fun c_2 => ?_)
    · refine lv_iconst (v := 0) hx hb d_Mo_isOpen_31 (by decide) ?_
      exact zret_z hx hb hr rfl hlocks B (⟨by simp [zb, fm_isOpen, c_1, c_2], rfl⟩) d_Mo_isOpen_32
    · refine lv_aload_n hx hb d_Mo_isOpen_17 rfl (lv_at hl 0 rfl) ?_
      refine va_get (D := κ.1) (ci := 6) (v := .int (σ.1 34 0)) (C := "UnitThreadsModel") (T := T_Mo) (N := 26) hx hb hts in_Mo hown B.1 B.2.1 21 (wa_21 κ σ) rfl 14 (by decide) (hts _ w_422) (fun _ h9 => h9) rfl d_Mo_isOpen_18 ?_
      refine lv_sipush (v := 300) hx hb d_Mo_isOpen_21 (by decide) ?_
      refine lv_icmp_ge (tgt := 31) hx hb d_Mo_isOpen_24 (by decide) (fun c_3 => ?_) (fun c_3 => ?_)
      · refine lv_iconst (v := 0) hx hb d_Mo_isOpen_31 (by decide) ?_
        exact zret_z hx hb hr rfl hlocks B (⟨by simp [zb, fm_isOpen, c_1, c_2, c_3], rfl⟩) d_Mo_isOpen_32
      · refine lv_iconst (v := 1) hx hb d_Mo_isOpen_27 (by decide) ?_
        refine lv_goto (tgt := 32) hx hb d_Mo_isOpen_28 (by decide) ?_
        exact zret_z hx hb hr rfl hlocks B (⟨by simp [zb, fm_isOpen, c_1, c_2, c_3], rfl⟩) d_Mo_isOpen_32
set_option maxHeartbeats 4000000 in
set_option maxRecDepth 100000 in
theorem c_Mo_add (l : Launch) (κ : KA) (σ : zS) (p1 p2 p3 p4 : Int32) (v : Int64) (E : Nat) (hE : σ.1 34 0 = nI E) (hlt : E < 300) : zMi l y_Mo_add (zws y_Mo_add prog_8_method_5_code 7 (some .boolean)) ({ frames := 0, cells := 0, slots := 0, locals := 0 }) κ.1 vwCl (tysA κ) nwA (wA κ) σ [.ref (aA κ 21), .int (p1), .int (p2), .int (p3), .int (p4), .long (v)] (fun r σ' => r = 1 ∧ σ' = fm_add σ E p1 p2 p3 p4 v) := by
  refine zintro (cc := prog_8_method_5_code) (maxL := 7) (ret := (some .boolean)) (by decide) rfl (Nat.le_of_ble_eq_true rfl) ?_
  intro p e s m below meth c ls hx hb hr hml hts hown hlocks hl B
  have hl : lv_has ls 7 [(0, .ref (aA κ 21)), (1, .int (p1)), (2, .int (p2)), (3, .int (p3)), (4, .int (p4)), (5, .long (v))] := hl
  have B : BA κ (va_A (wA κ σ) s.heap.size) s.heap s σ s.heap [] := B
  have hr : meth.sig.returnType = (some .boolean) := hr
  have hown : s.vm.findClass "UnitThreadsModel" = some m.cls := hown
  show W p l e (headSpec (zws y_Mo_add prog_8_method_5_code 7 (some .boolean)) ({ frames := 0, cells := 0, slots := 0, locals := 0 })).room s m [.ref (aA κ 21), .int (p1), .int (p2), .int (p3), .int (p4), .long (v)].toArray below meth c s.heap [] 0 0 (MQ below (va_Qi (fun r σ' => r = 1 ∧ σ' = fm_add σ E p1 p2 p3 p4 v) (zQ κ.1 vwCl (tysA κ) (wA κ) (va_A (wA κ σ) s.heap.size)) (va_A (wA κ σ) s.heap.size)) [.ref (aA κ 21), .int (p1), .int (p2), .int (p3), .int (p4), .long (v)].toArray s 0 0 (va_A (wA κ σ) s.heap.size)) (F0 m 0 ls [])
  generalize va_A (wA κ σ) s.heap.size = A at B ⊢
  have hts : ∀ w ∈ zW, w.before [.ref (aA κ 21), .int (p1), .int (p2), .int (p3), .int (p4), .long (v)].toArray s = true := fun w h => hts w (List.mem_cons_of_mem _ h)
  refine lv_aload_n hx hb d_Mo_add_0 rfl (lv_at hl 0 rfl) ?_
  refine va_get (D := κ.1) (ci := 6) (v := .ref (aA κ 28)) (C := "UnitThreadsModel") (T := T_Mo) (N := 26) hx hb hts in_Mo hown B.1 B.2.1 21 (wa_21 κ σ) rfl 9 (by decide) (hts _ w_417) (fun _ h9 => h9) rfl d_Mo_add_1 ?_
  refine lv_aload_n hx hb d_Mo_add_4 rfl (lv_at hl 0 rfl) ?_
  refine va_get (D := κ.1) (ci := 6) (v := .int (σ.1 34 0)) (C := "UnitThreadsModel") (T := T_Mo) (N := 26) hx hb hts in_Mo hown B.1 B.2.1 21 (wa_21 κ σ) rfl 14 (by decide) (hts _ w_422) (fun _ h9 => h9) rfl d_Mo_add_5 ?_
  refine zrwi (y := nI E) (hE) ?_
  refine lv_iload_n hx hb d_Mo_add_8 rfl (lv_at hl 1 rfl) ?_
  refine ziast hx hb B 28 0 (wa_28 κ σ) rfl E rfl (by omega) (by decide) (ws_28 κ σ E p1) d_Mo_add_9 (fun H locs B => ?_)
  have B : BA κ A s.heap s (zi σ 30 E p1) H locs := B
  refine lv_aload_n hx hb d_Mo_add_10 rfl (lv_at hl 0 rfl) ?_
  refine va_get (D := κ.1) (ci := 6) (v := .ref (aA κ 29)) (C := "UnitThreadsModel") (T := T_Mo) (N := 26) hx hb hts in_Mo hown B.1 B.2.1 21 (wa_21 κ (zi σ 30 E p1)) rfl 10 (by decide) (hts _ w_418) (fun _ h9 => h9) rfl d_Mo_add_11 ?_
  refine lv_aload_n hx hb d_Mo_add_14 rfl (lv_at hl 0 rfl) ?_
  refine va_get (D := κ.1) (ci := 6) (v := .int ((zi σ 30 E p1).1 34 0)) (C := "UnitThreadsModel") (T := T_Mo) (N := 26) hx hb hts in_Mo hown B.1 B.2.1 21 (wa_21 κ (zi σ 30 E p1)) rfl 14 (by decide) (hts _ w_422) (fun _ h9 => h9) rfl d_Mo_add_15 ?_
  refine zrwi (y := σ.1 34 0) (by rw [zi_nf _ _ (by decide : 34 ≠ 30)]) ?_
  refine zrwi (y := nI E) (hE) ?_
  refine lv_iload_n hx hb d_Mo_add_18 rfl (lv_at hl 2 rfl) ?_
  refine ziast hx hb B 29 0 (wa_29 κ (zi σ 30 E p1)) rfl E rfl (by omega) (by decide) (ws_29 κ (zi σ 30 E p1) E p2) d_Mo_add_19 (fun H locs B => ?_)
  have B : BA κ A s.heap s (zi (zi σ 30 E p1) 31 E p2) H locs := B
  refine lv_aload_n hx hb d_Mo_add_20 rfl (lv_at hl 0 rfl) ?_
  refine va_get (D := κ.1) (ci := 6) (v := .ref (aA κ 30)) (C := "UnitThreadsModel") (T := T_Mo) (N := 26) hx hb hts in_Mo hown B.1 B.2.1 21 (wa_21 κ (zi (zi σ 30 E p1) 31 E p2)) rfl 11 (by decide) (hts _ w_419) (fun _ h9 => h9) rfl d_Mo_add_21 ?_
  refine lv_aload_n hx hb d_Mo_add_24 rfl (lv_at hl 0 rfl) ?_
  refine va_get (D := κ.1) (ci := 6) (v := .int ((zi (zi σ 30 E p1) 31 E p2).1 34 0)) (C := "UnitThreadsModel") (T := T_Mo) (N := 26) hx hb hts in_Mo hown B.1 B.2.1 21 (wa_21 κ (zi (zi σ 30 E p1) 31 E p2)) rfl 14 (by decide) (hts _ w_422) (fun _ h9 => h9) rfl d_Mo_add_25 ?_
  refine zrwi (y := σ.1 34 0) (by rw [zi_nf _ _ (by decide : 34 ≠ 31), zi_nf _ _ (by decide : 34 ≠ 30)]) ?_
  refine zrwi (y := nI E) (hE) ?_
  refine lv_iload_n hx hb d_Mo_add_28 rfl (lv_at hl 3 rfl) ?_
  refine ziast hx hb B 30 0 (wa_30 κ (zi (zi σ 30 E p1) 31 E p2)) rfl E rfl (by omega) (by decide) (ws_30 κ (zi (zi σ 30 E p1) 31 E p2) E p3) d_Mo_add_29 (fun H locs B => ?_)
  have B : BA κ A s.heap s (zi (zi (zi σ 30 E p1) 31 E p2) 32 E p3) H locs := B
  refine lv_aload_n hx hb d_Mo_add_30 rfl (lv_at hl 0 rfl) ?_
  refine va_get (D := κ.1) (ci := 6) (v := .ref (aA κ 31)) (C := "UnitThreadsModel") (T := T_Mo) (N := 26) hx hb hts in_Mo hown B.1 B.2.1 21 (wa_21 κ (zi (zi (zi σ 30 E p1) 31 E p2) 32 E p3)) rfl 12 (by decide) (hts _ w_420) (fun _ h9 => h9) rfl d_Mo_add_31 ?_
  refine lv_aload_n hx hb d_Mo_add_34 rfl (lv_at hl 0 rfl) ?_
  refine va_get (D := κ.1) (ci := 6) (v := .int ((zi (zi (zi σ 30 E p1) 31 E p2) 32 E p3).1 34 0)) (C := "UnitThreadsModel") (T := T_Mo) (N := 26) hx hb hts in_Mo hown B.1 B.2.1 21 (wa_21 κ (zi (zi (zi σ 30 E p1) 31 E p2) 32 E p3)) rfl 14 (by decide) (hts _ w_422) (fun _ h9 => h9) rfl d_Mo_add_35 ?_
  refine zrwi (y := σ.1 34 0) (by rw [zi_nf _ _ (by decide : 34 ≠ 32), zi_nf _ _ (by decide : 34 ≠ 31), zi_nf _ _ (by decide : 34 ≠ 30)]) ?_
  refine zrwi (y := nI E) (hE) ?_
  refine lv_iload hx hb d_Mo_add_38 (lv_at hl 4 rfl) ?_
  refine ziast hx hb B 31 0 (wa_31 κ (zi (zi (zi σ 30 E p1) 31 E p2) 32 E p3)) rfl E rfl (by omega) (by decide) (ws_31 κ (zi (zi (zi σ 30 E p1) 31 E p2) 32 E p3) E p4) d_Mo_add_40 (fun H locs B => ?_)
  have B : BA κ A s.heap s (zi (zi (zi (zi σ 30 E p1) 31 E p2) 32 E p3) 33 E p4) H locs := B
  refine lv_aload_n hx hb d_Mo_add_41 rfl (lv_at hl 0 rfl) ?_
  refine va_get (D := κ.1) (ci := 6) (v := .ref (aA κ 32)) (C := "UnitThreadsModel") (T := T_Mo) (N := 26) hx hb hts in_Mo hown B.1 B.2.1 21 (wa_21 κ (zi (zi (zi (zi σ 30 E p1) 31 E p2) 32 E p3) 33 E p4)) rfl 13 (by decide) (hts _ w_421) (fun _ h9 => h9) rfl d_Mo_add_42 ?_
  refine lv_aload_n hx hb d_Mo_add_45 rfl (lv_at hl 0 rfl) ?_
  refine va_get (D := κ.1) (ci := 6) (v := .int ((zi (zi (zi (zi σ 30 E p1) 31 E p2) 32 E p3) 33 E p4).1 34 0)) (C := "UnitThreadsModel") (T := T_Mo) (N := 26) hx hb hts in_Mo hown B.1 B.2.1 21 (wa_21 κ (zi (zi (zi (zi σ 30 E p1) 31 E p2) 32 E p3) 33 E p4)) rfl 14 (by decide) (hts _ w_422) (fun _ h9 => h9) rfl d_Mo_add_46 ?_
  refine zrwi (y := σ.1 34 0) (by rw [zi_nf _ _ (by decide : 34 ≠ 33), zi_nf _ _ (by decide : 34 ≠ 32), zi_nf _ _ (by decide : 34 ≠ 31), zi_nf _ _ (by decide : 34 ≠ 30)]) ?_
  refine zrwi (y := nI E) (hE) ?_
  refine lv_lload hx hb d_Mo_add_49 (lv_at hl 5 rfl) ?_
  refine zlast hx hb B 32 1 (wa_32 κ (zi (zi (zi (zi σ 30 E p1) 31 E p2) 32 E p3) 33 E p4)) rfl E rfl (by omega) (by decide) (ws_32 κ (zi (zi (zi (zi σ 30 E p1) 31 E p2) 32 E p3) 33 E p4) E v) d_Mo_add_51 (fun H locs B => ?_)
  have B : BA κ A s.heap s (zl (zi (zi (zi (zi σ 30 E p1) 31 E p2) 32 E p3) 33 E p4) 8 E v) H locs := B
  refine lv_aload_n hx hb d_Mo_add_52 rfl (lv_at hl 0 rfl) ?_
  refine lv_dup hx hb d_Mo_add_53 rfl ?_
  refine va_get (D := κ.1) (ci := 6) (v := .int ((zl (zi (zi (zi (zi σ 30 E p1) 31 E p2) 32 E p3) 33 E p4) 8 E v).1 34 0)) (C := "UnitThreadsModel") (T := T_Mo) (N := 26) hx hb hts in_Mo hown B.1 B.2.1 21 (wa_21 κ (zl (zi (zi (zi (zi σ 30 E p1) 31 E p2) 32 E p3) 33 E p4) 8 E v)) rfl 14 (by decide) (hts _ w_422) (fun _ h9 => h9) rfl d_Mo_add_54 ?_
  refine zrwi (y := σ.1 34 0) (by rw [zl_1, zi_nf _ _ (by decide : 34 ≠ 33), zi_nf _ _ (by decide : 34 ≠ 32), zi_nf _ _ (by decide : 34 ≠ 31), zi_nf _ _ (by decide : 34 ≠ 30)]) ?_
  refine zrwi (y := nI E) (hE) ?_
  refine lv_iconst (v := 1) hx hb d_Mo_add_57 (by decide) ?_
  refine lv_iadd hx hb d_Mo_add_58 ?_
  refine zrwi (y := nI (E + 1)) (nI_1 _) ?_
  refine zput (ci := 6) (v := .int (nI (E + 1))) (ty := .int) (C := "UnitThreadsModel") (T := T_Mo) (N := 26) hx hb hts in_Mo ty_Mo tyok_Mo nm_Mo hown B 21 (wa_21 κ (zl (zi (zi (zi (zi σ 30 E p1) 31 E p2) 32 E p3) 33 E p4) 8 E v)) rfl 14 (by decide) (hts _ w_422) (fun _ h9 => h9) rfl (by decide +kernel) rfl rfl (Nat.le_of_ble_eq_true rfl) (wp_21_14 κ (zl (zi (zi (zi (zi σ 30 E p1) 31 E p2) 32 E p3) 33 E p4) 8 E v) (nI (E + 1))) d_Mo_add_59 (fun H locs B => ?_)
  have B : BA κ A s.heap s (zi (zl (zi (zi (zi (zi σ 30 E p1) 31 E p2) 32 E p3) 33 E p4) 8 E v) 34 0 (nI (E + 1))) H locs := B
  refine lv_iconst (v := 1) hx hb d_Mo_add_62 (by decide) ?_
  exact zret_z hx hb hr rfl hlocks B (⟨rfl, rfl⟩) d_Mo_add_63
set_option maxHeartbeats 4000000 in
set_option maxRecDepth 100000 in
theorem c_Mo_find (l : Launch) (κ : KA) (σ : zS) (p1 p2 p3 p4 : Int32) (E : Nat) (hE : σ.1 34 0 = nI E) (hE3 : E ≤ 300) : zMi l y_Mo_find (zws y_Mo_find prog_8_method_6_code 6 (some .int)) ({ frames := 0, cells := 0, slots := 0, locals := 0 }) κ.1 vwCl (tysA κ) nwA (wA κ) σ [.ref (aA κ 21), .int (p1), .int (p2), .int (p3), .int (p4)] (fun r σ' => r = fm_find σ p1 p2 p3 p4 E 0 ∧ σ' = σ) := by
  refine zintro (cc := prog_8_method_6_code) (maxL := 6) (ret := (some .int)) (by decide) rfl (Nat.le_of_ble_eq_true rfl) ?_
  intro p e s m below meth c ls hx hb hr hml hts hown hlocks hl B
  have hl : lv_has ls 6 [(0, .ref (aA κ 21)), (1, .int (p1)), (2, .int (p2)), (3, .int (p3)), (4, .int (p4))] := hl
  have B : BA κ (va_A (wA κ σ) s.heap.size) s.heap s σ s.heap [] := B
  have hr : meth.sig.returnType = (some .int) := hr
  have hown : s.vm.findClass "UnitThreadsModel" = some m.cls := hown
  show W p l e (headSpec (zws y_Mo_find prog_8_method_6_code 6 (some .int)) ({ frames := 0, cells := 0, slots := 0, locals := 0 })).room s m [.ref (aA κ 21), .int (p1), .int (p2), .int (p3), .int (p4)].toArray below meth c s.heap [] 0 0 (MQ below (va_Qi (fun r σ' => r = fm_find σ p1 p2 p3 p4 E 0 ∧ σ' = σ) (zQ κ.1 vwCl (tysA κ) (wA κ) (va_A (wA κ σ) s.heap.size)) (va_A (wA κ σ) s.heap.size)) [.ref (aA κ 21), .int (p1), .int (p2), .int (p3), .int (p4)].toArray s 0 0 (va_A (wA κ σ) s.heap.size)) (F0 m 0 ls [])
  generalize va_A (wA κ σ) s.heap.size = A at B ⊢
  have hts : ∀ w ∈ zW, w.before [.ref (aA κ 21), .int (p1), .int (p2), .int (p3), .int (p4)].toArray s = true := fun w h => hts w (List.mem_cons_of_mem _ h)
  have L_3 : ∀ (j : Nat) (k : Nat), (k + j = E) → (fm_find σ p1 p2 p3 p4 E 0 = fm_find σ p1 p2 p3 p4 j k) → ∀ (H : Heap) (locs : List Loc), BA κ A s.heap s σ H locs → ∀ (ls : Array Slot), lv_has ls 6 [(0, .ref (aA κ 21)), (1, .int (p1)), (2, .int (p2)), (3, .int (p3)), (4, .int (p4)), (5, .int (nI k))] → W p l e (headSpec (zws y_Mo_find prog_8_method_6_code 6 (some .int)) ({ frames := 0, cells := 0, slots := 0, locals := 0 })).room s m [.ref (aA κ 21), .int (p1), .int (p2), .int (p3), .int (p4)].toArray below meth c H locs 0 0 (MQ below (va_Qi (fun r σ' => r = fm_find σ p1 p2 p3 p4 E 0 ∧ σ' = σ) (zQ κ.1 vwCl (tysA κ) (wA κ) A) A) [.ref (aA κ 21), .int (p1), .int (p2), .int (p3), .int (p4)].toArray s 0 0 A) (F0 m 3 ls []) := by
    intro j
    induction j with
    | zero =>
      intro k hj hst H locs B ls hl
      refine lv_iload hx hb d_Mo_find_3 (lv_at hl 5 rfl) ?_
      refine lv_aload_n hx hb d_Mo_find_5 rfl (lv_at hl 0 rfl) ?_
      refine va_get (D := κ.1) (ci := 6) (v := .int (σ.1 34 0)) (C := "UnitThreadsModel") (T := T_Mo) (N := 26) hx hb hts in_Mo hown B.1 B.2.1 21 (wa_21 κ σ) rfl 14 (by decide) (hts _ w_422) (fun _ h9 => h9) rfl d_Mo_find_6 ?_
      refine zrwi (y := nI E) (hE) ?_
      refine lv_icmp_ge (tgt := 72) hx hb d_Mo_find_9 (by decide) (fun c_1 => ?_) (fun c_1 => ?_)
      · have c_1 := (nI_leI (a := E) (b := k) (by omega) (by omega)).mp c_1
        refine lv_iconst (v := (-1)) hx hb d_Mo_find_72 (by decide) ?_
        exact zret_i hx hb hr hlocks B (⟨by rw [hst]; simp [fm_find, c_1], rfl⟩) d_Mo_find_73
      · have c_1 := (not_congr (nI_leI (a := E) (b := k) (by omega) (by omega))).mp c_1
        exact absurd c_1 (by omega)
    | succ j ih =>
      intro k hj hst H locs B ls hl
      refine lv_iload hx hb d_Mo_find_3 (lv_at hl 5 rfl) ?_
      refine lv_aload_n hx hb d_Mo_find_5 rfl (lv_at hl 0 rfl) ?_
      refine va_get (D := κ.1) (ci := 6) (v := .int (σ.1 34 0)) (C := "UnitThreadsModel") (T := T_Mo) (N := 26) hx hb hts in_Mo hown B.1 B.2.1 21 (wa_21 κ σ) rfl 14 (by decide) (hts _ w_422) (fun _ h9 => h9) rfl d_Mo_find_6 ?_
      refine zrwi (y := nI E) (hE) ?_
      refine lv_icmp_ge (tgt := 72) hx hb d_Mo_find_9 (by decide) (fun c_2 => ?_) (fun c_2 => ?_)
      · have c_2 := (nI_leI (a := E) (b := k) (by omega) (by omega)).mp c_2
        exact absurd c_2 (by omega)
      · have c_2 := (not_congr (nI_leI (a := E) (b := k) (by omega) (by omega))).mp c_2
        refine lv_aload_n hx hb d_Mo_find_12 rfl (lv_at hl 0 rfl) ?_
        refine va_get (D := κ.1) (ci := 6) (v := .ref (aA κ 28)) (C := "UnitThreadsModel") (T := T_Mo) (N := 26) hx hb hts in_Mo hown B.1 B.2.1 21 (wa_21 κ σ) rfl 9 (by decide) (hts _ w_417) (fun _ h9 => h9) rfl d_Mo_find_13 ?_
        refine lv_iload hx hb d_Mo_find_16 (lv_at hl 5 rfl) ?_
        refine ziald hx hb B 28 0 (wa_28 κ σ) rfl k rfl (by omega) (by decide) d_Mo_find_18 ?_
        refine lv_iload_n hx hb d_Mo_find_19 rfl (lv_at hl 1 rfl) ?_
        refine lv_icmp_ne (tgt := 66) hx hb d_Mo_find_20 (by decide) (fun c_3 => ?_) (fun c_3 => ?_)
        · refine lv_iinc (v := nI (k + 1)) (lv' := [(5, .int (nI (k + 1))), (0, .ref (aA κ 21)), (1, .int (p1)), (2, .int (p2)), (3, .int (p3)), (4, .int (p4))]) hx hb d_Mo_find_66 hl (k := 5) rfl (zinc _) (by decide) rfl (fun ls hl => ?_)
          refine lv_goto (tgt := 3) hx hb d_Mo_find_69 (by decide) ?_
          exact ih (k + 1) (by omega) (by rw [hst]; simp [fm_find, c_2, c_3]) _ _ B ls (lv_sub hl [1, 2, 3, 4, 5, 0] rfl)
        · refine lv_aload_n hx hb d_Mo_find_23 rfl (lv_at hl 0 rfl) ?_
          refine va_get (D := κ.1) (ci := 6) (v := .ref (aA κ 29)) (C := "UnitThreadsModel") (T := T_Mo) (N := 26) hx hb hts in_Mo hown B.1 B.2.1 21 (wa_21 κ σ) rfl 10 (by decide) (hts _ w_418) (fun _ h9 => h9) rfl d_Mo_find_24 ?_
          refine lv_iload hx hb d_Mo_find_27 (lv_at hl 5 rfl) ?_
          refine ziald hx hb B 29 0 (wa_29 κ σ) rfl k rfl (by omega) (by decide) d_Mo_find_29 ?_
          refine lv_iload_n hx hb d_Mo_find_30 rfl (lv_at hl 2 rfl) ?_
          refine lv_icmp_ne (tgt := 66) hx hb d_Mo_find_31 (by decide) (fun c_4 => ?_) (fun c_4 => ?_)
          · refine lv_iinc (v := nI (k + 1)) (lv' := [(5, .int (nI (k + 1))), (0, .ref (aA κ 21)), (1, .int (p1)), (2, .int (p2)), (3, .int (p3)), (4, .int (p4))]) hx hb d_Mo_find_66 hl (k := 5) rfl (zinc _) (by decide) rfl (fun ls hl => ?_)
            refine lv_goto (tgt := 3) hx hb d_Mo_find_69 (by decide) ?_
            exact ih (k + 1) (by omega) (by rw [hst]; simp [fm_find, c_2, c_3, c_4]) _ _ B ls (lv_sub hl [1, 2, 3, 4, 5, 0] rfl)
          · refine lv_aload_n hx hb d_Mo_find_34 rfl (lv_at hl 0 rfl) ?_
            refine va_get (D := κ.1) (ci := 6) (v := .ref (aA κ 30)) (C := "UnitThreadsModel") (T := T_Mo) (N := 26) hx hb hts in_Mo hown B.1 B.2.1 21 (wa_21 κ σ) rfl 11 (by decide) (hts _ w_419) (fun _ h9 => h9) rfl d_Mo_find_35 ?_
            refine lv_iload hx hb d_Mo_find_38 (lv_at hl 5 rfl) ?_
            refine ziald hx hb B 30 0 (wa_30 κ σ) rfl k rfl (by omega) (by decide) d_Mo_find_40 ?_
            refine lv_iload_n hx hb d_Mo_find_41 rfl (lv_at hl 3 rfl) ?_
            refine lv_icmp_ne (tgt := 66) hx hb d_Mo_find_42 (by decide) (fun c_5 => ?_) (fun c_5 => ?_)
            · refine lv_iinc (v := nI (k + 1)) (lv' := [(5, .int (nI (k + 1))), (0, .ref (aA κ 21)), (1, .int (p1)), (2, .int (p2)), (3, .int (p3)), (4, .int (p4))]) hx hb d_Mo_find_66 hl (k := 5) rfl (zinc _) (by decide) rfl (fun ls hl => ?_)
              refine lv_goto (tgt := 3) hx hb d_Mo_find_69 (by decide) ?_
              exact ih (k + 1) (by omega) (by rw [hst]; simp [fm_find, c_2, c_3, c_4, c_5]) _ _ B ls (lv_sub hl [1, 2, 3, 4, 5, 0] rfl)
            · refine lv_iload hx hb d_Mo_find_45 (lv_at hl 4 rfl) ?_
              refine lv_iconst (v := (-1)) hx hb d_Mo_find_47 (by decide) ?_
              refine lv_icmp_eq (tgt := 63) hx hb d_Mo_find_48 (by decide) (fun c_6 => ?_) (fun c_6 => ?_)
              · refine lv_iload hx hb d_Mo_find_63 (lv_at hl 5 rfl) ?_
                exact zret_i hx hb hr hlocks B (⟨by rw [hst]; simp [fm_find, c_2, c_3, c_4, c_5, c_6], rfl⟩) d_Mo_find_65
              · refine lv_aload_n hx hb d_Mo_find_51 rfl (lv_at hl 0 rfl) ?_
                refine va_get (D := κ.1) (ci := 6) (v := .ref (aA κ 31)) (C := "UnitThreadsModel") (T := T_Mo) (N := 26) hx hb hts in_Mo hown B.1 B.2.1 21 (wa_21 κ σ) rfl 12 (by decide) (hts _ w_420) (fun _ h9 => h9) rfl d_Mo_find_52 ?_
                refine lv_iload hx hb d_Mo_find_55 (lv_at hl 5 rfl) ?_
                refine ziald hx hb B 31 0 (wa_31 κ σ) rfl k rfl (by omega) (by decide) d_Mo_find_57 ?_
                refine lv_iload hx hb d_Mo_find_58 (lv_at hl 4 rfl) ?_
                refine lv_icmp_ne (tgt := 66) hx hb d_Mo_find_60 (by decide) (fun c_7 => ?_) (fun c_7 => ?_)
                · refine lv_iinc (v := nI (k + 1)) (lv' := [(5, .int (nI (k + 1))), (0, .ref (aA κ 21)), (1, .int (p1)), (2, .int (p2)), (3, .int (p3)), (4, .int (p4))]) hx hb d_Mo_find_66 hl (k := 5) rfl (zinc _) (by decide) rfl (fun ls hl => ?_)
                  refine lv_goto (tgt := 3) hx hb d_Mo_find_69 (by decide) ?_
                  exact ih (k + 1) (by omega) (by rw [hst]; simp [fm_find, c_2, c_3, c_4, c_5, c_6, c_7]) _ _ B ls (lv_sub hl [1, 2, 3, 4, 5, 0] rfl)
                · refine lv_iload hx hb d_Mo_find_63 (lv_at hl 5 rfl) ?_
                  exact zret_i hx hb hr hlocks B (⟨by rw [hst]; simp [fm_find, c_2, c_3, c_4, c_5, c_6, c_7], rfl⟩) d_Mo_find_65
  refine lv_iconst (v := nI 0) hx hb d_Mo_find_0 (by decide) ?_
  refine lv_istore (lv' := [(5, .int (nI 0)), (0, .ref (aA κ 21)), (1, .int (p1)), (2, .int (p2)), (3, .int (p3)), (4, .int (p4))]) hx hb d_Mo_find_1 hl (by decide) rfl (fun ls hl => ?_)
  exact L_3 E 0 (by omega) rfl _ _ B ls (lv_sub hl [1, 2, 3, 4, 5, 0] rfl)
set_option maxHeartbeats 4000000 in
set_option maxRecDepth 100000 in
theorem c_Mo_step (l : Launch) (κ : KA) (σ : zS) (p1 p2 p3 : Int32) (v : Int64) (hn : nA κ ≤ 8) (E : Nat) (hE : σ.1 34 0 = nI E) (hE3 : E ≤ 300) : zMi l y_Mo_step (zws y_Mo_step prog_8_method_7_code 6 (some .boolean)) ({ frames := 2, cells := 0, slots := 0, locals := 43 }) κ.1 vwCl (tysA κ) nwA (wA κ) σ [.ref (aA κ 21), .int (p1), .int (p2), .int (p3), .long (v)] (fun r σ' => r = zb (fm_stepB (nA κ) σ p1 p2 p3) ∧ σ' = fm_stepS (nA κ) E σ p1 p2 p3 v) := by
  refine zintro (cc := prog_8_method_7_code) (maxL := 6) (ret := (some .boolean)) (by decide) rfl (Nat.le_of_ble_eq_true rfl) ?_
  intro p e s m below meth c ls hx hb hr hml hts hown hlocks hl B
  have hl : lv_has ls 6 [(0, .ref (aA κ 21)), (1, .int (p1)), (2, .int (p2)), (3, .int (p3)), (4, .long (v))] := hl
  have B : BA κ (va_A (wA κ σ) s.heap.size) s.heap s σ s.heap [] := B
  have hr : meth.sig.returnType = (some .boolean) := hr
  have hown : s.vm.findClass "UnitThreadsModel" = some m.cls := hown
  show W p l e (headSpec (zws y_Mo_step prog_8_method_7_code 6 (some .boolean)) ({ frames := 2, cells := 0, slots := 0, locals := 43 })).room s m [.ref (aA κ 21), .int (p1), .int (p2), .int (p3), .long (v)].toArray below meth c s.heap [] 0 0 (MQ below (va_Qi (fun r σ' => r = zb (fm_stepB (nA κ) σ p1 p2 p3) ∧ σ' = fm_stepS (nA κ) E σ p1 p2 p3 v) (zQ κ.1 vwCl (tysA κ) (wA κ) (va_A (wA κ σ) s.heap.size)) (va_A (wA κ σ) s.heap.size)) [.ref (aA κ 21), .int (p1), .int (p2), .int (p3), .long (v)].toArray s 0 0 (va_A (wA κ σ) s.heap.size)) (F0 m 0 ls [])
  generalize va_A (wA κ σ) s.heap.size = A at B ⊢
  have hts : ∀ w ∈ zW, w.before [.ref (aA κ 21), .int (p1), .int (p2), .int (p3), .long (v)].toArray s = true := fun w h => hts w (List.mem_cons_of_mem _ h)
  refine lv_aload_n hx hb d_Mo_step_0 rfl (lv_at hl 0 rfl) ?_
  refine lv_iload_n hx hb d_Mo_step_1 rfl (lv_at hl 1 rfl) ?_
  refine zcV_i (As := [.int (p1)]) (rest := []) ⟨hx, hb, hml, hown, hts⟩ (c_Mo_isUnit l κ σ p1 ) (cwV 1 hts (zgoodV w_492 w_494 s_12 w_9 w_495) rfl rfl rfl (by decide +kernel) ⟨Nat.le_of_ble_eq_true rfl, Nat.le_of_ble_eq_true rfl⟩) B (zrecv B (ci := 6) rfl (wa_21 κ σ)) rfl hl.1 rfl (Nat.le_of_ble_eq_true rfl) d_Mo_step_2 ⟨Nat.zero_le _, Nat.zero_le _⟩ (fun r σ' H locs hp B => ?_)
  obtain ⟨rfl, hp⟩ := hp
  rw [hp] at B
  have B : BA κ A s.heap s σ H locs := B
  refine lv_if_eq (tgt := 43) hx hb d_Mo_step_5 (by decide) (fun c_1 => ?_) (fun c_1 => ?_)
  · have c_1 := zb_eq0.mp c_1
    refine lv_iconst (v := 0) hx hb d_Mo_step_43 (by decide) ?_
    exact zret_z hx hb hr rfl hlocks B (⟨by simp [zb, fm_stepS, fm_stepB, c_1], by simp [zb, fm_stepS, fm_stepB, c_1]⟩) d_Mo_step_44
  · have c_1 := zb_ne0.mp c_1
    refine lv_iload_n hx hb d_Mo_step_8 rfl (lv_at hl 2 rfl) ?_
    refine lv_iconst (v := 0) hx hb d_Mo_step_9 (by decide) ?_
    refine lv_sipush (v := 200) hx hb d_Mo_step_10 (by decide) ?_
    refine zcS_i (As := [.int (p2), .int (0), .int (200)]) (rest := []) ⟨hx, hb, hml, hown, hts⟩ (c_Mo_isIn l κ σ p2 0 200 ) (cwS 3 hts (zgoodS w_496 w_497 w_9 w_498) rfl rfl rfl (by decide +kernel) ⟨Nat.le_of_ble_eq_true rfl, Nat.le_of_ble_eq_true rfl⟩) B rfl hl.1 rfl (Nat.le_of_ble_eq_true rfl) d_Mo_step_13 ⟨Nat.zero_le _, Nat.zero_le _⟩ (fun r σ' H locs hp B => ?_)
    obtain ⟨rfl, hp⟩ := hp
    rw [hp] at B
    have B : BA κ A s.heap s σ H locs := B
    refine lv_if_eq (tgt := 43) hx hb d_Mo_step_16 (by decide) (fun c_2 => ?_) (fun c_2 => ?_)
    · have c_2 := zb_eq0.mp c_2
      refine lv_iconst (v := 0) hx hb d_Mo_step_43 (by decide) ?_
      exact zret_z hx hb hr rfl hlocks B (⟨by simp [zb, fm_stepS, fm_stepB, c_1, c_2], by simp [zb, fm_stepS, fm_stepB, c_1, c_2]⟩) d_Mo_step_44
    · have c_2 := zb_ne0.mp c_2
      refine lv_iload_n hx hb d_Mo_step_19 rfl (lv_at hl 3 rfl) ?_
      refine lv_iconst (v := 4) hx hb d_Mo_step_20 (by decide) ?_
      refine lv_iload_n hx hb d_Mo_step_21 rfl (lv_at hl 1 rfl) ?_
      refine lv_imul hx hb d_Mo_step_22 ?_
      refine lv_iconst (v := 4) hx hb d_Mo_step_23 (by decide) ?_
      refine lv_iload_n hx hb d_Mo_step_24 rfl (lv_at hl 1 rfl) ?_
      refine lv_imul hx hb d_Mo_step_25 ?_
      refine lv_iconst (v := 3) hx hb d_Mo_step_26 (by decide) ?_
      refine lv_iadd hx hb d_Mo_step_27 ?_
      refine zcS_i (As := [.int (p3), .int (4 * p1), .int ((4 * p1) + 3)]) (rest := []) ⟨hx, hb, hml, hown, hts⟩ (c_Mo_isIn l κ σ p3 (4 * p1) ((4 * p1) + 3) ) (cwS 3 hts (zgoodS w_496 w_497 w_9 w_498) rfl rfl rfl (by decide +kernel) ⟨Nat.le_of_ble_eq_true rfl, Nat.le_of_ble_eq_true rfl⟩) B rfl hl.1 rfl (Nat.le_of_ble_eq_true rfl) d_Mo_step_28 ⟨Nat.zero_le _, Nat.zero_le _⟩ (fun r σ' H locs hp B => ?_)
      obtain ⟨rfl, hp⟩ := hp
      rw [hp] at B
      have B : BA κ A s.heap s σ H locs := B
      refine lv_if_eq (tgt := 43) hx hb d_Mo_step_31 (by decide) (fun c_3 => ?_) (fun c_3 => ?_)
      · have c_3 := zb_eq0.mp c_3
        refine lv_iconst (v := 0) hx hb d_Mo_step_43 (by decide) ?_
        exact zret_z hx hb hr rfl hlocks B (⟨by simp [zb, fm_stepS, fm_stepB, c_1, c_2, c_3], by simp [zb, fm_stepS, fm_stepB, c_1, c_2, c_3]⟩) d_Mo_step_44
      · have c_3 := zb_ne0.mp c_3
        refine lv_aload_n hx hb d_Mo_step_34 rfl (lv_at hl 0 rfl) ?_
        refine lv_iload_n hx hb d_Mo_step_35 rfl (lv_at hl 1 rfl) ?_
        refine zrwi (y := nI (tn p1)) ((fm_isUnit_in c_1 hn).1) ?_
        refine lv_iload_n hx hb d_Mo_step_36 rfl (lv_at hl 2 rfl) ?_
        refine zcV_i (As := [.int (nI (tn p1)), .int (p2)]) (rest := []) ⟨hx, hb, hml, hown, hts⟩ (c_Mo_isOpen l κ σ (tn p1) p2 (fm_isUnit_in c_1 hn).2 hn) (cwV 2 hts (zgoodV w_499 w_501 s_13 w_9 w_502) rfl rfl rfl (by decide +kernel) ⟨Nat.le_of_ble_eq_true rfl, Nat.le_of_ble_eq_true rfl⟩) B (zrecv B (ci := 6) rfl (wa_21 κ σ)) rfl hl.1 rfl (Nat.le_of_ble_eq_true rfl) d_Mo_step_37 ⟨Nat.zero_le _, Nat.zero_le _⟩ (fun r σ' H locs hp B => ?_)
        obtain ⟨rfl, hp⟩ := hp
        rw [hp] at B
        have B : BA κ A s.heap s σ H locs := B
        refine lv_if_ne (tgt := 45) hx hb d_Mo_step_40 (by decide) (fun c_4 => ?_) (fun c_4 => ?_)
        · have c_4 := zb_ne0.mp c_4
          refine lv_aload_n hx hb d_Mo_step_45 rfl (lv_at hl 0 rfl) ?_
          refine lv_iconst (v := 0) hx hb d_Mo_step_46 (by decide) ?_
          refine lv_iload_n hx hb d_Mo_step_47 rfl (lv_at hl 1 rfl) ?_
          refine lv_iload_n hx hb d_Mo_step_48 rfl (lv_at hl 2 rfl) ?_
          refine lv_iload_n hx hb d_Mo_step_49 rfl (lv_at hl 3 rfl) ?_
          refine lv_lload hx hb d_Mo_step_50 (lv_at hl 4 rfl) ?_
          refine zcV_i (As := [.int (0), .int (p1), .int (p2), .int (p3), .long (v)]) (rest := []) ⟨hx, hb, hml, hown, hts⟩ (c_Mo_add l κ σ 0 p1 p2 p3 v E hE (fm_isOpen_lt c_4 hE hE3)) (cwV 5 hts (zgoodV w_503 w_505 s_14 w_9 w_506) rfl rfl rfl (by decide +kernel) ⟨Nat.le_of_ble_eq_true rfl, Nat.le_of_ble_eq_true rfl⟩) B (zrecv B (ci := 6) rfl (wa_21 κ σ)) rfl hl.1 rfl (Nat.le_of_ble_eq_true rfl) d_Mo_step_52 ⟨Nat.zero_le _, Nat.zero_le _⟩ (fun r σ' H locs hp B => ?_)
          obtain ⟨rfl, hp⟩ := hp
          rw [hp] at B
          have B : BA κ A s.heap s (fm_add σ E 0 p1 p2 p3 v) H locs := B
          exact zret_z hx hb hr rfl hlocks B (⟨by simp [zb, fm_stepS, fm_stepB, c_1, c_2, c_3, c_4], by simp [zb, fm_stepS, fm_stepB, c_1, c_2, c_3, c_4]⟩) d_Mo_step_55
        · have c_4 := zb_eq0.mp c_4
          refine lv_iconst (v := 0) hx hb d_Mo_step_43 (by decide) ?_
          exact zret_z hx hb hr rfl hlocks B (⟨by simp [zb, fm_stepS, fm_stepB, c_1, c_2, c_3, c_4], by simp [zb, fm_stepS, fm_stepB, c_1, c_2, c_3, c_4]⟩) d_Mo_step_44
set_option maxHeartbeats 4000000 in
set_option maxRecDepth 100000 in
theorem c_Mo_asks (l : Launch) (κ : KA) (σ : zS) (p1 p2 p3 : Int32) (hn : nA κ ≤ 8) (E : Nat) (hE : σ.1 34 0 = nI E) (hE3 : E ≤ 300) : zMi l y_Mo_asks (zws y_Mo_asks prog_8_method_8_code 4 (some .boolean)) ({ frames := 2, cells := 0, slots := 0, locals := 43 }) κ.1 vwCl (tysA κ) nwA (wA κ) σ [.ref (aA κ 21), .int (p1), .int (p2), .int (p3)] (fun r σ' => r = zb (fm_asksB (nA κ) E σ p1 p2 p3) ∧ σ' = fm_asksS (nA κ) E σ p1 p2 p3) := by
  refine zintro (cc := prog_8_method_8_code) (maxL := 4) (ret := (some .boolean)) (by decide) rfl (Nat.le_of_ble_eq_true rfl) ?_
  intro p e s m below meth c ls hx hb hr hml hts hown hlocks hl B
  have hl : lv_has ls 4 [(0, .ref (aA κ 21)), (1, .int (p1)), (2, .int (p2)), (3, .int (p3))] := hl
  have B : BA κ (va_A (wA κ σ) s.heap.size) s.heap s σ s.heap [] := B
  have hr : meth.sig.returnType = (some .boolean) := hr
  have hown : s.vm.findClass "UnitThreadsModel" = some m.cls := hown
  show W p l e (headSpec (zws y_Mo_asks prog_8_method_8_code 4 (some .boolean)) ({ frames := 2, cells := 0, slots := 0, locals := 43 })).room s m [.ref (aA κ 21), .int (p1), .int (p2), .int (p3)].toArray below meth c s.heap [] 0 0 (MQ below (va_Qi (fun r σ' => r = zb (fm_asksB (nA κ) E σ p1 p2 p3) ∧ σ' = fm_asksS (nA κ) E σ p1 p2 p3) (zQ κ.1 vwCl (tysA κ) (wA κ) (va_A (wA κ σ) s.heap.size)) (va_A (wA κ σ) s.heap.size)) [.ref (aA κ 21), .int (p1), .int (p2), .int (p3)].toArray s 0 0 (va_A (wA κ σ) s.heap.size)) (F0 m 0 ls [])
  generalize va_A (wA κ σ) s.heap.size = A at B ⊢
  have hts : ∀ w ∈ zW, w.before [.ref (aA κ 21), .int (p1), .int (p2), .int (p3)].toArray s = true := fun w h => hts w (List.mem_cons_of_mem _ h)
  refine lv_aload_n hx hb d_Mo_asks_0 rfl (lv_at hl 0 rfl) ?_
  refine lv_iload_n hx hb d_Mo_asks_1 rfl (lv_at hl 1 rfl) ?_
  refine zcV_i (As := [.int (p1)]) (rest := []) ⟨hx, hb, hml, hown, hts⟩ (c_Mo_isUnit l κ σ p1 ) (cwV 1 hts (zgoodV w_492 w_494 s_12 w_9 w_495) rfl rfl rfl (by decide +kernel) ⟨Nat.le_of_ble_eq_true rfl, Nat.le_of_ble_eq_true rfl⟩) B (zrecv B (ci := 6) rfl (wa_21 κ σ)) rfl hl.1 rfl (Nat.le_of_ble_eq_true rfl) d_Mo_asks_2 ⟨Nat.zero_le _, Nat.zero_le _⟩ (fun r σ' H locs hp B => ?_)
  obtain ⟨rfl, hp⟩ := hp
  rw [hp] at B
  have B : BA κ A s.heap s σ H locs := B
  refine lv_if_eq (tgt := 49) hx hb d_Mo_asks_5 (by decide) (fun c_1 => ?_) (fun c_1 => ?_)
  · have c_1 := zb_eq0.mp c_1
    refine lv_iconst (v := 0) hx hb d_Mo_asks_49 (by decide) ?_
    exact zret_z hx hb hr rfl hlocks B (⟨by simp [zb, fm_asksS, fm_asksB, c_1], by simp [zb, fm_asksS, fm_asksB, c_1]⟩) d_Mo_asks_50
  · have c_1 := zb_ne0.mp c_1
    refine lv_iload_n hx hb d_Mo_asks_8 rfl (lv_at hl 2 rfl) ?_
    refine lv_iconst (v := 0) hx hb d_Mo_asks_9 (by decide) ?_
    refine lv_sipush (v := 200) hx hb d_Mo_asks_10 (by decide) ?_
    refine zcS_i (As := [.int (p2), .int (0), .int (200)]) (rest := []) ⟨hx, hb, hml, hown, hts⟩ (c_Mo_isIn l κ σ p2 0 200 ) (cwS 3 hts (zgoodS w_496 w_497 w_9 w_498) rfl rfl rfl (by decide +kernel) ⟨Nat.le_of_ble_eq_true rfl, Nat.le_of_ble_eq_true rfl⟩) B rfl hl.1 rfl (Nat.le_of_ble_eq_true rfl) d_Mo_asks_13 ⟨Nat.zero_le _, Nat.zero_le _⟩ (fun r σ' H locs hp B => ?_)
    obtain ⟨rfl, hp⟩ := hp
    rw [hp] at B
    have B : BA κ A s.heap s σ H locs := B
    refine lv_if_eq (tgt := 49) hx hb d_Mo_asks_16 (by decide) (fun c_2 => ?_) (fun c_2 => ?_)
    · have c_2 := zb_eq0.mp c_2
      refine lv_iconst (v := 0) hx hb d_Mo_asks_49 (by decide) ?_
      exact zret_z hx hb hr rfl hlocks B (⟨by simp [zb, fm_asksS, fm_asksB, c_1, c_2], by simp [zb, fm_asksS, fm_asksB, c_1, c_2]⟩) d_Mo_asks_50
    · have c_2 := zb_ne0.mp c_2
      refine lv_iload_n hx hb d_Mo_asks_19 rfl (lv_at hl 3 rfl) ?_
      refine lv_iconst (v := 0) hx hb d_Mo_asks_20 (by decide) ?_
      refine lv_bipush (v := 15) hx hb d_Mo_asks_21 (by decide) ?_
      refine zcS_i (As := [.int (p3), .int (0), .int (15)]) (rest := []) ⟨hx, hb, hml, hown, hts⟩ (c_Mo_isIn l κ σ p3 0 15 ) (cwS 3 hts (zgoodS w_496 w_497 w_9 w_498) rfl rfl rfl (by decide +kernel) ⟨Nat.le_of_ble_eq_true rfl, Nat.le_of_ble_eq_true rfl⟩) B rfl hl.1 rfl (Nat.le_of_ble_eq_true rfl) d_Mo_asks_23 ⟨Nat.zero_le _, Nat.zero_le _⟩ (fun r σ' H locs hp B => ?_)
      obtain ⟨rfl, hp⟩ := hp
      rw [hp] at B
      have B : BA κ A s.heap s σ H locs := B
      refine lv_if_eq (tgt := 49) hx hb d_Mo_asks_26 (by decide) (fun c_3 => ?_) (fun c_3 => ?_)
      · have c_3 := zb_eq0.mp c_3
        refine lv_iconst (v := 0) hx hb d_Mo_asks_49 (by decide) ?_
        exact zret_z hx hb hr rfl hlocks B (⟨by simp [zb, fm_asksS, fm_asksB, c_1, c_2, c_3], by simp [zb, fm_asksS, fm_asksB, c_1, c_2, c_3]⟩) d_Mo_asks_50
      · have c_3 := zb_ne0.mp c_3
        refine lv_aload_n hx hb d_Mo_asks_29 rfl (lv_at hl 0 rfl) ?_
        refine lv_iload_n hx hb d_Mo_asks_30 rfl (lv_at hl 1 rfl) ?_
        refine zrwi (y := nI (tn p1)) ((fm_isUnit_in c_1 hn).1) ?_
        refine lv_iload_n hx hb d_Mo_asks_31 rfl (lv_at hl 2 rfl) ?_
        refine zcV_i (As := [.int (nI (tn p1)), .int (p2)]) (rest := []) ⟨hx, hb, hml, hown, hts⟩ (c_Mo_isOpen l κ σ (tn p1) p2 (fm_isUnit_in c_1 hn).2 hn) (cwV 2 hts (zgoodV w_499 w_501 s_13 w_9 w_502) rfl rfl rfl (by decide +kernel) ⟨Nat.le_of_ble_eq_true rfl, Nat.le_of_ble_eq_true rfl⟩) B (zrecv B (ci := 6) rfl (wa_21 κ σ)) rfl hl.1 rfl (Nat.le_of_ble_eq_true rfl) d_Mo_asks_32 ⟨Nat.zero_le _, Nat.zero_le _⟩ (fun r σ' H locs hp B => ?_)
        obtain ⟨rfl, hp⟩ := hp
        rw [hp] at B
        have B : BA κ A s.heap s σ H locs := B
        refine lv_if_eq (tgt := 49) hx hb d_Mo_asks_35 (by decide) (fun c_4 => ?_) (fun c_4 => ?_)
        · have c_4 := zb_eq0.mp c_4
          refine lv_iconst (v := 0) hx hb d_Mo_asks_49 (by decide) ?_
          exact zret_z hx hb hr rfl hlocks B (⟨by simp [zb, fm_asksS, fm_asksB, c_1, c_2, c_3, c_4], by simp [zb, fm_asksS, fm_asksB, c_1, c_2, c_3, c_4]⟩) d_Mo_asks_50
        · have c_4 := zb_ne0.mp c_4
          refine lv_aload_n hx hb d_Mo_asks_38 rfl (lv_at hl 0 rfl) ?_
          refine lv_iconst (v := 1) hx hb d_Mo_asks_39 (by decide) ?_
          refine lv_iload_n hx hb d_Mo_asks_40 rfl (lv_at hl 1 rfl) ?_
          refine lv_iload_n hx hb d_Mo_asks_41 rfl (lv_at hl 2 rfl) ?_
          refine lv_iload_n hx hb d_Mo_asks_42 rfl (lv_at hl 3 rfl) ?_
          refine zcV_i (As := [.int (1), .int (p1), .int (p2), .int (p3)]) (rest := []) ⟨hx, hb, hml, hown, hts⟩ (c_Mo_find l κ σ 1 p1 p2 p3 E hE hE3) (cwV 4 hts (zgoodV w_511 w_513 s_15 w_9 w_514) rfl rfl rfl (by decide +kernel) ⟨Nat.le_of_ble_eq_true rfl, Nat.le_of_ble_eq_true rfl⟩) B (zrecv B (ci := 6) rfl (wa_21 κ σ)) rfl hl.1 rfl (Nat.le_of_ble_eq_true rfl) d_Mo_asks_43 ⟨Nat.zero_le _, Nat.zero_le _⟩ (fun r σ' H locs hp B => ?_)
          obtain ⟨rfl, hp⟩ := hp
          rw [hp] at B
          have B : BA κ A s.heap s σ H locs := B
          refine lv_if_lt (tgt := 51) hx hb d_Mo_asks_46 (by decide) (fun c_5 => ?_) (fun c_5 => ?_)
          · refine lv_aload_n hx hb d_Mo_asks_51 rfl (lv_at hl 0 rfl) ?_
            refine lv_iconst (v := 1) hx hb d_Mo_asks_52 (by decide) ?_
            refine lv_iload_n hx hb d_Mo_asks_53 rfl (lv_at hl 1 rfl) ?_
            refine lv_iload_n hx hb d_Mo_asks_54 rfl (lv_at hl 2 rfl) ?_
            refine lv_iload_n hx hb d_Mo_asks_55 rfl (lv_at hl 3 rfl) ?_
            refine lv_lconst (v := 0) hx hb d_Mo_asks_56 (by decide) ?_
            refine zcV_i (As := [.int (1), .int (p1), .int (p2), .int (p3), .long (0)]) (rest := []) ⟨hx, hb, hml, hown, hts⟩ (c_Mo_add l κ σ 1 p1 p2 p3 0 E hE (fm_isOpen_lt c_4 hE hE3)) (cwV 5 hts (zgoodV w_503 w_505 s_14 w_9 w_506) rfl rfl rfl (by decide +kernel) ⟨Nat.le_of_ble_eq_true rfl, Nat.le_of_ble_eq_true rfl⟩) B (zrecv B (ci := 6) rfl (wa_21 κ σ)) rfl hl.1 rfl (Nat.le_of_ble_eq_true rfl) d_Mo_asks_57 ⟨Nat.zero_le _, Nat.zero_le _⟩ (fun r σ' H locs hp B => ?_)
            obtain ⟨rfl, hp⟩ := hp
            rw [hp] at B
            have B : BA κ A s.heap s (fm_add σ E 1 p1 p2 p3 0) H locs := B
            exact zret_z hx hb hr rfl hlocks B (⟨by simp [zb, fm_asksS, fm_asksB, c_1, c_2, c_3, c_4, c_5], by simp [zb, fm_asksS, fm_asksB, c_1, c_2, c_3, c_4, c_5]⟩) d_Mo_asks_60
          · refine lv_iconst (v := 0) hx hb d_Mo_asks_49 (by decide) ?_
            exact zret_z hx hb hr rfl hlocks B (⟨by simp [zb, fm_asksS, fm_asksB, c_1, c_2, c_3, c_4, c_5], by simp [zb, fm_asksS, fm_asksB, c_1, c_2, c_3, c_4, c_5]⟩) d_Mo_asks_50
set_option maxHeartbeats 4000000 in
set_option maxRecDepth 100000 in
theorem c_Mo_throwsAt (l : Launch) (κ : KA) (σ : zS) (p1 p2 : Int32) (hn : nA κ ≤ 8) (E : Nat) (hE : σ.1 34 0 = nI E) (hE3 : E ≤ 300) : zMi l y_Mo_throwsAt (zws y_Mo_throwsAt prog_8_method_9_code 3 (some .boolean)) ({ frames := 2, cells := 0, slots := 0, locals := 43 }) κ.1 vwCl (tysA κ) nwA (wA κ) σ [.ref (aA κ 21), .int (p1), .int (p2)] (fun r σ' => r = zb (fm_throwB (nA κ) E σ p1 p2) ∧ σ' = fm_throwS (nA κ) E σ p1 p2) := by
  refine zintro (cc := prog_8_method_9_code) (maxL := 3) (ret := (some .boolean)) (by decide) rfl (Nat.le_of_ble_eq_true rfl) ?_
  intro p e s m below meth c ls hx hb hr hml hts hown hlocks hl B
  have hl : lv_has ls 3 [(0, .ref (aA κ 21)), (1, .int (p1)), (2, .int (p2))] := hl
  have B : BA κ (va_A (wA κ σ) s.heap.size) s.heap s σ s.heap [] := B
  have hr : meth.sig.returnType = (some .boolean) := hr
  have hown : s.vm.findClass "UnitThreadsModel" = some m.cls := hown
  show W p l e (headSpec (zws y_Mo_throwsAt prog_8_method_9_code 3 (some .boolean)) ({ frames := 2, cells := 0, slots := 0, locals := 43 })).room s m [.ref (aA κ 21), .int (p1), .int (p2)].toArray below meth c s.heap [] 0 0 (MQ below (va_Qi (fun r σ' => r = zb (fm_throwB (nA κ) E σ p1 p2) ∧ σ' = fm_throwS (nA κ) E σ p1 p2) (zQ κ.1 vwCl (tysA κ) (wA κ) (va_A (wA κ σ) s.heap.size)) (va_A (wA κ σ) s.heap.size)) [.ref (aA κ 21), .int (p1), .int (p2)].toArray s 0 0 (va_A (wA κ σ) s.heap.size)) (F0 m 0 ls [])
  generalize va_A (wA κ σ) s.heap.size = A at B ⊢
  have hts : ∀ w ∈ zW, w.before [.ref (aA κ 21), .int (p1), .int (p2)].toArray s = true := fun w h => hts w (List.mem_cons_of_mem _ h)
  refine lv_aload_n hx hb d_Mo_throwsAt_0 rfl (lv_at hl 0 rfl) ?_
  refine lv_iload_n hx hb d_Mo_throwsAt_1 rfl (lv_at hl 1 rfl) ?_
  refine zcV_i (As := [.int (p1)]) (rest := []) ⟨hx, hb, hml, hown, hts⟩ (c_Mo_isUnit l κ σ p1 ) (cwV 1 hts (zgoodV w_492 w_494 s_12 w_9 w_495) rfl rfl rfl (by decide +kernel) ⟨Nat.le_of_ble_eq_true rfl, Nat.le_of_ble_eq_true rfl⟩) B (zrecv B (ci := 6) rfl (wa_21 κ σ)) rfl hl.1 rfl (Nat.le_of_ble_eq_true rfl) d_Mo_throwsAt_2 ⟨Nat.zero_le _, Nat.zero_le _⟩ (fun r σ' H locs hp B => ?_)
  obtain ⟨rfl, hp⟩ := hp
  rw [hp] at B
  have B : BA κ A s.heap s σ H locs := B
  refine lv_if_eq (tgt := 39) hx hb d_Mo_throwsAt_5 (by decide) (fun c_1 => ?_) (fun c_1 => ?_)
  · have c_1 := zb_eq0.mp c_1
    refine lv_iconst (v := 0) hx hb d_Mo_throwsAt_39 (by decide) ?_
    exact zret_z hx hb hr rfl hlocks B (⟨by simp [zb, fm_throwS, fm_throwB, c_1], by simp [zb, fm_throwS, fm_throwB, c_1]⟩) d_Mo_throwsAt_40
  · have c_1 := zb_ne0.mp c_1
    refine lv_iload_n hx hb d_Mo_throwsAt_8 rfl (lv_at hl 2 rfl) ?_
    refine lv_iconst (v := 0) hx hb d_Mo_throwsAt_9 (by decide) ?_
    refine lv_sipush (v := 200) hx hb d_Mo_throwsAt_10 (by decide) ?_
    refine zcS_i (As := [.int (p2), .int (0), .int (200)]) (rest := []) ⟨hx, hb, hml, hown, hts⟩ (c_Mo_isIn l κ σ p2 0 200 ) (cwS 3 hts (zgoodS w_496 w_497 w_9 w_498) rfl rfl rfl (by decide +kernel) ⟨Nat.le_of_ble_eq_true rfl, Nat.le_of_ble_eq_true rfl⟩) B rfl hl.1 rfl (Nat.le_of_ble_eq_true rfl) d_Mo_throwsAt_13 ⟨Nat.zero_le _, Nat.zero_le _⟩ (fun r σ' H locs hp B => ?_)
    obtain ⟨rfl, hp⟩ := hp
    rw [hp] at B
    have B : BA κ A s.heap s σ H locs := B
    refine lv_if_eq (tgt := 39) hx hb d_Mo_throwsAt_16 (by decide) (fun c_2 => ?_) (fun c_2 => ?_)
    · have c_2 := zb_eq0.mp c_2
      refine lv_iconst (v := 0) hx hb d_Mo_throwsAt_39 (by decide) ?_
      exact zret_z hx hb hr rfl hlocks B (⟨by simp [zb, fm_throwS, fm_throwB, c_1, c_2], by simp [zb, fm_throwS, fm_throwB, c_1, c_2]⟩) d_Mo_throwsAt_40
    · have c_2 := zb_ne0.mp c_2
      refine lv_aload_n hx hb d_Mo_throwsAt_19 rfl (lv_at hl 0 rfl) ?_
      refine lv_iload_n hx hb d_Mo_throwsAt_20 rfl (lv_at hl 1 rfl) ?_
      refine zrwi (y := nI (tn p1)) ((fm_isUnit_in c_1 hn).1) ?_
      refine lv_iload_n hx hb d_Mo_throwsAt_21 rfl (lv_at hl 2 rfl) ?_
      refine zcV_i (As := [.int (nI (tn p1)), .int (p2)]) (rest := []) ⟨hx, hb, hml, hown, hts⟩ (c_Mo_isOpen l κ σ (tn p1) p2 (fm_isUnit_in c_1 hn).2 hn) (cwV 2 hts (zgoodV w_499 w_501 s_13 w_9 w_502) rfl rfl rfl (by decide +kernel) ⟨Nat.le_of_ble_eq_true rfl, Nat.le_of_ble_eq_true rfl⟩) B (zrecv B (ci := 6) rfl (wa_21 κ σ)) rfl hl.1 rfl (Nat.le_of_ble_eq_true rfl) d_Mo_throwsAt_22 ⟨Nat.zero_le _, Nat.zero_le _⟩ (fun r σ' H locs hp B => ?_)
      obtain ⟨rfl, hp⟩ := hp
      rw [hp] at B
      have B : BA κ A s.heap s σ H locs := B
      refine lv_if_eq (tgt := 39) hx hb d_Mo_throwsAt_25 (by decide) (fun c_3 => ?_) (fun c_3 => ?_)
      · have c_3 := zb_eq0.mp c_3
        refine lv_iconst (v := 0) hx hb d_Mo_throwsAt_39 (by decide) ?_
        exact zret_z hx hb hr rfl hlocks B (⟨by simp [zb, fm_throwS, fm_throwB, c_1, c_2, c_3], by simp [zb, fm_throwS, fm_throwB, c_1, c_2, c_3]⟩) d_Mo_throwsAt_40
      · have c_3 := zb_ne0.mp c_3
        refine lv_aload_n hx hb d_Mo_throwsAt_28 rfl (lv_at hl 0 rfl) ?_
        refine lv_iconst (v := 2) hx hb d_Mo_throwsAt_29 (by decide) ?_
        refine lv_iload_n hx hb d_Mo_throwsAt_30 rfl (lv_at hl 1 rfl) ?_
        refine lv_iload_n hx hb d_Mo_throwsAt_31 rfl (lv_at hl 2 rfl) ?_
        refine lv_iconst (v := (-1)) hx hb d_Mo_throwsAt_32 (by decide) ?_
        refine zcV_i (As := [.int (2), .int (p1), .int (p2), .int ((-1))]) (rest := []) ⟨hx, hb, hml, hown, hts⟩ (c_Mo_find l κ σ 2 p1 p2 (-1) E hE hE3) (cwV 4 hts (zgoodV w_511 w_513 s_15 w_9 w_514) rfl rfl rfl (by decide +kernel) ⟨Nat.le_of_ble_eq_true rfl, Nat.le_of_ble_eq_true rfl⟩) B (zrecv B (ci := 6) rfl (wa_21 κ σ)) rfl hl.1 rfl (Nat.le_of_ble_eq_true rfl) d_Mo_throwsAt_33 ⟨Nat.zero_le _, Nat.zero_le _⟩ (fun r σ' H locs hp B => ?_)
        obtain ⟨rfl, hp⟩ := hp
        rw [hp] at B
        have B : BA κ A s.heap s σ H locs := B
        refine lv_if_lt (tgt := 41) hx hb d_Mo_throwsAt_36 (by decide) (fun c_4 => ?_) (fun c_4 => ?_)
        · refine lv_aload_n hx hb d_Mo_throwsAt_41 rfl (lv_at hl 0 rfl) ?_
          refine lv_iconst (v := 2) hx hb d_Mo_throwsAt_42 (by decide) ?_
          refine lv_iload_n hx hb d_Mo_throwsAt_43 rfl (lv_at hl 1 rfl) ?_
          refine lv_iload_n hx hb d_Mo_throwsAt_44 rfl (lv_at hl 2 rfl) ?_
          refine lv_iconst (v := 0) hx hb d_Mo_throwsAt_45 (by decide) ?_
          refine lv_lconst (v := 0) hx hb d_Mo_throwsAt_46 (by decide) ?_
          refine zcV_i (As := [.int (2), .int (p1), .int (p2), .int (0), .long (0)]) (rest := []) ⟨hx, hb, hml, hown, hts⟩ (c_Mo_add l κ σ 2 p1 p2 0 0 E hE (fm_isOpen_lt c_3 hE hE3)) (cwV 5 hts (zgoodV w_503 w_505 s_14 w_9 w_506) rfl rfl rfl (by decide +kernel) ⟨Nat.le_of_ble_eq_true rfl, Nat.le_of_ble_eq_true rfl⟩) B (zrecv B (ci := 6) rfl (wa_21 κ σ)) rfl hl.1 rfl (Nat.le_of_ble_eq_true rfl) d_Mo_throwsAt_47 ⟨Nat.zero_le _, Nat.zero_le _⟩ (fun r σ' H locs hp B => ?_)
          obtain ⟨rfl, hp⟩ := hp
          rw [hp] at B
          have B : BA κ A s.heap s (fm_add σ E 2 p1 p2 0 0) H locs := B
          exact zret_z hx hb hr rfl hlocks B (⟨by simp [zb, fm_throwS, fm_throwB, c_1, c_2, c_3, c_4], by simp [zb, fm_throwS, fm_throwB, c_1, c_2, c_3, c_4]⟩) d_Mo_throwsAt_50
        · refine lv_iconst (v := 0) hx hb d_Mo_throwsAt_39 (by decide) ?_
          exact zret_z hx hb hr rfl hlocks B (⟨by simp [zb, fm_throwS, fm_throwB, c_1, c_2, c_3, c_4], by simp [zb, fm_throwS, fm_throwB, c_1, c_2, c_3, c_4]⟩) d_Mo_throwsAt_40
set_option maxHeartbeats 4000000 in
set_option maxRecDepth 100000 in
theorem c_Mo_safe (l : Launch) (κ : KA) (σ : zS) (p1 : Int32) (v : Int64) (hn : nA κ ≤ 8) : zMi l y_Mo_safe (zws y_Mo_safe prog_8_method_10_code 4 (some .boolean)) ({ frames := 1, cells := 0, slots := 0, locals := 22 }) κ.1 vwCl (tysA κ) nwA (wA κ) σ [.ref (aA κ 21), .int (p1), .long (v)] (fun r σ' => r = zb (fm_safeB (nA κ) σ p1) ∧ σ' = fm_safeS (nA κ) σ p1 v) := by
  refine zintro (cc := prog_8_method_10_code) (maxL := 4) (ret := (some .boolean)) (by decide) rfl (Nat.le_of_ble_eq_true rfl) ?_
  intro p e s m below meth c ls hx hb hr hml hts hown hlocks hl B
  have hl : lv_has ls 4 [(0, .ref (aA κ 21)), (1, .int (p1)), (2, .long (v))] := hl
  have B : BA κ (va_A (wA κ σ) s.heap.size) s.heap s σ s.heap [] := B
  have hr : meth.sig.returnType = (some .boolean) := hr
  have hown : s.vm.findClass "UnitThreadsModel" = some m.cls := hown
  show W p l e (headSpec (zws y_Mo_safe prog_8_method_10_code 4 (some .boolean)) ({ frames := 1, cells := 0, slots := 0, locals := 22 })).room s m [.ref (aA κ 21), .int (p1), .long (v)].toArray below meth c s.heap [] 0 0 (MQ below (va_Qi (fun r σ' => r = zb (fm_safeB (nA κ) σ p1) ∧ σ' = fm_safeS (nA κ) σ p1 v) (zQ κ.1 vwCl (tysA κ) (wA κ) (va_A (wA κ σ) s.heap.size)) (va_A (wA κ σ) s.heap.size)) [.ref (aA κ 21), .int (p1), .long (v)].toArray s 0 0 (va_A (wA κ σ) s.heap.size)) (F0 m 0 ls [])
  generalize va_A (wA κ σ) s.heap.size = A at B ⊢
  have hts : ∀ w ∈ zW, w.before [.ref (aA κ 21), .int (p1), .long (v)].toArray s = true := fun w h => hts w (List.mem_cons_of_mem _ h)
  refine lv_iload_n hx hb d_Mo_safe_0 rfl (lv_at hl 1 rfl) ?_
  refine lv_iconst (v := 0) hx hb d_Mo_safe_1 (by decide) ?_
  refine lv_iconst (v := 4) hx hb d_Mo_safe_2 (by decide) ?_
  refine lv_aload_n hx hb d_Mo_safe_3 rfl (lv_at hl 0 rfl) ?_
  refine va_get (D := κ.1) (ci := 6) (v := .int (nI (nA κ))) (C := "UnitThreadsModel") (T := T_Mo) (N := 26) hx hb hts in_Mo hown B.1 B.2.1 21 (wa_21 κ σ) rfl 0 (by decide) (hts _ w_408) (fun _ h9 => h9) rfl d_Mo_safe_4 ?_
  refine lv_imul hx hb d_Mo_safe_7 ?_
  refine lv_iconst (v := 1) hx hb d_Mo_safe_8 (by decide) ?_
  refine lv_isub hx hb d_Mo_safe_9 ?_
  refine zcS_i (As := [.int (p1), .int (0), .int ((4 * (nI (nA κ))) - 1)]) (rest := []) ⟨hx, hb, hml, hown, hts⟩ (c_Mo_isIn l κ σ p1 0 ((4 * (nI (nA κ))) - 1) ) (cwS 3 hts (zgoodS w_496 w_497 w_9 w_498) rfl rfl rfl (by decide +kernel) ⟨Nat.le_of_ble_eq_true rfl, Nat.le_of_ble_eq_true rfl⟩) B rfl hl.1 rfl (Nat.le_of_ble_eq_true rfl) d_Mo_safe_10 ⟨Nat.zero_le _, Nat.zero_le _⟩ (fun r σ' H locs hp B => ?_)
  obtain ⟨rfl, hp⟩ := hp
  rw [hp] at B
  have B : BA κ A s.heap s σ H locs := B
  refine lv_if_eq (tgt := 23) hx hb d_Mo_safe_13 (by decide) (fun c_1 => ?_) (fun c_1 => ?_)
  · have c_1 := zb_eq0.mp c_1
    refine lv_iconst (v := 0) hx hb d_Mo_safe_23 (by decide) ?_
    exact zret_z hx hb hr rfl hlocks B (⟨by simp [zb, fm_safeS, fm_safeB, c_1], by simp [zb, fm_safeS, fm_safeB, c_1]⟩) d_Mo_safe_24
  · have c_1 := zb_ne0.mp c_1
    refine lv_aload_n hx hb d_Mo_safe_16 rfl (lv_at hl 0 rfl) ?_
    refine va_get (D := κ.1) (ci := 6) (v := .int (σ.1 25 0)) (C := "UnitThreadsModel") (T := T_Mo) (N := 26) hx hb hts in_Mo hown B.1 B.2.1 21 (wa_21 κ σ) rfl 1 (by decide) (hts _ w_409) (fun _ h9 => h9) rfl d_Mo_safe_17 ?_
    refine lv_if_eq (tgt := 25) hx hb d_Mo_safe_20 (by decide) (fun c_2 => ?_) (fun c_2 => ?_)
    · refine lv_aload_n hx hb d_Mo_safe_25 rfl (lv_at hl 0 rfl) ?_
      refine va_get (D := κ.1) (ci := 6) (v := .ref (aA κ 23)) (C := "UnitThreadsModel") (T := T_Mo) (N := 26) hx hb hts in_Mo hown B.1 B.2.1 21 (wa_21 κ σ) rfl 4 (by decide) (hts _ w_412) (fun _ h9 => h9) rfl d_Mo_safe_26 ?_
      refine lv_iload_n hx hb d_Mo_safe_29 rfl (lv_at hl 1 rfl) ?_
      refine lv_lload_n hx hb d_Mo_safe_30 rfl (lv_at hl 2 rfl) ?_
      refine zlast hx hb B 23 1 (wa_23 κ σ) rfl (tn p1) ((fm_out_in c_1 hn).1) (by have h := (fm_out_in c_1 hn).2; omega) (by decide) (ws_23 κ σ (tn p1) v) d_Mo_safe_31 (fun H locs B => ?_)
      have B : BA κ A s.heap s (zl σ 6 (tn p1) v) H locs := B
      refine lv_iconst (v := 1) hx hb d_Mo_safe_32 (by decide) ?_
      exact zret_z hx hb hr rfl hlocks B (⟨by simp [zb, fm_safeS, fm_safeB, c_1, c_2], by simp [zb, fm_safeS, fm_safeB, c_1, c_2]⟩) d_Mo_safe_33
    · refine lv_iconst (v := 0) hx hb d_Mo_safe_23 (by decide) ?_
      exact zret_z hx hb hr rfl hlocks B (⟨by simp [zb, fm_safeS, fm_safeB, c_1, c_2], by simp [zb, fm_safeS, fm_safeB, c_1, c_2]⟩) d_Mo_safe_24
set_option maxHeartbeats 4000000 in
set_option maxRecDepth 100000 in
theorem c_Mo_bar (l : Launch) (κ : KA) (σ : zS) (p1 p2 : Int32) : zMi l y_Mo_bar (zws y_Mo_bar prog_8_method_11_code 3 (some .boolean)) ({ frames := 1, cells := 0, slots := 0, locals := 22 }) κ.1 vwCl (tysA κ) nwA (wA κ) σ [.ref (aA κ 21), .int (p1), .int (p2)] (fun r σ' => r = zb (fm_barB σ p1 p2) ∧ σ' = fm_barS σ p1 p2) := by
  refine zintro (cc := prog_8_method_11_code) (maxL := 3) (ret := (some .boolean)) (by decide) rfl (Nat.le_of_ble_eq_true rfl) ?_
  intro p e s m below meth c ls hx hb hr hml hts hown hlocks hl B
  have hl : lv_has ls 3 [(0, .ref (aA κ 21)), (1, .int (p1)), (2, .int (p2))] := hl
  have B : BA κ (va_A (wA κ σ) s.heap.size) s.heap s σ s.heap [] := B
  have hr : meth.sig.returnType = (some .boolean) := hr
  have hown : s.vm.findClass "UnitThreadsModel" = some m.cls := hown
  show W p l e (headSpec (zws y_Mo_bar prog_8_method_11_code 3 (some .boolean)) ({ frames := 1, cells := 0, slots := 0, locals := 22 })).room s m [.ref (aA κ 21), .int (p1), .int (p2)].toArray below meth c s.heap [] 0 0 (MQ below (va_Qi (fun r σ' => r = zb (fm_barB σ p1 p2) ∧ σ' = fm_barS σ p1 p2) (zQ κ.1 vwCl (tysA κ) (wA κ) (va_A (wA κ σ) s.heap.size)) (va_A (wA κ σ) s.heap.size)) [.ref (aA κ 21), .int (p1), .int (p2)].toArray s 0 0 (va_A (wA κ σ) s.heap.size)) (F0 m 0 ls [])
  generalize va_A (wA κ σ) s.heap.size = A at B ⊢
  have hts : ∀ w ∈ zW, w.before [.ref (aA κ 21), .int (p1), .int (p2)].toArray s = true := fun w h => hts w (List.mem_cons_of_mem _ h)
  refine lv_iload_n hx hb d_Mo_bar_0 rfl (lv_at hl 1 rfl) ?_
  refine lv_iconst (v := 0) hx hb d_Mo_bar_1 (by decide) ?_
  refine lv_bipush (v := 15) hx hb d_Mo_bar_2 (by decide) ?_
  refine zcS_i (As := [.int (p1), .int (0), .int (15)]) (rest := []) ⟨hx, hb, hml, hown, hts⟩ (c_Mo_isIn l κ σ p1 0 15 ) (cwS 3 hts (zgoodS w_496 w_497 w_9 w_498) rfl rfl rfl (by decide +kernel) ⟨Nat.le_of_ble_eq_true rfl, Nat.le_of_ble_eq_true rfl⟩) B rfl hl.1 rfl (Nat.le_of_ble_eq_true rfl) d_Mo_bar_4 ⟨Nat.zero_le _, Nat.zero_le _⟩ (fun r σ' H locs hp B => ?_)
  obtain ⟨rfl, hp⟩ := hp
  rw [hp] at B
  have B : BA κ A s.heap s σ H locs := B
  refine lv_if_eq (tgt := 49) hx hb d_Mo_bar_7 (by decide) (fun c_1 => ?_) (fun c_1 => ?_)
  · have c_1 := zb_eq0.mp c_1
    refine lv_iconst (v := 0) hx hb d_Mo_bar_49 (by decide) ?_
    exact zret_z hx hb hr rfl hlocks B (⟨by simp [zb, fm_barS, fm_barB, c_1], by simp [zb, fm_barS, fm_barB, c_1]⟩) d_Mo_bar_50
  · have c_1 := zb_ne0.mp c_1
    refine lv_iload_n hx hb d_Mo_bar_10 rfl (lv_at hl 2 rfl) ?_
    refine lv_iconst (v := 0) hx hb d_Mo_bar_11 (by decide) ?_
    refine lv_bipush (v := 63) hx hb d_Mo_bar_12 (by decide) ?_
    refine zcS_i (As := [.int (p2), .int (0), .int (63)]) (rest := []) ⟨hx, hb, hml, hown, hts⟩ (c_Mo_isIn l κ σ p2 0 63 ) (cwS 3 hts (zgoodS w_496 w_497 w_9 w_498) rfl rfl rfl (by decide +kernel) ⟨Nat.le_of_ble_eq_true rfl, Nat.le_of_ble_eq_true rfl⟩) B rfl hl.1 rfl (Nat.le_of_ble_eq_true rfl) d_Mo_bar_14 ⟨Nat.zero_le _, Nat.zero_le _⟩ (fun r σ' H locs hp B => ?_)
    obtain ⟨rfl, hp⟩ := hp
    rw [hp] at B
    have B : BA κ A s.heap s σ H locs := B
    refine lv_if_eq (tgt := 49) hx hb d_Mo_bar_17 (by decide) (fun c_2 => ?_) (fun c_2 => ?_)
    · have c_2 := zb_eq0.mp c_2
      refine lv_iconst (v := 0) hx hb d_Mo_bar_49 (by decide) ?_
      exact zret_z hx hb hr rfl hlocks B (⟨by simp [zb, fm_barS, fm_barB, c_1, c_2], by simp [zb, fm_barS, fm_barB, c_1, c_2]⟩) d_Mo_bar_50
    · have c_2 := zb_ne0.mp c_2
      refine lv_aload_n hx hb d_Mo_bar_20 rfl (lv_at hl 0 rfl) ?_
      refine va_get (D := κ.1) (ci := 6) (v := .int (σ.1 25 0)) (C := "UnitThreadsModel") (T := T_Mo) (N := 26) hx hb hts in_Mo hown B.1 B.2.1 21 (wa_21 κ σ) rfl 1 (by decide) (hts _ w_409) (fun _ h9 => h9) rfl d_Mo_bar_21 ?_
      refine lv_if_ne (tgt := 49) hx hb d_Mo_bar_24 (by decide) (fun c_3 => ?_) (fun c_3 => ?_)
      · refine lv_iconst (v := 0) hx hb d_Mo_bar_49 (by decide) ?_
        exact zret_z hx hb hr rfl hlocks B (⟨by simp [zb, fm_barS, fm_barB, c_1, c_2, c_3], by simp [zb, fm_barS, fm_barB, c_1, c_2, c_3]⟩) d_Mo_bar_50
      · refine lv_iload_n hx hb d_Mo_bar_27 rfl (lv_at hl 2 rfl) ?_
        refine lv_aload_n hx hb d_Mo_bar_28 rfl (lv_at hl 0 rfl) ?_
        refine va_get (D := κ.1) (ci := 6) (v := .int (σ.1 26 0)) (C := "UnitThreadsModel") (T := T_Mo) (N := 26) hx hb hts in_Mo hown B.1 B.2.1 21 (wa_21 κ σ) rfl 2 (by decide) (hts _ w_410) (fun _ h9 => h9) rfl d_Mo_bar_29 ?_
        refine lv_icmp_lt (tgt := 49) hx hb d_Mo_bar_32 (by decide) (fun c_4 => ?_) (fun c_4 => ?_)
        · refine lv_iconst (v := 0) hx hb d_Mo_bar_49 (by decide) ?_
          exact zret_z hx hb hr rfl hlocks B (⟨by simp [zb, fm_barS, fm_barB, c_1, c_2, c_3, c_4], by simp [zb, fm_barS, fm_barB, c_1, c_2, c_3, c_4]⟩) d_Mo_bar_50
        · refine lv_aload_n hx hb d_Mo_bar_35 rfl (lv_at hl 0 rfl) ?_
          refine va_get (D := κ.1) (ci := 6) (v := .ref (aA κ 27)) (C := "UnitThreadsModel") (T := T_Mo) (N := 26) hx hb hts in_Mo hown B.1 B.2.1 21 (wa_21 κ σ) rfl 8 (by decide) (hts _ w_416) (fun _ h9 => h9) rfl d_Mo_bar_36 ?_
          refine lv_bipush (v := nI 16) hx hb d_Mo_bar_39 (by decide) ?_
          refine lv_iload_n hx hb d_Mo_bar_41 rfl (lv_at hl 2 rfl) ?_
          refine lv_imul hx hb d_Mo_bar_42 ?_
          refine zrwi (y := nI (16 * tn p2)) (zmul8 (fm_in_nat (N := 63) c_2 (by omega)).1) ?_
          refine lv_iload_n hx hb d_Mo_bar_43 rfl (lv_at hl 1 rfl) ?_
          refine lv_iadd hx hb d_Mo_bar_44 ?_
          refine zrwi (y := nI (16 * tn p2 + tn p1)) (zaddp (fm_in_nat (N := 15) c_1 (by omega)).1) ?_
          refine zzald hx hb B 27 3 (wa_27 κ σ) rfl (16 * tn p2 + tn p1) rfl (by have h1 := (fm_in_nat (N := 63) c_2 (by omega)).2; have h2 := (fm_in_nat (N := 15) c_1 (by omega)).2; omega) (by decide) d_Mo_bar_45 ?_
          refine lv_if_eq (tgt := 51) hx hb d_Mo_bar_46 (by decide) (fun c_5 => ?_) (fun c_5 => ?_)
          · refine lv_aload_n hx hb d_Mo_bar_51 rfl (lv_at hl 0 rfl) ?_
            refine va_get (D := κ.1) (ci := 6) (v := .ref (aA κ 27)) (C := "UnitThreadsModel") (T := T_Mo) (N := 26) hx hb hts in_Mo hown B.1 B.2.1 21 (wa_21 κ σ) rfl 8 (by decide) (hts _ w_416) (fun _ h9 => h9) rfl d_Mo_bar_52 ?_
            refine lv_bipush (v := nI 16) hx hb d_Mo_bar_55 (by decide) ?_
            refine lv_iload_n hx hb d_Mo_bar_57 rfl (lv_at hl 2 rfl) ?_
            refine lv_imul hx hb d_Mo_bar_58 ?_
            refine zrwi (y := nI (16 * tn p2)) (zmul8 (fm_in_nat (N := 63) c_2 (by omega)).1) ?_
            refine lv_iload_n hx hb d_Mo_bar_59 rfl (lv_at hl 1 rfl) ?_
            refine lv_iadd hx hb d_Mo_bar_60 ?_
            refine zrwi (y := nI (16 * tn p2 + tn p1)) (zaddp (fm_in_nat (N := 15) c_1 (by omega)).1) ?_
            refine lv_iconst (v := 1) hx hb d_Mo_bar_61 (by decide) ?_
            refine zzast hx hb B 27 3 (wa_27 κ σ) rfl (16 * tn p2 + tn p1) rfl (by have h1 := (fm_in_nat (N := 63) c_2 (by omega)).2; have h2 := (fm_in_nat (N := 15) c_1 (by omega)).2; omega) (by decide) (y := 1) (rfl) (ws_27 κ σ (16 * tn p2 + tn p1) 1) d_Mo_bar_62 (fun H locs B => ?_)
            have B : BA κ A s.heap s (zi σ 29 (16 * tn p2 + tn p1) 1) H locs := B
            refine lv_iconst (v := 1) hx hb d_Mo_bar_63 (by decide) ?_
            exact zret_z hx hb hr rfl hlocks B (⟨by simp [zb, fm_barS, fm_barB, c_1, c_2, c_3, c_4, c_5], by simp [zb, fm_barS, fm_barB, c_1, c_2, c_3, c_4, c_5]⟩) d_Mo_bar_64
          · refine lv_iconst (v := 0) hx hb d_Mo_bar_49 (by decide) ?_
            exact zret_z hx hb hr rfl hlocks B (⟨by simp [zb, fm_barS, fm_barB, c_1, c_2, c_3, c_4, c_5], by simp [zb, fm_barS, fm_barB, c_1, c_2, c_3, c_4, c_5]⟩) d_Mo_bar_50
set_option maxHeartbeats 4000000 in
set_option maxRecDepth 100000 in
theorem c_Mo_hasEnded (l : Launch) (κ : KA) (σ : zS) (u : Nat) (hu : u < nA κ) (hn : nA κ ≤ 8) (E : Nat) (hE : σ.1 34 0 = nI E) (hE3 : E ≤ 300) : zMi l y_Mo_hasEnded (zws y_Mo_hasEnded prog_8_method_12_code 4 (some .boolean)) ({ frames := 0, cells := 0, slots := 0, locals := 0 }) κ.1 vwCl (tysA κ) nwA (wA κ) σ [.ref (aA κ 21), .int (nI u)] (fun r σ' => r = zb (fm_ended σ u E 0 true) ∧ σ' = σ) := by
  refine zintro (cc := prog_8_method_12_code) (maxL := 4) (ret := (some .boolean)) (by decide) rfl (Nat.le_of_ble_eq_true rfl) ?_
  intro p e s m below meth c ls hx hb hr hml hts hown hlocks hl B
  have hl : lv_has ls 4 [(0, .ref (aA κ 21)), (1, .int (nI u))] := hl
  have B : BA κ (va_A (wA κ σ) s.heap.size) s.heap s σ s.heap [] := B
  have hr : meth.sig.returnType = (some .boolean) := hr
  have hown : s.vm.findClass "UnitThreadsModel" = some m.cls := hown
  show W p l e (headSpec (zws y_Mo_hasEnded prog_8_method_12_code 4 (some .boolean)) ({ frames := 0, cells := 0, slots := 0, locals := 0 })).room s m [.ref (aA κ 21), .int (nI u)].toArray below meth c s.heap [] 0 0 (MQ below (va_Qi (fun r σ' => r = zb (fm_ended σ u E 0 true) ∧ σ' = σ) (zQ κ.1 vwCl (tysA κ) (wA κ) (va_A (wA κ σ) s.heap.size)) (va_A (wA κ σ) s.heap.size)) [.ref (aA κ 21), .int (nI u)].toArray s 0 0 (va_A (wA κ σ) s.heap.size)) (F0 m 0 ls [])
  generalize va_A (wA κ σ) s.heap.size = A at B ⊢
  have hts : ∀ w ∈ zW, w.before [.ref (aA κ 21), .int (nI u)].toArray s = true := fun w h => hts w (List.mem_cons_of_mem _ h)
  have L_4 : ∀ (j : Nat) (k : Nat) (b : Bool), (k + j = E) → (fm_ended σ u E 0 true = fm_ended σ u j k b) → ∀ (H : Heap) (locs : List Loc), BA κ A s.heap s σ H locs → ∀ (ls : Array Slot), lv_has ls 4 [(0, .ref (aA κ 21)), (1, .int (nI u)), (2, .int (zb b)), (3, .int (nI k))] → W p l e (headSpec (zws y_Mo_hasEnded prog_8_method_12_code 4 (some .boolean)) ({ frames := 0, cells := 0, slots := 0, locals := 0 })).room s m [.ref (aA κ 21), .int (nI u)].toArray below meth c H locs 0 0 (MQ below (va_Qi (fun r σ' => r = zb (fm_ended σ u E 0 true) ∧ σ' = σ) (zQ κ.1 vwCl (tysA κ) (wA κ) A) A) [.ref (aA κ 21), .int (nI u)].toArray s 0 0 A) (F0 m 4 ls []) := by
    intro j
    induction j with
    | zero =>
      intro k b hj hst H locs B ls hl
      refine lv_iload_n hx hb d_Mo_hasEnded_4 rfl (lv_at hl 3 rfl) ?_
      refine lv_aload_n hx hb d_Mo_hasEnded_5 rfl (lv_at hl 0 rfl) ?_
      refine va_get (D := κ.1) (ci := 6) (v := .int (σ.1 34 0)) (C := "UnitThreadsModel") (T := T_Mo) (N := 26) hx hb hts in_Mo hown B.1 B.2.1 21 (wa_21 κ σ) rfl 14 (by decide) (hts _ w_422) (fun _ h9 => h9) rfl d_Mo_hasEnded_6 ?_
      refine zrwi (y := nI E) (hE) ?_
      refine lv_icmp_ge (tgt := 53) hx hb d_Mo_hasEnded_9 (by decide) (fun c_1 => ?_) (fun c_1 => ?_)
      · have c_1 := (nI_leI (a := E) (b := k) (by omega) (by omega)).mp c_1
        refine lv_iload_n hx hb d_Mo_hasEnded_53 rfl (lv_at hl 2 rfl) ?_
        exact zret_z hx hb hr (zb_nar _) hlocks B (⟨congrArg zb hst.symm, rfl⟩) d_Mo_hasEnded_54
      · have c_1 := (not_congr (nI_leI (a := E) (b := k) (by omega) (by omega))).mp c_1
        exact absurd c_1 (by omega)
    | succ j ih =>
      intro k b hj hst H locs B ls hl
      refine lv_iload_n hx hb d_Mo_hasEnded_4 rfl (lv_at hl 3 rfl) ?_
      refine lv_aload_n hx hb d_Mo_hasEnded_5 rfl (lv_at hl 0 rfl) ?_
      refine va_get (D := κ.1) (ci := 6) (v := .int (σ.1 34 0)) (C := "UnitThreadsModel") (T := T_Mo) (N := 26) hx hb hts in_Mo hown B.1 B.2.1 21 (wa_21 κ σ) rfl 14 (by decide) (hts _ w_422) (fun _ h9 => h9) rfl d_Mo_hasEnded_6 ?_
      refine zrwi (y := nI E) (hE) ?_
      refine lv_icmp_ge (tgt := 53) hx hb d_Mo_hasEnded_9 (by decide) (fun c_2 => ?_) (fun c_2 => ?_)
      · have c_2 := (nI_leI (a := E) (b := k) (by omega) (by omega)).mp c_2
        exact absurd c_2 (by omega)
      · have c_2 := (not_congr (nI_leI (a := E) (b := k) (by omega) (by omega))).mp c_2
        refine lv_iload_n hx hb d_Mo_hasEnded_12 rfl (lv_at hl 2 rfl) ?_
        refine lv_if_eq (tgt := 45) hx hb d_Mo_hasEnded_13 (by decide) (fun c_3 => ?_) (fun c_3 => ?_)
        · have c_3 := zb_eq0.mp c_3
          refine lv_iconst (v := 0) hx hb d_Mo_hasEnded_45 (by decide) ?_
          refine lv_istore_n (lv' := [(2, .int (0)), (0, .ref (aA κ 21)), (1, .int (nI u)), (3, .int (nI k))]) hx hb d_Mo_hasEnded_46 rfl hl (by decide) rfl (fun ls hl => ?_)
          refine lv_iinc (v := nI (k + 1)) (lv' := [(3, .int (nI (k + 1))), (2, .int (0)), (0, .ref (aA κ 21)), (1, .int (nI u))]) hx hb d_Mo_hasEnded_47 hl (k := 3) rfl (zinc _) (by decide) rfl (fun ls hl => ?_)
          refine lv_goto (tgt := 4) hx hb d_Mo_hasEnded_50 (by decide) ?_
          exact ih (k + 1) false (by omega) (by rw [hst]; simp [fm_ended, c_2, c_3]) _ _ B ls (lv_sub hl [2, 3, 1, 0] rfl)
        · have c_3 := zb_ne0.mp c_3
          refine lv_aload_n hx hb d_Mo_hasEnded_16 rfl (lv_at hl 0 rfl) ?_
          refine va_get (D := κ.1) (ci := 6) (v := .ref (aA κ 29)) (C := "UnitThreadsModel") (T := T_Mo) (N := 26) hx hb hts in_Mo hown B.1 B.2.1 21 (wa_21 κ σ) rfl 10 (by decide) (hts _ w_418) (fun _ h9 => h9) rfl d_Mo_hasEnded_17 ?_
          refine lv_iload_n hx hb d_Mo_hasEnded_20 rfl (lv_at hl 3 rfl) ?_
          refine ziald hx hb B 29 0 (wa_29 κ σ) rfl k rfl (by omega) (by decide) d_Mo_hasEnded_21 ?_
          refine lv_iload_n hx hb d_Mo_hasEnded_22 rfl (lv_at hl 1 rfl) ?_
          refine lv_icmp_ne (tgt := 41) hx hb d_Mo_hasEnded_23 (by decide) (fun c_4 => ?_) (fun c_4 => ?_)
          · refine lv_iconst (v := 1) hx hb d_Mo_hasEnded_41 (by decide) ?_
            refine lv_goto (tgt := 46) hx hb d_Mo_hasEnded_42 (by decide) ?_
            refine lv_istore_n (lv' := [(2, .int (1)), (0, .ref (aA κ 21)), (1, .int (nI u)), (3, .int (nI k))]) hx hb d_Mo_hasEnded_46 rfl hl (by decide) rfl (fun ls hl => ?_)
            refine lv_iinc (v := nI (k + 1)) (lv' := [(3, .int (nI (k + 1))), (2, .int (1)), (0, .ref (aA κ 21)), (1, .int (nI u))]) hx hb d_Mo_hasEnded_47 hl (k := 3) rfl (zinc _) (by decide) rfl (fun ls hl => ?_)
            refine lv_goto (tgt := 4) hx hb d_Mo_hasEnded_50 (by decide) ?_
            exact ih (k + 1) true (by omega) (by rw [hst]; simp [fm_ended, c_2, c_3, c_4]) _ _ B ls (lv_sub hl [2, 3, 1, 0] rfl)
          · refine lv_aload_n hx hb d_Mo_hasEnded_26 rfl (lv_at hl 0 rfl) ?_
            refine va_get (D := κ.1) (ci := 6) (v := .ref (aA κ 30)) (C := "UnitThreadsModel") (T := T_Mo) (N := 26) hx hb hts in_Mo hown B.1 B.2.1 21 (wa_21 κ σ) rfl 11 (by decide) (hts _ w_419) (fun _ h9 => h9) rfl d_Mo_hasEnded_27 ?_
            refine lv_iload_n hx hb d_Mo_hasEnded_30 rfl (lv_at hl 3 rfl) ?_
            refine ziald hx hb B 30 0 (wa_30 κ σ) rfl k rfl (by omega) (by decide) d_Mo_hasEnded_31 ?_
            refine lv_aload_n hx hb d_Mo_hasEnded_32 rfl (lv_at hl 0 rfl) ?_
            refine va_get (D := κ.1) (ci := 6) (v := .ref (aA κ 33)) (C := "UnitThreadsModel") (T := T_Mo) (N := 26) hx hb hts in_Mo hown B.1 B.2.1 21 (wa_21 κ σ) rfl 15 (by decide) (hts _ w_423) (fun _ h9 => h9) rfl d_Mo_hasEnded_33 ?_
            refine lv_iload_n hx hb d_Mo_hasEnded_36 rfl (lv_at hl 1 rfl) ?_
            refine ziald hx hb B 33 0 (wa_33 κ σ) rfl u rfl (by omega) (by decide) d_Mo_hasEnded_37 ?_
            refine lv_icmp_ge (tgt := 45) hx hb d_Mo_hasEnded_38 (by decide) (fun c_5 => ?_) (fun c_5 => ?_)
            · refine lv_iconst (v := 0) hx hb d_Mo_hasEnded_45 (by decide) ?_
              refine lv_istore_n (lv' := [(2, .int (0)), (0, .ref (aA κ 21)), (1, .int (nI u)), (3, .int (nI k))]) hx hb d_Mo_hasEnded_46 rfl hl (by decide) rfl (fun ls hl => ?_)
              refine lv_iinc (v := nI (k + 1)) (lv' := [(3, .int (nI (k + 1))), (2, .int (0)), (0, .ref (aA κ 21)), (1, .int (nI u))]) hx hb d_Mo_hasEnded_47 hl (k := 3) rfl (zinc _) (by decide) rfl (fun ls hl => ?_)
              refine lv_goto (tgt := 4) hx hb d_Mo_hasEnded_50 (by decide) ?_
              exact ih (k + 1) false (by omega) (by rw [hst]; simp [fm_ended, c_2, c_3, c_4, c_5]) _ _ B ls (lv_sub hl [2, 3, 1, 0] rfl)
            · refine lv_iconst (v := 1) hx hb d_Mo_hasEnded_41 (by decide) ?_
              refine lv_goto (tgt := 46) hx hb d_Mo_hasEnded_42 (by decide) ?_
              refine lv_istore_n (lv' := [(2, .int (1)), (0, .ref (aA κ 21)), (1, .int (nI u)), (3, .int (nI k))]) hx hb d_Mo_hasEnded_46 rfl hl (by decide) rfl (fun ls hl => ?_)
              refine lv_iinc (v := nI (k + 1)) (lv' := [(3, .int (nI (k + 1))), (2, .int (1)), (0, .ref (aA κ 21)), (1, .int (nI u))]) hx hb d_Mo_hasEnded_47 hl (k := 3) rfl (zinc _) (by decide) rfl (fun ls hl => ?_)
              refine lv_goto (tgt := 4) hx hb d_Mo_hasEnded_50 (by decide) ?_
              exact ih (k + 1) true (by omega) (by rw [hst]; simp [fm_ended, c_2, c_3, c_4, c_5]) _ _ B ls (lv_sub hl [2, 3, 1, 0] rfl)
  refine lv_iconst (v := 1) hx hb d_Mo_hasEnded_0 (by decide) ?_
  refine lv_istore_n (lv' := [(2, .int (1)), (0, .ref (aA κ 21)), (1, .int (nI u))]) hx hb d_Mo_hasEnded_1 rfl hl (by decide) rfl (fun ls hl => ?_)
  refine lv_iconst (v := nI 0) hx hb d_Mo_hasEnded_2 (by decide) ?_
  refine lv_istore_n (lv' := [(3, .int (nI 0)), (2, .int (1)), (0, .ref (aA κ 21)), (1, .int (nI u))]) hx hb d_Mo_hasEnded_3 rfl hl (by decide) rfl (fun ls hl => ?_)
  exact L_4 E 0 true (by omega) rfl _ _ B ls (lv_sub hl [2, 3, 1, 0] rfl)
set_option maxHeartbeats 4000000 in
set_option maxRecDepth 100000 in
theorem c_Mo_goes (l : Launch) (κ : KA) (σ : zS) (u : Nat) (hu : u < nA κ) (hn : nA κ ≤ 8) (E : Nat) (hE : σ.1 34 0 = nI E) (hE3 : E ≤ 300) : zMi l y_Mo_goes (zws y_Mo_goes prog_8_method_13_code 2 (some .boolean)) ({ frames := 1, cells := 0, slots := 0, locals := 23 }) κ.1 vwCl (tysA κ) nwA (wA κ) σ [.ref (aA κ 21), .int (nI u)] (fun r σ' => r = zb (fm_goes σ E u) ∧ σ' = σ) := by
  refine zintro (cc := prog_8_method_13_code) (maxL := 2) (ret := (some .boolean)) (by decide) rfl (Nat.le_of_ble_eq_true rfl) ?_
  intro p e s m below meth c ls hx hb hr hml hts hown hlocks hl B
  have hl : lv_has ls 2 [(0, .ref (aA κ 21)), (1, .int (nI u))] := hl
  have B : BA κ (va_A (wA κ σ) s.heap.size) s.heap s σ s.heap [] := B
  have hr : meth.sig.returnType = (some .boolean) := hr
  have hown : s.vm.findClass "UnitThreadsModel" = some m.cls := hown
  show W p l e (headSpec (zws y_Mo_goes prog_8_method_13_code 2 (some .boolean)) ({ frames := 1, cells := 0, slots := 0, locals := 23 })).room s m [.ref (aA κ 21), .int (nI u)].toArray below meth c s.heap [] 0 0 (MQ below (va_Qi (fun r σ' => r = zb (fm_goes σ E u) ∧ σ' = σ) (zQ κ.1 vwCl (tysA κ) (wA κ) (va_A (wA κ σ) s.heap.size)) (va_A (wA κ σ) s.heap.size)) [.ref (aA κ 21), .int (nI u)].toArray s 0 0 (va_A (wA κ σ) s.heap.size)) (F0 m 0 ls [])
  generalize va_A (wA κ σ) s.heap.size = A at B ⊢
  have hts : ∀ w ∈ zW, w.before [.ref (aA κ 21), .int (nI u)].toArray s = true := fun w h => hts w (List.mem_cons_of_mem _ h)
  refine lv_aload_n hx hb d_Mo_goes_0 rfl (lv_at hl 0 rfl) ?_
  refine va_get (D := κ.1) (ci := 6) (v := .int (σ.1 25 0)) (C := "UnitThreadsModel") (T := T_Mo) (N := 26) hx hb hts in_Mo hown B.1 B.2.1 21 (wa_21 κ σ) rfl 1 (by decide) (hts _ w_409) (fun _ h9 => h9) rfl d_Mo_goes_1 ?_
  refine lv_if_ne (tgt := 29) hx hb d_Mo_goes_4 (by decide) (fun c_1 => ?_) (fun c_1 => ?_)
  · refine lv_iconst (v := 0) hx hb d_Mo_goes_29 (by decide) ?_
    exact zret_z hx hb hr rfl hlocks B (⟨by simp [zb, fm_goes, c_1], rfl⟩) d_Mo_goes_30
  · refine lv_aload_n hx hb d_Mo_goes_7 rfl (lv_at hl 0 rfl) ?_
    refine va_get (D := κ.1) (ci := 6) (v := .ref (aA κ 35)) (C := "UnitThreadsModel") (T := T_Mo) (N := 26) hx hb hts in_Mo hown B.1 B.2.1 21 (wa_21 κ σ) rfl 17 (by decide) (hts _ w_425) (fun _ h9 => h9) rfl d_Mo_goes_8 ?_
    refine lv_iload_n hx hb d_Mo_goes_11 rfl (lv_at hl 1 rfl) ?_
    refine ziald hx hb B 35 0 (wa_35 κ σ) rfl u rfl (by omega) (by decide) d_Mo_goes_12 ?_
    refine lv_iconst (v := (-1)) hx hb d_Mo_goes_13 (by decide) ?_
    refine lv_icmp_ne (tgt := 29) hx hb d_Mo_goes_14 (by decide) (fun c_2 => ?_) (fun c_2 => ?_)
    · refine lv_iconst (v := 0) hx hb d_Mo_goes_29 (by decide) ?_
      exact zret_z hx hb hr rfl hlocks B (⟨by simp [zb, fm_goes, c_1, c_2], rfl⟩) d_Mo_goes_30
    · refine lv_aload_n hx hb d_Mo_goes_17 rfl (lv_at hl 0 rfl) ?_
      refine lv_iload_n hx hb d_Mo_goes_18 rfl (lv_at hl 1 rfl) ?_
      refine zcV_i (As := [.int (nI u)]) (rest := []) ⟨hx, hb, hml, hown, hts⟩ (c_Mo_hasEnded l κ σ u (by omega) hn E hE hE3) (cwV 1 hts (zgoodV w_539 w_541 s_18 w_9 w_542) rfl rfl rfl (by decide +kernel) ⟨Nat.le_of_ble_eq_true rfl, Nat.le_of_ble_eq_true rfl⟩) B (zrecv B (ci := 6) rfl (wa_21 κ σ)) rfl hl.1 rfl (Nat.le_of_ble_eq_true rfl) d_Mo_goes_19 ⟨Nat.zero_le _, Nat.zero_le _⟩ (fun r σ' H locs hp B => ?_)
      obtain ⟨rfl, hp⟩ := hp
      rw [hp] at B
      have B : BA κ A s.heap s σ H locs := B
      refine lv_if_ne (tgt := 29) hx hb d_Mo_goes_22 (by decide) (fun c_3 => ?_) (fun c_3 => ?_)
      · have c_3 := zb_ne0.mp c_3
        refine lv_iconst (v := 0) hx hb d_Mo_goes_29 (by decide) ?_
        exact zret_z hx hb hr rfl hlocks B (⟨by simp [zb, fm_goes, c_1, c_2, c_3], rfl⟩) d_Mo_goes_30
      · have c_3 := zb_eq0.mp c_3
        refine lv_iconst (v := 1) hx hb d_Mo_goes_25 (by decide) ?_
        refine lv_goto (tgt := 30) hx hb d_Mo_goes_26 (by decide) ?_
        exact zret_z hx hb hr rfl hlocks B (⟨by simp [zb, fm_goes, c_1, c_2, c_3], rfl⟩) d_Mo_goes_30
set_option maxHeartbeats 4000000 in
set_option maxRecDepth 100000 in
theorem c_Mo_going (l : Launch) (κ : KA) (σ : zS) (hn : nA κ ≤ 8) (E : Nat) (hE : σ.1 34 0 = nI E) (hE3 : E ≤ 300) : zMi l y_Mo_going (zws y_Mo_going prog_8_method_14_code 3 (some .int)) ({ frames := 2, cells := 0, slots := 0, locals := 44 }) κ.1 vwCl (tysA κ) nwA (wA κ) σ [.ref (aA κ 21)] (fun r σ' => r = fm_going σ E (nA κ) 0 0 ∧ σ' = σ) := by
  refine zintro (cc := prog_8_method_14_code) (maxL := 3) (ret := (some .int)) (by decide) rfl (Nat.le_of_ble_eq_true rfl) ?_
  intro p e s m below meth c ls hx hb hr hml hts hown hlocks hl B
  have hl : lv_has ls 3 [(0, .ref (aA κ 21))] := hl
  have B : BA κ (va_A (wA κ σ) s.heap.size) s.heap s σ s.heap [] := B
  have hr : meth.sig.returnType = (some .int) := hr
  have hown : s.vm.findClass "UnitThreadsModel" = some m.cls := hown
  show W p l e (headSpec (zws y_Mo_going prog_8_method_14_code 3 (some .int)) ({ frames := 2, cells := 0, slots := 0, locals := 44 })).room s m [.ref (aA κ 21)].toArray below meth c s.heap [] 0 0 (MQ below (va_Qi (fun r σ' => r = fm_going σ E (nA κ) 0 0 ∧ σ' = σ) (zQ κ.1 vwCl (tysA κ) (wA κ) (va_A (wA κ σ) s.heap.size)) (va_A (wA κ σ) s.heap.size)) [.ref (aA κ 21)].toArray s 0 0 (va_A (wA κ σ) s.heap.size)) (F0 m 0 ls [])
  generalize va_A (wA κ σ) s.heap.size = A at B ⊢
  have hts : ∀ w ∈ zW, w.before [.ref (aA κ 21)].toArray s = true := fun w h => hts w (List.mem_cons_of_mem _ h)
  have L_4 : ∀ (j : Nat) (k : Nat) (r : Int32), (k + j = nA κ) → (fm_going σ E (nA κ) 0 0 = fm_going σ E j k r) → ∀ (H : Heap) (locs : List Loc), BA κ A s.heap s σ H locs → ∀ (ls : Array Slot), lv_has ls 3 [(0, .ref (aA κ 21)), (1, .int (r)), (2, .int (nI k))] → W p l e (headSpec (zws y_Mo_going prog_8_method_14_code 3 (some .int)) ({ frames := 2, cells := 0, slots := 0, locals := 44 })).room s m [.ref (aA κ 21)].toArray below meth c H locs 0 0 (MQ below (va_Qi (fun r σ' => r = fm_going σ E (nA κ) 0 0 ∧ σ' = σ) (zQ κ.1 vwCl (tysA κ) (wA κ) A) A) [.ref (aA κ 21)].toArray s 0 0 A) (F0 m 4 ls []) := by
    intro j
    induction j with
    | zero =>
      intro k r hj hst H locs B ls hl
      refine lv_iload_n hx hb d_Mo_going_4 rfl (lv_at hl 2 rfl) ?_
      refine lv_aload_n hx hb d_Mo_going_5 rfl (lv_at hl 0 rfl) ?_
      refine va_get (D := κ.1) (ci := 6) (v := .int (nI (nA κ))) (C := "UnitThreadsModel") (T := T_Mo) (N := 26) hx hb hts in_Mo hown B.1 B.2.1 21 (wa_21 κ σ) rfl 0 (by decide) (hts _ w_408) (fun _ h9 => h9) rfl d_Mo_going_6 ?_
      refine lv_icmp_ge (tgt := 34) hx hb d_Mo_going_9 (by decide) (fun c_1 => ?_) (fun c_1 => ?_)
      · have c_1 := (nI_leI (a := nA κ) (b := k) (by omega) (by omega)).mp c_1
        refine lv_iload_n hx hb d_Mo_going_34 rfl (lv_at hl 1 rfl) ?_
        exact zret_i hx hb hr hlocks B (⟨hst.symm, rfl⟩) d_Mo_going_35
      · have c_1 := (not_congr (nI_leI (a := nA κ) (b := k) (by omega) (by omega))).mp c_1
        exact absurd c_1 (by omega)
    | succ j ih =>
      intro k r hj hst H locs B ls hl
      refine lv_iload_n hx hb d_Mo_going_4 rfl (lv_at hl 2 rfl) ?_
      refine lv_aload_n hx hb d_Mo_going_5 rfl (lv_at hl 0 rfl) ?_
      refine va_get (D := κ.1) (ci := 6) (v := .int (nI (nA κ))) (C := "UnitThreadsModel") (T := T_Mo) (N := 26) hx hb hts in_Mo hown B.1 B.2.1 21 (wa_21 κ σ) rfl 0 (by decide) (hts _ w_408) (fun _ h9 => h9) rfl d_Mo_going_6 ?_
      refine lv_icmp_ge (tgt := 34) hx hb d_Mo_going_9 (by decide) (fun c_2 => ?_) (fun c_2 => ?_)
      · have c_2 := (nI_leI (a := nA κ) (b := k) (by omega) (by omega)).mp c_2
        exact absurd c_2 (by omega)
      · have c_2 := (not_congr (nI_leI (a := nA κ) (b := k) (by omega) (by omega))).mp c_2
        refine lv_iload_n hx hb d_Mo_going_12 rfl (lv_at hl 1 rfl) ?_
        refine lv_aload_n hx hb d_Mo_going_13 rfl (lv_at hl 0 rfl) ?_
        refine lv_iload_n hx hb d_Mo_going_14 rfl (lv_at hl 2 rfl) ?_
        refine zcV_i (As := [.int (nI k)]) (rest := [.int (r)]) ⟨hx, hb, hml, hown, hts⟩ (c_Mo_goes l κ σ k (by omega) hn E hE hE3) (cwV 1 hts (zgoodV w_535 w_537 s_17 w_9 w_538) rfl rfl rfl (by decide +kernel) ⟨Nat.le_of_ble_eq_true rfl, Nat.le_of_ble_eq_true rfl⟩) B (zrecv B (ci := 6) rfl (wa_21 κ σ)) rfl hl.1 rfl (Nat.le_of_ble_eq_true rfl) d_Mo_going_15 ⟨Nat.zero_le _, Nat.zero_le _⟩ (fun r σ' H locs hp B => ?_)
        obtain ⟨rfl, hp⟩ := hp
        rw [hp] at B
        have B : BA κ A s.heap s σ H locs := B
        refine lv_if_eq (tgt := 25) hx hb d_Mo_going_18 (by decide) (fun c_3 => ?_) (fun c_3 => ?_)
        · have c_3 := zb_eq0.mp c_3
          refine lv_iconst (v := 0) hx hb d_Mo_going_25 (by decide) ?_
          refine lv_iadd hx hb d_Mo_going_26 ?_
          refine lv_istore_n (lv' := [(1, .int (r + 0)), (0, .ref (aA κ 21)), (2, .int (nI k))]) hx hb d_Mo_going_27 rfl hl (by decide) rfl (fun ls hl => ?_)
          refine lv_iinc (v := nI (k + 1)) (lv' := [(2, .int (nI (k + 1))), (1, .int (r + 0)), (0, .ref (aA κ 21))]) hx hb d_Mo_going_28 hl (k := 2) rfl (zinc _) (by decide) rfl (fun ls hl => ?_)
          refine lv_goto (tgt := 4) hx hb d_Mo_going_31 (by decide) ?_
          exact ih (k + 1) (r + 0) (by omega) (by rw [hst]; simp [fm_going, c_2, c_3]) _ _ B ls (lv_sub hl [2, 1, 0] rfl)
        · have c_3 := zb_ne0.mp c_3
          refine lv_iconst (v := 1) hx hb d_Mo_going_21 (by decide) ?_
          refine lv_goto (tgt := 26) hx hb d_Mo_going_22 (by decide) ?_
          refine lv_iadd hx hb d_Mo_going_26 ?_
          refine lv_istore_n (lv' := [(1, .int (r + 1)), (0, .ref (aA κ 21)), (2, .int (nI k))]) hx hb d_Mo_going_27 rfl hl (by decide) rfl (fun ls hl => ?_)
          refine lv_iinc (v := nI (k + 1)) (lv' := [(2, .int (nI (k + 1))), (1, .int (r + 1)), (0, .ref (aA κ 21))]) hx hb d_Mo_going_28 hl (k := 2) rfl (zinc _) (by decide) rfl (fun ls hl => ?_)
          refine lv_goto (tgt := 4) hx hb d_Mo_going_31 (by decide) ?_
          exact ih (k + 1) (r + 1) (by omega) (by rw [hst]; simp [fm_going, c_2, c_3]) _ _ B ls (lv_sub hl [2, 1, 0] rfl)
  refine lv_iconst (v := 0) hx hb d_Mo_going_0 (by decide) ?_
  refine lv_istore_n (lv' := [(1, .int (0)), (0, .ref (aA κ 21))]) hx hb d_Mo_going_1 rfl hl (by decide) rfl (fun ls hl => ?_)
  refine lv_iconst (v := nI 0) hx hb d_Mo_going_2 (by decide) ?_
  refine lv_istore_n (lv' := [(2, .int (nI 0)), (1, .int (0)), (0, .ref (aA κ 21))]) hx hb d_Mo_going_3 rfl hl (by decide) rfl (fun ls hl => ?_)
  exact L_4 (nA κ) 0 0 (by omega) rfl _ _ B ls (lv_sub hl [2, 1, 0] rfl)
set_option maxHeartbeats 4000000 in
set_option maxRecDepth 100000 in
theorem c_Mo_isGive (l : Launch) (κ : KA) (σ : zS) (q : Nat) (E : Nat) (hE : σ.1 34 0 = nI E) (hE3 : E ≤ 300) (hq : q < E) : zMi l y_Mo_isGive (zws y_Mo_isGive prog_8_method_15_code 4 (some .boolean)) ({ frames := 0, cells := 0, slots := 0, locals := 0 }) κ.1 vwCl (tysA κ) nwA (wA κ) σ [.ref (aA κ 21), .int (nI q)] (fun r σ' => r = zb (fm_isGive σ E q) ∧ σ' = σ) := by
  refine zintro (cc := prog_8_method_15_code) (maxL := 4) (ret := (some .boolean)) (by decide) rfl (Nat.le_of_ble_eq_true rfl) ?_
  intro p e s m below meth c ls hx hb hr hml hts hown hlocks hl B
  have hl : lv_has ls 4 [(0, .ref (aA κ 21)), (1, .int (nI q))] := hl
  have B : BA κ (va_A (wA κ σ) s.heap.size) s.heap s σ s.heap [] := B
  have hr : meth.sig.returnType = (some .boolean) := hr
  have hown : s.vm.findClass "UnitThreadsModel" = some m.cls := hown
  show W p l e (headSpec (zws y_Mo_isGive prog_8_method_15_code 4 (some .boolean)) ({ frames := 0, cells := 0, slots := 0, locals := 0 })).room s m [.ref (aA κ 21), .int (nI q)].toArray below meth c s.heap [] 0 0 (MQ below (va_Qi (fun r σ' => r = zb (fm_isGive σ E q) ∧ σ' = σ) (zQ κ.1 vwCl (tysA κ) (wA κ) (va_A (wA κ σ) s.heap.size)) (va_A (wA κ σ) s.heap.size)) [.ref (aA κ 21), .int (nI q)].toArray s 0 0 (va_A (wA κ σ) s.heap.size)) (F0 m 0 ls [])
  generalize va_A (wA κ σ) s.heap.size = A at B ⊢
  have hts : ∀ w ∈ zW, w.before [.ref (aA κ 21), .int (nI q)].toArray s = true := fun w h => hts w (List.mem_cons_of_mem _ h)
  have L_4 : ∀ (j : Nat) (k : Nat) (r : Int32), (k + j = E) → (fm_giveN σ q E 0 0 = fm_giveN σ q j k r) → ∀ (H : Heap) (locs : List Loc), BA κ A s.heap s σ H locs → ∀ (ls : Array Slot), lv_has ls 4 [(0, .ref (aA κ 21)), (1, .int (nI q)), (2, .int (r)), (3, .int (nI k))] → W p l e (headSpec (zws y_Mo_isGive prog_8_method_15_code 4 (some .boolean)) ({ frames := 0, cells := 0, slots := 0, locals := 0 })).room s m [.ref (aA κ 21), .int (nI q)].toArray below meth c H locs 0 0 (MQ below (va_Qi (fun r σ' => r = zb (fm_isGive σ E q) ∧ σ' = σ) (zQ κ.1 vwCl (tysA κ) (wA κ) A) A) [.ref (aA κ 21), .int (nI q)].toArray s 0 0 A) (F0 m 4 ls []) := by
    intro j
    induction j with
    | zero =>
      intro k r hj hst H locs B ls hl
      refine lv_iload_n hx hb d_Mo_isGive_4 rfl (lv_at hl 3 rfl) ?_
      refine lv_aload_n hx hb d_Mo_isGive_5 rfl (lv_at hl 0 rfl) ?_
      refine va_get (D := κ.1) (ci := 6) (v := .int (σ.1 34 0)) (C := "UnitThreadsModel") (T := T_Mo) (N := 26) hx hb hts in_Mo hown B.1 B.2.1 21 (wa_21 κ σ) rfl 14 (by decide) (hts _ w_422) (fun _ h9 => h9) rfl d_Mo_isGive_6 ?_
      refine zrwi (y := nI E) (hE) ?_
      refine lv_icmp_ge (tgt := 81) hx hb d_Mo_isGive_9 (by decide) (fun c_1 => ?_) (fun c_1 => ?_)
      · have c_1 := (nI_leI (a := E) (b := k) (by omega) (by omega)).mp c_1
        refine lv_iload_n hx hb d_Mo_isGive_81 rfl (lv_at hl 2 rfl) ?_
        refine lv_iconst (v := 2) hx hb d_Mo_isGive_82 (by decide) ?_
        refine lv_irem hx hb d_Mo_isGive_83 (by decide) ?_
        refine lv_iconst (v := 1) hx hb d_Mo_isGive_84 (by decide) ?_
        refine lv_icmp_ne (tgt := 92) hx hb d_Mo_isGive_85 (by decide) (fun c_2 => ?_) (fun c_2 => ?_)
        · refine lv_iconst (v := 0) hx hb d_Mo_isGive_92 (by decide) ?_
          exact zret_z hx hb hr rfl hlocks B (⟨by rw [fm_isGive, hst]; simp [zb, fm_giveN, c_2], rfl⟩) d_Mo_isGive_93
        · refine lv_iconst (v := 1) hx hb d_Mo_isGive_88 (by decide) ?_
          refine lv_goto (tgt := 93) hx hb d_Mo_isGive_89 (by decide) ?_
          exact zret_z hx hb hr rfl hlocks B (⟨by rw [fm_isGive, hst]; simp [zb, fm_giveN, c_2], rfl⟩) d_Mo_isGive_93
      · have c_1 := (not_congr (nI_leI (a := E) (b := k) (by omega) (by omega))).mp c_1
        exact absurd c_1 (by omega)
    | succ j ih =>
      intro k r hj hst H locs B ls hl
      refine lv_iload_n hx hb d_Mo_isGive_4 rfl (lv_at hl 3 rfl) ?_
      refine lv_aload_n hx hb d_Mo_isGive_5 rfl (lv_at hl 0 rfl) ?_
      refine va_get (D := κ.1) (ci := 6) (v := .int (σ.1 34 0)) (C := "UnitThreadsModel") (T := T_Mo) (N := 26) hx hb hts in_Mo hown B.1 B.2.1 21 (wa_21 κ σ) rfl 14 (by decide) (hts _ w_422) (fun _ h9 => h9) rfl d_Mo_isGive_6 ?_
      refine zrwi (y := nI E) (hE) ?_
      refine lv_icmp_ge (tgt := 81) hx hb d_Mo_isGive_9 (by decide) (fun c_3 => ?_) (fun c_3 => ?_)
      · have c_3 := (nI_leI (a := E) (b := k) (by omega) (by omega)).mp c_3
        exact absurd c_3 (by omega)
      · have c_3 := (not_congr (nI_leI (a := E) (b := k) (by omega) (by omega))).mp c_3
        refine lv_iload_n hx hb d_Mo_isGive_12 rfl (lv_at hl 2 rfl) ?_
        refine lv_aload_n hx hb d_Mo_isGive_13 rfl (lv_at hl 0 rfl) ?_
        refine va_get (D := κ.1) (ci := 6) (v := .ref (aA κ 28)) (C := "UnitThreadsModel") (T := T_Mo) (N := 26) hx hb hts in_Mo hown B.1 B.2.1 21 (wa_21 κ σ) rfl 9 (by decide) (hts _ w_417) (fun _ h9 => h9) rfl d_Mo_isGive_14 ?_
        refine lv_iload_n hx hb d_Mo_isGive_17 rfl (lv_at hl 3 rfl) ?_
        refine ziald hx hb B 28 0 (wa_28 κ σ) rfl k rfl (by omega) (by decide) d_Mo_isGive_18 ?_
        refine lv_iconst (v := 1) hx hb d_Mo_isGive_19 (by decide) ?_
        refine lv_icmp_ne (tgt := 72) hx hb d_Mo_isGive_20 (by decide) (fun c_4 => ?_) (fun c_4 => ?_)
        · refine lv_iconst (v := 0) hx hb d_Mo_isGive_72 (by decide) ?_
          refine lv_iadd hx hb d_Mo_isGive_73 ?_
          refine lv_istore_n (lv' := [(2, .int (r + 0)), (0, .ref (aA κ 21)), (1, .int (nI q)), (3, .int (nI k))]) hx hb d_Mo_isGive_74 rfl hl (by decide) rfl (fun ls hl => ?_)
          refine lv_iinc (v := nI (k + 1)) (lv' := [(3, .int (nI (k + 1))), (2, .int (r + 0)), (0, .ref (aA κ 21)), (1, .int (nI q))]) hx hb d_Mo_isGive_75 hl (k := 3) rfl (zinc _) (by decide) rfl (fun ls hl => ?_)
          refine lv_goto (tgt := 4) hx hb d_Mo_isGive_78 (by decide) ?_
          exact ih (k + 1) (r + 0) (by omega) (by rw [hst]; simp [fm_giveN, c_3, c_4]) _ _ B ls (lv_sub hl [2, 3, 1, 0] rfl)
        · refine lv_aload_n hx hb d_Mo_isGive_23 rfl (lv_at hl 0 rfl) ?_
          refine va_get (D := κ.1) (ci := 6) (v := .ref (aA κ 29)) (C := "UnitThreadsModel") (T := T_Mo) (N := 26) hx hb hts in_Mo hown B.1 B.2.1 21 (wa_21 κ σ) rfl 10 (by decide) (hts _ w_418) (fun _ h9 => h9) rfl d_Mo_isGive_24 ?_
          refine lv_iload_n hx hb d_Mo_isGive_27 rfl (lv_at hl 3 rfl) ?_
          refine ziald hx hb B 29 0 (wa_29 κ σ) rfl k rfl (by omega) (by decide) d_Mo_isGive_28 ?_
          refine lv_aload_n hx hb d_Mo_isGive_29 rfl (lv_at hl 0 rfl) ?_
          refine va_get (D := κ.1) (ci := 6) (v := .ref (aA κ 29)) (C := "UnitThreadsModel") (T := T_Mo) (N := 26) hx hb hts in_Mo hown B.1 B.2.1 21 (wa_21 κ σ) rfl 10 (by decide) (hts _ w_418) (fun _ h9 => h9) rfl d_Mo_isGive_30 ?_
          refine lv_iload_n hx hb d_Mo_isGive_33 rfl (lv_at hl 1 rfl) ?_
          refine ziald hx hb B 29 0 (wa_29 κ σ) rfl q rfl (by omega) (by decide) d_Mo_isGive_34 ?_
          refine lv_icmp_ne (tgt := 72) hx hb d_Mo_isGive_35 (by decide) (fun c_5 => ?_) (fun c_5 => ?_)
          · refine lv_iconst (v := 0) hx hb d_Mo_isGive_72 (by decide) ?_
            refine lv_iadd hx hb d_Mo_isGive_73 ?_
            refine lv_istore_n (lv' := [(2, .int (r + 0)), (0, .ref (aA κ 21)), (1, .int (nI q)), (3, .int (nI k))]) hx hb d_Mo_isGive_74 rfl hl (by decide) rfl (fun ls hl => ?_)
            refine lv_iinc (v := nI (k + 1)) (lv' := [(3, .int (nI (k + 1))), (2, .int (r + 0)), (0, .ref (aA κ 21)), (1, .int (nI q))]) hx hb d_Mo_isGive_75 hl (k := 3) rfl (zinc _) (by decide) rfl (fun ls hl => ?_)
            refine lv_goto (tgt := 4) hx hb d_Mo_isGive_78 (by decide) ?_
            exact ih (k + 1) (r + 0) (by omega) (by rw [hst]; simp [fm_giveN, c_3, c_4, c_5]) _ _ B ls (lv_sub hl [2, 3, 1, 0] rfl)
          · refine lv_aload_n hx hb d_Mo_isGive_38 rfl (lv_at hl 0 rfl) ?_
            refine va_get (D := κ.1) (ci := 6) (v := .ref (aA κ 31)) (C := "UnitThreadsModel") (T := T_Mo) (N := 26) hx hb hts in_Mo hown B.1 B.2.1 21 (wa_21 κ σ) rfl 12 (by decide) (hts _ w_420) (fun _ h9 => h9) rfl d_Mo_isGive_39 ?_
            refine lv_iload_n hx hb d_Mo_isGive_42 rfl (lv_at hl 3 rfl) ?_
            refine ziald hx hb B 31 0 (wa_31 κ σ) rfl k rfl (by omega) (by decide) d_Mo_isGive_43 ?_
            refine lv_aload_n hx hb d_Mo_isGive_44 rfl (lv_at hl 0 rfl) ?_
            refine va_get (D := κ.1) (ci := 6) (v := .ref (aA κ 31)) (C := "UnitThreadsModel") (T := T_Mo) (N := 26) hx hb hts in_Mo hown B.1 B.2.1 21 (wa_21 κ σ) rfl 12 (by decide) (hts _ w_420) (fun _ h9 => h9) rfl d_Mo_isGive_45 ?_
            refine lv_iload_n hx hb d_Mo_isGive_48 rfl (lv_at hl 1 rfl) ?_
            refine ziald hx hb B 31 0 (wa_31 κ σ) rfl q rfl (by omega) (by decide) d_Mo_isGive_49 ?_
            refine lv_icmp_ne (tgt := 72) hx hb d_Mo_isGive_50 (by decide) (fun c_6 => ?_) (fun c_6 => ?_)
            · refine lv_iconst (v := 0) hx hb d_Mo_isGive_72 (by decide) ?_
              refine lv_iadd hx hb d_Mo_isGive_73 ?_
              refine lv_istore_n (lv' := [(2, .int (r + 0)), (0, .ref (aA κ 21)), (1, .int (nI q)), (3, .int (nI k))]) hx hb d_Mo_isGive_74 rfl hl (by decide) rfl (fun ls hl => ?_)
              refine lv_iinc (v := nI (k + 1)) (lv' := [(3, .int (nI (k + 1))), (2, .int (r + 0)), (0, .ref (aA κ 21)), (1, .int (nI q))]) hx hb d_Mo_isGive_75 hl (k := 3) rfl (zinc _) (by decide) rfl (fun ls hl => ?_)
              refine lv_goto (tgt := 4) hx hb d_Mo_isGive_78 (by decide) ?_
              exact ih (k + 1) (r + 0) (by omega) (by rw [hst]; simp [fm_giveN, c_3, c_4, c_5, c_6]) _ _ B ls (lv_sub hl [2, 3, 1, 0] rfl)
            · refine lv_aload_n hx hb d_Mo_isGive_53 rfl (lv_at hl 0 rfl) ?_
              refine va_get (D := κ.1) (ci := 6) (v := .ref (aA κ 30)) (C := "UnitThreadsModel") (T := T_Mo) (N := 26) hx hb hts in_Mo hown B.1 B.2.1 21 (wa_21 κ σ) rfl 11 (by decide) (hts _ w_419) (fun _ h9 => h9) rfl d_Mo_isGive_54 ?_
              refine lv_iload_n hx hb d_Mo_isGive_57 rfl (lv_at hl 3 rfl) ?_
              refine ziald hx hb B 30 0 (wa_30 κ σ) rfl k rfl (by omega) (by decide) d_Mo_isGive_58 ?_
              refine lv_aload_n hx hb d_Mo_isGive_59 rfl (lv_at hl 0 rfl) ?_
              refine va_get (D := κ.1) (ci := 6) (v := .ref (aA κ 30)) (C := "UnitThreadsModel") (T := T_Mo) (N := 26) hx hb hts in_Mo hown B.1 B.2.1 21 (wa_21 κ σ) rfl 11 (by decide) (hts _ w_419) (fun _ h9 => h9) rfl d_Mo_isGive_60 ?_
              refine lv_iload_n hx hb d_Mo_isGive_63 rfl (lv_at hl 1 rfl) ?_
              refine ziald hx hb B 30 0 (wa_30 κ σ) rfl q rfl (by omega) (by decide) d_Mo_isGive_64 ?_
              refine lv_icmp_ge (tgt := 72) hx hb d_Mo_isGive_65 (by decide) (fun c_7 => ?_) (fun c_7 => ?_)
              · refine lv_iconst (v := 0) hx hb d_Mo_isGive_72 (by decide) ?_
                refine lv_iadd hx hb d_Mo_isGive_73 ?_
                refine lv_istore_n (lv' := [(2, .int (r + 0)), (0, .ref (aA κ 21)), (1, .int (nI q)), (3, .int (nI k))]) hx hb d_Mo_isGive_74 rfl hl (by decide) rfl (fun ls hl => ?_)
                refine lv_iinc (v := nI (k + 1)) (lv' := [(3, .int (nI (k + 1))), (2, .int (r + 0)), (0, .ref (aA κ 21)), (1, .int (nI q))]) hx hb d_Mo_isGive_75 hl (k := 3) rfl (zinc _) (by decide) rfl (fun ls hl => ?_)
                refine lv_goto (tgt := 4) hx hb d_Mo_isGive_78 (by decide) ?_
                exact ih (k + 1) (r + 0) (by omega) (by rw [hst]; simp [fm_giveN, c_3, c_4, c_5, c_6, c_7]) _ _ B ls (lv_sub hl [2, 3, 1, 0] rfl)
              · refine lv_iconst (v := 1) hx hb d_Mo_isGive_68 (by decide) ?_
                refine lv_goto (tgt := 73) hx hb d_Mo_isGive_69 (by decide) ?_
                refine lv_iadd hx hb d_Mo_isGive_73 ?_
                refine lv_istore_n (lv' := [(2, .int (r + 1)), (0, .ref (aA κ 21)), (1, .int (nI q)), (3, .int (nI k))]) hx hb d_Mo_isGive_74 rfl hl (by decide) rfl (fun ls hl => ?_)
                refine lv_iinc (v := nI (k + 1)) (lv' := [(3, .int (nI (k + 1))), (2, .int (r + 1)), (0, .ref (aA κ 21)), (1, .int (nI q))]) hx hb d_Mo_isGive_75 hl (k := 3) rfl (zinc _) (by decide) rfl (fun ls hl => ?_)
                refine lv_goto (tgt := 4) hx hb d_Mo_isGive_78 (by decide) ?_
                exact ih (k + 1) (r + 1) (by omega) (by rw [hst]; simp [fm_giveN, c_3, c_4, c_5, c_6, c_7]) _ _ B ls (lv_sub hl [2, 3, 1, 0] rfl)
  refine lv_iconst (v := 0) hx hb d_Mo_isGive_0 (by decide) ?_
  refine lv_istore_n (lv' := [(2, .int (0)), (0, .ref (aA κ 21)), (1, .int (nI q))]) hx hb d_Mo_isGive_1 rfl hl (by decide) rfl (fun ls hl => ?_)
  refine lv_iconst (v := nI 0) hx hb d_Mo_isGive_2 (by decide) ?_
  refine lv_istore_n (lv' := [(3, .int (nI 0)), (2, .int (0)), (0, .ref (aA κ 21)), (1, .int (nI q))]) hx hb d_Mo_isGive_3 rfl hl (by decide) rfl (fun ls hl => ?_)
  exact L_4 E 0 0 (by omega) rfl _ _ B ls (lv_sub hl [2, 3, 1, 0] rfl)
set_option maxHeartbeats 4000000 in
set_option maxRecDepth 100000 in
theorem c_Mo_isNow (l : Launch) (κ : KA) (σ : zS) (q : Nat) (p2 : Int32) (u : Nat) (hq : q < 300) (hu : u < nA κ) (hn : nA κ ≤ 8) : zMi l y_Mo_isNow (zws y_Mo_isNow prog_8_method_16_code 4 (some .boolean)) ({ frames := 0, cells := 0, slots := 0, locals := 0 }) κ.1 vwCl (tysA κ) nwA (wA κ) σ [.ref (aA κ 21), .int (nI q), .int (p2), .int (nI u)] (fun r σ' => r = zb (fm_isNow σ q p2 u) ∧ σ' = σ) := by
  refine zintro (cc := prog_8_method_16_code) (maxL := 4) (ret := (some .boolean)) (by decide) rfl (Nat.le_of_ble_eq_true rfl) ?_
  intro p e s m below meth c ls hx hb hr hml hts hown hlocks hl B
  have hl : lv_has ls 4 [(0, .ref (aA κ 21)), (1, .int (nI q)), (2, .int (p2)), (3, .int (nI u))] := hl
  have B : BA κ (va_A (wA κ σ) s.heap.size) s.heap s σ s.heap [] := B
  have hr : meth.sig.returnType = (some .boolean) := hr
  have hown : s.vm.findClass "UnitThreadsModel" = some m.cls := hown
  show W p l e (headSpec (zws y_Mo_isNow prog_8_method_16_code 4 (some .boolean)) ({ frames := 0, cells := 0, slots := 0, locals := 0 })).room s m [.ref (aA κ 21), .int (nI q), .int (p2), .int (nI u)].toArray below meth c s.heap [] 0 0 (MQ below (va_Qi (fun r σ' => r = zb (fm_isNow σ q p2 u) ∧ σ' = σ) (zQ κ.1 vwCl (tysA κ) (wA κ) (va_A (wA κ σ) s.heap.size)) (va_A (wA κ σ) s.heap.size)) [.ref (aA κ 21), .int (nI q), .int (p2), .int (nI u)].toArray s 0 0 (va_A (wA κ σ) s.heap.size)) (F0 m 0 ls [])
  generalize va_A (wA κ σ) s.heap.size = A at B ⊢
  have hts : ∀ w ∈ zW, w.before [.ref (aA κ 21), .int (nI q), .int (p2), .int (nI u)].toArray s = true := fun w h => hts w (List.mem_cons_of_mem _ h)
  refine lv_aload_n hx hb d_Mo_isNow_0 rfl (lv_at hl 0 rfl) ?_
  refine va_get (D := κ.1) (ci := 6) (v := .ref (aA κ 28)) (C := "UnitThreadsModel") (T := T_Mo) (N := 26) hx hb hts in_Mo hown B.1 B.2.1 21 (wa_21 κ σ) rfl 9 (by decide) (hts _ w_417) (fun _ h9 => h9) rfl d_Mo_isNow_1 ?_
  refine lv_iload_n hx hb d_Mo_isNow_4 rfl (lv_at hl 1 rfl) ?_
  refine ziald hx hb B 28 0 (wa_28 κ σ) rfl q rfl (by omega) (by decide) d_Mo_isNow_5 ?_
  refine lv_iload_n hx hb d_Mo_isNow_6 rfl (lv_at hl 2 rfl) ?_
  refine lv_icmp_ne (tgt := 39) hx hb d_Mo_isNow_7 (by decide) (fun c_1 => ?_) (fun c_1 => ?_)
  · refine lv_iconst (v := 0) hx hb d_Mo_isNow_39 (by decide) ?_
    exact zret_z hx hb hr rfl hlocks B (⟨by simp [zb, fm_isNow, c_1], rfl⟩) d_Mo_isNow_40
  · refine lv_aload_n hx hb d_Mo_isNow_10 rfl (lv_at hl 0 rfl) ?_
    refine va_get (D := κ.1) (ci := 6) (v := .ref (aA κ 29)) (C := "UnitThreadsModel") (T := T_Mo) (N := 26) hx hb hts in_Mo hown B.1 B.2.1 21 (wa_21 κ σ) rfl 10 (by decide) (hts _ w_418) (fun _ h9 => h9) rfl d_Mo_isNow_11 ?_
    refine lv_iload_n hx hb d_Mo_isNow_14 rfl (lv_at hl 1 rfl) ?_
    refine ziald hx hb B 29 0 (wa_29 κ σ) rfl q rfl (by omega) (by decide) d_Mo_isNow_15 ?_
    refine lv_iload_n hx hb d_Mo_isNow_16 rfl (lv_at hl 3 rfl) ?_
    refine lv_icmp_ne (tgt := 39) hx hb d_Mo_isNow_17 (by decide) (fun c_2 => ?_) (fun c_2 => ?_)
    · refine lv_iconst (v := 0) hx hb d_Mo_isNow_39 (by decide) ?_
      exact zret_z hx hb hr rfl hlocks B (⟨by simp [zb, fm_isNow, c_1, c_2], rfl⟩) d_Mo_isNow_40
    · refine lv_aload_n hx hb d_Mo_isNow_20 rfl (lv_at hl 0 rfl) ?_
      refine va_get (D := κ.1) (ci := 6) (v := .ref (aA κ 30)) (C := "UnitThreadsModel") (T := T_Mo) (N := 26) hx hb hts in_Mo hown B.1 B.2.1 21 (wa_21 κ σ) rfl 11 (by decide) (hts _ w_419) (fun _ h9 => h9) rfl d_Mo_isNow_21 ?_
      refine lv_iload_n hx hb d_Mo_isNow_24 rfl (lv_at hl 1 rfl) ?_
      refine ziald hx hb B 30 0 (wa_30 κ σ) rfl q rfl (by omega) (by decide) d_Mo_isNow_25 ?_
      refine lv_aload_n hx hb d_Mo_isNow_26 rfl (lv_at hl 0 rfl) ?_
      refine va_get (D := κ.1) (ci := 6) (v := .ref (aA κ 33)) (C := "UnitThreadsModel") (T := T_Mo) (N := 26) hx hb hts in_Mo hown B.1 B.2.1 21 (wa_21 κ σ) rfl 15 (by decide) (hts _ w_423) (fun _ h9 => h9) rfl d_Mo_isNow_27 ?_
      refine lv_iload_n hx hb d_Mo_isNow_30 rfl (lv_at hl 3 rfl) ?_
      refine ziald hx hb B 33 0 (wa_33 κ σ) rfl u rfl (by omega) (by decide) d_Mo_isNow_31 ?_
      refine lv_icmp_ne (tgt := 39) hx hb d_Mo_isNow_32 (by decide) (fun c_3 => ?_) (fun c_3 => ?_)
      · refine lv_iconst (v := 0) hx hb d_Mo_isNow_39 (by decide) ?_
        exact zret_z hx hb hr rfl hlocks B (⟨by simp [zb, fm_isNow, c_1, c_2, c_3], rfl⟩) d_Mo_isNow_40
      · refine lv_iconst (v := 1) hx hb d_Mo_isNow_35 (by decide) ?_
        refine lv_goto (tgt := 40) hx hb d_Mo_isNow_36 (by decide) ?_
        exact zret_z hx hb hr rfl hlocks B (⟨by simp [zb, fm_isNow, c_1, c_2, c_3], rfl⟩) d_Mo_isNow_40
set_option maxHeartbeats 4000000 in
set_option maxRecDepth 100000 in
theorem c_Mo_output (l : Launch) (κ : KA) (σ : zS) (p1 p2 : Int32) (hn : nA κ ≤ 8) (b : Nat) (hd : σ.1 26 0 = nI b) (hb64 : b ≤ 64) : zMl l y_Mo_output (zws y_Mo_output prog_8_method_24_code 3 (some .long)) ({ frames := 1, cells := 0, slots := 0, locals := 22 }) κ.1 vwCl (tysA κ) nwA (wA κ) σ [.ref (aA κ 21), .int (p1), .int (p2)] (fun r σ' => r = fm_output (nA κ) σ p1 p2 ∧ σ' = σ) := by
  refine zintro (cc := prog_8_method_24_code) (maxL := 3) (ret := (some .long)) (by decide) rfl (Nat.le_of_ble_eq_true rfl) ?_
  intro p e s m below meth c ls hx hb hr hml hts hown hlocks hl B
  have hl : lv_has ls 3 [(0, .ref (aA κ 21)), (1, .int (p1)), (2, .int (p2))] := hl
  have B : BA κ (va_A (wA κ σ) s.heap.size) s.heap s σ s.heap [] := B
  have hr : meth.sig.returnType = (some .long) := hr
  have hown : s.vm.findClass "UnitThreadsModel" = some m.cls := hown
  show W p l e (headSpec (zws y_Mo_output prog_8_method_24_code 3 (some .long)) ({ frames := 1, cells := 0, slots := 0, locals := 22 })).room s m [.ref (aA κ 21), .int (p1), .int (p2)].toArray below meth c s.heap [] 0 0 (MQ below (va_Ql (fun r σ' => r = fm_output (nA κ) σ p1 p2 ∧ σ' = σ) (zQ κ.1 vwCl (tysA κ) (wA κ) (va_A (wA κ σ) s.heap.size)) (va_A (wA κ σ) s.heap.size)) [.ref (aA κ 21), .int (p1), .int (p2)].toArray s 0 0 (va_A (wA κ σ) s.heap.size)) (F0 m 0 ls [])
  generalize va_A (wA κ σ) s.heap.size = A at B ⊢
  have hts : ∀ w ∈ zW, w.before [.ref (aA κ 21), .int (p1), .int (p2)].toArray s = true := fun w h => hts w (List.mem_cons_of_mem _ h)
  refine lv_iload_n hx hb d_Mo_output_0 rfl (lv_at hl 1 rfl) ?_
  refine lv_iconst (v := 0) hx hb d_Mo_output_1 (by decide) ?_
  refine lv_iconst (v := 4) hx hb d_Mo_output_2 (by decide) ?_
  refine lv_aload_n hx hb d_Mo_output_3 rfl (lv_at hl 0 rfl) ?_
  refine va_get (D := κ.1) (ci := 6) (v := .int (nI (nA κ))) (C := "UnitThreadsModel") (T := T_Mo) (N := 26) hx hb hts in_Mo hown B.1 B.2.1 21 (wa_21 κ σ) rfl 0 (by decide) (hts _ w_408) (fun _ h9 => h9) rfl d_Mo_output_4 ?_
  refine lv_imul hx hb d_Mo_output_7 ?_
  refine lv_iconst (v := 1) hx hb d_Mo_output_8 (by decide) ?_
  refine lv_isub hx hb d_Mo_output_9 ?_
  refine zcS_i (As := [.int (p1), .int (0), .int ((4 * (nI (nA κ))) - 1)]) (rest := []) ⟨hx, hb, hml, hown, hts⟩ (c_Mo_isIn l κ σ p1 0 ((4 * (nI (nA κ))) - 1) ) (cwS 3 hts (zgoodS w_496 w_497 w_9 w_498) rfl rfl rfl (by decide +kernel) ⟨Nat.le_of_ble_eq_true rfl, Nat.le_of_ble_eq_true rfl⟩) B rfl hl.1 rfl (Nat.le_of_ble_eq_true rfl) d_Mo_output_10 ⟨Nat.zero_le _, Nat.zero_le _⟩ (fun r σ' H locs hp B => ?_)
  obtain ⟨rfl, hp⟩ := hp
  rw [hp] at B
  have B : BA κ A s.heap s σ H locs := B
  refine lv_if_eq (tgt := 30) hx hb d_Mo_output_13 (by decide) (fun c_1 => ?_) (fun c_1 => ?_)
  · have c_1 := zb_eq0.mp c_1
    refine lv_lconst (v := 0) hx hb d_Mo_output_30 (by decide) ?_
    exact zret_l hx hb hr hlocks B (⟨by simp [zb, fm_output, c_1], rfl⟩) d_Mo_output_31
  · have c_1 := zb_ne0.mp c_1
    refine lv_iload_n hx hb d_Mo_output_16 rfl (lv_at hl 2 rfl) ?_
    refine lv_iconst (v := (-1)) hx hb d_Mo_output_17 (by decide) ?_
    refine lv_aload_n hx hb d_Mo_output_18 rfl (lv_at hl 0 rfl) ?_
    refine va_get (D := κ.1) (ci := 6) (v := .int (σ.1 26 0)) (C := "UnitThreadsModel") (T := T_Mo) (N := 26) hx hb hts in_Mo hown B.1 B.2.1 21 (wa_21 κ σ) rfl 2 (by decide) (hts _ w_410) (fun _ h9 => h9) rfl d_Mo_output_19 ?_
    refine lv_iconst (v := 1) hx hb d_Mo_output_22 (by decide) ?_
    refine lv_isub hx hb d_Mo_output_23 ?_
    refine zcS_i (As := [.int (p2), .int ((-1)), .int ((σ.1 26 0) - 1)]) (rest := []) ⟨hx, hb, hml, hown, hts⟩ (c_Mo_isIn l κ σ p2 (-1) ((σ.1 26 0) - 1) ) (cwS 3 hts (zgoodS w_496 w_497 w_9 w_498) rfl rfl rfl (by decide +kernel) ⟨Nat.le_of_ble_eq_true rfl, Nat.le_of_ble_eq_true rfl⟩) B rfl hl.1 rfl (Nat.le_of_ble_eq_true rfl) d_Mo_output_24 ⟨Nat.zero_le _, Nat.zero_le _⟩ (fun r σ' H locs hp B => ?_)
    obtain ⟨rfl, hp⟩ := hp
    rw [hp] at B
    have B : BA κ A s.heap s σ H locs := B
    refine lv_if_ne (tgt := 32) hx hb d_Mo_output_27 (by decide) (fun c_2 => ?_) (fun c_2 => ?_)
    · have c_2 := zb_ne0.mp c_2
      refine lv_iload_n hx hb d_Mo_output_32 rfl (lv_at hl 2 rfl) ?_
      refine lv_iconst (v := (-1)) hx hb d_Mo_output_33 (by decide) ?_
      refine lv_icmp_ne (tgt := 46) hx hb d_Mo_output_34 (by decide) (fun c_3 => ?_) (fun c_3 => ?_)
      · refine lv_aload_n hx hb d_Mo_output_46 rfl (lv_at hl 0 rfl) ?_
        refine va_get (D := κ.1) (ci := 6) (v := .ref (aA κ 25)) (C := "UnitThreadsModel") (T := T_Mo) (N := 26) hx hb hts in_Mo hown B.1 B.2.1 21 (wa_21 κ σ) rfl 6 (by decide) (hts _ w_414) (fun _ h9 => h9) rfl d_Mo_output_47 ?_
        refine lv_bipush (v := nI 32) hx hb d_Mo_output_50 (by decide) ?_
        refine lv_iload_n hx hb d_Mo_output_52 rfl (lv_at hl 2 rfl) ?_
        refine lv_imul hx hb d_Mo_output_53 ?_
        refine zrwi (y := nI (32 * tn p2)) (zmul8 (fm_in_m1 (by rw [← hd]; exact c_2) c_3 (by omega)).1) ?_
        refine lv_iload_n hx hb d_Mo_output_54 rfl (lv_at hl 1 rfl) ?_
        refine lv_iadd hx hb d_Mo_output_55 ?_
        refine zrwi (y := nI (32 * tn p2 + tn p1)) (zaddp (fm_out_in c_1 hn).1) ?_
        refine zlald hx hb B 25 1 (wa_25 κ σ) rfl (32 * tn p2 + tn p1) rfl (by have h1 := (fm_in_m1 (N := b) (by rw [← hd]; exact c_2) c_3 (by omega)).2; have h2 := (fm_out_in c_1 hn).2; omega) (by decide) d_Mo_output_56 ?_
        exact zret_l hx hb hr hlocks B (⟨by rw [fm_output, if_pos ⟨c_1, c_2⟩]; simp [c_3], rfl⟩) d_Mo_output_57
      · refine lv_aload_n hx hb d_Mo_output_37 rfl (lv_at hl 0 rfl) ?_
        refine va_get (D := κ.1) (ci := 6) (v := .ref (aA κ 22)) (C := "UnitThreadsModel") (T := T_Mo) (N := 26) hx hb hts in_Mo hown B.1 B.2.1 21 (wa_21 κ σ) rfl 3 (by decide) (hts _ w_411) (fun _ h9 => h9) rfl d_Mo_output_38 ?_
        refine lv_iload_n hx hb d_Mo_output_41 rfl (lv_at hl 1 rfl) ?_
        refine zlald hx hb B 22 1 (wa_22 κ σ) rfl (tn p1) ((fm_out_in c_1 hn).1) (by have h := (fm_out_in c_1 hn).2; omega) (by decide) d_Mo_output_42 ?_
        refine lv_goto (tgt := 57) hx hb d_Mo_output_43 (by decide) ?_
        exact zret_l hx hb hr hlocks B (⟨by rw [fm_output, if_pos ⟨c_1, c_2⟩]; simp [c_3], rfl⟩) d_Mo_output_57
    · have c_2 := zb_eq0.mp c_2
      refine lv_lconst (v := 0) hx hb d_Mo_output_30 (by decide) ?_
      exact zret_l hx hb hr hlocks B (⟨by simp [zb, fm_output, c_1, c_2], rfl⟩) d_Mo_output_31
set_option maxHeartbeats 4000000 in
set_option maxRecDepth 100000 in
theorem c_Mo_owner (l : Launch) (κ : KA) (σ : zS) (p1 p2 : Int32) (b : Nat) (hd : σ.1 26 0 = nI b) (hb64 : b ≤ 64) : zMi l y_Mo_owner (zws y_Mo_owner prog_8_method_25_code 3 (some .int)) ({ frames := 1, cells := 0, slots := 0, locals := 22 }) κ.1 vwCl (tysA κ) nwA (wA κ) σ [.ref (aA κ 21), .int (p1), .int (p2)] (fun r σ' => r = fm_owner σ p1 p2 ∧ σ' = σ) := by
  refine zintro (cc := prog_8_method_25_code) (maxL := 3) (ret := (some .int)) (by decide) rfl (Nat.le_of_ble_eq_true rfl) ?_
  intro p e s m below meth c ls hx hb hr hml hts hown hlocks hl B
  have hl : lv_has ls 3 [(0, .ref (aA κ 21)), (1, .int (p1)), (2, .int (p2))] := hl
  have B : BA κ (va_A (wA κ σ) s.heap.size) s.heap s σ s.heap [] := B
  have hr : meth.sig.returnType = (some .int) := hr
  have hown : s.vm.findClass "UnitThreadsModel" = some m.cls := hown
  show W p l e (headSpec (zws y_Mo_owner prog_8_method_25_code 3 (some .int)) ({ frames := 1, cells := 0, slots := 0, locals := 22 })).room s m [.ref (aA κ 21), .int (p1), .int (p2)].toArray below meth c s.heap [] 0 0 (MQ below (va_Qi (fun r σ' => r = fm_owner σ p1 p2 ∧ σ' = σ) (zQ κ.1 vwCl (tysA κ) (wA κ) (va_A (wA κ σ) s.heap.size)) (va_A (wA κ σ) s.heap.size)) [.ref (aA κ 21), .int (p1), .int (p2)].toArray s 0 0 (va_A (wA κ σ) s.heap.size)) (F0 m 0 ls [])
  generalize va_A (wA κ σ) s.heap.size = A at B ⊢
  have hts : ∀ w ∈ zW, w.before [.ref (aA κ 21), .int (p1), .int (p2)].toArray s = true := fun w h => hts w (List.mem_cons_of_mem _ h)
  refine lv_iload_n hx hb d_Mo_owner_0 rfl (lv_at hl 1 rfl) ?_
  refine lv_iconst (v := 0) hx hb d_Mo_owner_1 (by decide) ?_
  refine lv_bipush (v := 15) hx hb d_Mo_owner_2 (by decide) ?_
  refine zcS_i (As := [.int (p1), .int (0), .int (15)]) (rest := []) ⟨hx, hb, hml, hown, hts⟩ (c_Mo_isIn l κ σ p1 0 15 ) (cwS 3 hts (zgoodS w_496 w_497 w_9 w_498) rfl rfl rfl (by decide +kernel) ⟨Nat.le_of_ble_eq_true rfl, Nat.le_of_ble_eq_true rfl⟩) B rfl hl.1 rfl (Nat.le_of_ble_eq_true rfl) d_Mo_owner_4 ⟨Nat.zero_le _, Nat.zero_le _⟩ (fun r σ' H locs hp B => ?_)
  obtain ⟨rfl, hp⟩ := hp
  rw [hp] at B
  have B : BA κ A s.heap s σ H locs := B
  refine lv_if_eq (tgt := 24) hx hb d_Mo_owner_7 (by decide) (fun c_1 => ?_) (fun c_1 => ?_)
  · have c_1 := zb_eq0.mp c_1
    refine lv_iconst (v := (-1)) hx hb d_Mo_owner_24 (by decide) ?_
    exact zret_i hx hb hr hlocks B (⟨by simp [zb, fm_owner, c_1], rfl⟩) d_Mo_owner_25
  · have c_1 := zb_ne0.mp c_1
    refine lv_iload_n hx hb d_Mo_owner_10 rfl (lv_at hl 2 rfl) ?_
    refine lv_iconst (v := (-1)) hx hb d_Mo_owner_11 (by decide) ?_
    refine lv_aload_n hx hb d_Mo_owner_12 rfl (lv_at hl 0 rfl) ?_
    refine va_get (D := κ.1) (ci := 6) (v := .int (σ.1 26 0)) (C := "UnitThreadsModel") (T := T_Mo) (N := 26) hx hb hts in_Mo hown B.1 B.2.1 21 (wa_21 κ σ) rfl 2 (by decide) (hts _ w_410) (fun _ h9 => h9) rfl d_Mo_owner_13 ?_
    refine lv_iconst (v := 1) hx hb d_Mo_owner_16 (by decide) ?_
    refine lv_isub hx hb d_Mo_owner_17 ?_
    refine zcS_i (As := [.int (p2), .int ((-1)), .int ((σ.1 26 0) - 1)]) (rest := []) ⟨hx, hb, hml, hown, hts⟩ (c_Mo_isIn l κ σ p2 (-1) ((σ.1 26 0) - 1) ) (cwS 3 hts (zgoodS w_496 w_497 w_9 w_498) rfl rfl rfl (by decide +kernel) ⟨Nat.le_of_ble_eq_true rfl, Nat.le_of_ble_eq_true rfl⟩) B rfl hl.1 rfl (Nat.le_of_ble_eq_true rfl) d_Mo_owner_18 ⟨Nat.zero_le _, Nat.zero_le _⟩ (fun r σ' H locs hp B => ?_)
    obtain ⟨rfl, hp⟩ := hp
    rw [hp] at B
    have B : BA κ A s.heap s σ H locs := B
    refine lv_if_ne (tgt := 26) hx hb d_Mo_owner_21 (by decide) (fun c_2 => ?_) (fun c_2 => ?_)
    · have c_2 := zb_ne0.mp c_2
      refine lv_iload_n hx hb d_Mo_owner_26 rfl (lv_at hl 2 rfl) ?_
      refine lv_iconst (v := (-1)) hx hb d_Mo_owner_27 (by decide) ?_
      refine lv_icmp_ne (tgt := 40) hx hb d_Mo_owner_28 (by decide) (fun c_3 => ?_) (fun c_3 => ?_)
      · refine lv_aload_n hx hb d_Mo_owner_40 rfl (lv_at hl 0 rfl) ?_
        refine va_get (D := κ.1) (ci := 6) (v := .ref (aA κ 26)) (C := "UnitThreadsModel") (T := T_Mo) (N := 26) hx hb hts in_Mo hown B.1 B.2.1 21 (wa_21 κ σ) rfl 7 (by decide) (hts _ w_415) (fun _ h9 => h9) rfl d_Mo_owner_41 ?_
        refine lv_bipush (v := nI 16) hx hb d_Mo_owner_44 (by decide) ?_
        refine lv_iload_n hx hb d_Mo_owner_46 rfl (lv_at hl 2 rfl) ?_
        refine lv_imul hx hb d_Mo_owner_47 ?_
        refine zrwi (y := nI (16 * tn p2)) (zmul8 (fm_in_m1 (by rw [← hd]; exact c_2) c_3 (by omega)).1) ?_
        refine lv_iload_n hx hb d_Mo_owner_48 rfl (lv_at hl 1 rfl) ?_
        refine lv_iadd hx hb d_Mo_owner_49 ?_
        refine zrwi (y := nI (16 * tn p2 + tn p1)) (zaddp (fm_in_nat (N := 15) c_1 (by omega)).1) ?_
        refine ziald hx hb B 26 0 (wa_26 κ σ) rfl (16 * tn p2 + tn p1) rfl (by have h1 := (fm_in_m1 (N := b) (by rw [← hd]; exact c_2) c_3 (by omega)).2; have h2 := (fm_in_nat (N := 15) c_1 (by omega)).2; omega) (by decide) d_Mo_owner_50 ?_
        exact zret_i hx hb hr hlocks B (⟨by rw [fm_owner, if_pos ⟨c_1, c_2⟩]; simp [c_3], rfl⟩) d_Mo_owner_51
      · refine lv_aload_n hx hb d_Mo_owner_31 rfl (lv_at hl 0 rfl) ?_
        refine va_get (D := κ.1) (ci := 6) (v := .ref (aA κ 24)) (C := "UnitThreadsModel") (T := T_Mo) (N := 26) hx hb hts in_Mo hown B.1 B.2.1 21 (wa_21 κ σ) rfl 5 (by decide) (hts _ w_413) (fun _ h9 => h9) rfl d_Mo_owner_32 ?_
        refine lv_iload_n hx hb d_Mo_owner_35 rfl (lv_at hl 1 rfl) ?_
        refine ziald hx hb B 24 0 (wa_24 κ σ) rfl (tn p1) ((fm_in_nat (N := 15) c_1 (by omega)).1) (by have h := (fm_in_nat (N := 15) c_1 (by omega)).2; omega) (by decide) d_Mo_owner_36 ?_
        refine lv_goto (tgt := 51) hx hb d_Mo_owner_37 (by decide) ?_
        exact zret_i hx hb hr hlocks B (⟨by rw [fm_owner, if_pos ⟨c_1, c_2⟩]; simp [c_3], rfl⟩) d_Mo_owner_51
    · have c_2 := zb_eq0.mp c_2
      refine lv_iconst (v := (-1)) hx hb d_Mo_owner_24 (by decide) ?_
      exact zret_i hx hb hr hlocks B (⟨by simp [zb, fm_owner, c_1, c_2], rfl⟩) d_Mo_owner_25
set_option maxHeartbeats 4000000 in
set_option maxRecDepth 100000 in
theorem c_Mo_state (l : Launch) (κ : KA) (σ : zS) (p1 : Int32) (hn : nA κ ≤ 8) (E : Nat) (hE : σ.1 34 0 = nI E) (hE3 : E ≤ 300) : zMi l y_Mo_state (zws y_Mo_state prog_8_method_26_code 2 (some .int)) ({ frames := 2, cells := 0, slots := 0, locals := 43 }) κ.1 vwCl (tysA κ) nwA (wA κ) σ [.ref (aA κ 21), .int (p1)] (fun r σ' => r = fm_state (nA κ) E σ p1 ∧ σ' = σ) := by
  refine zintro (cc := prog_8_method_26_code) (maxL := 2) (ret := (some .int)) (by decide) rfl (Nat.le_of_ble_eq_true rfl) ?_
  intro p e s m below meth c ls hx hb hr hml hts hown hlocks hl B
  have hl : lv_has ls 2 [(0, .ref (aA κ 21)), (1, .int (p1))] := hl
  have B : BA κ (va_A (wA κ σ) s.heap.size) s.heap s σ s.heap [] := B
  have hr : meth.sig.returnType = (some .int) := hr
  have hown : s.vm.findClass "UnitThreadsModel" = some m.cls := hown
  show W p l e (headSpec (zws y_Mo_state prog_8_method_26_code 2 (some .int)) ({ frames := 2, cells := 0, slots := 0, locals := 43 })).room s m [.ref (aA κ 21), .int (p1)].toArray below meth c s.heap [] 0 0 (MQ below (va_Qi (fun r σ' => r = fm_state (nA κ) E σ p1 ∧ σ' = σ) (zQ κ.1 vwCl (tysA κ) (wA κ) (va_A (wA κ σ) s.heap.size)) (va_A (wA κ σ) s.heap.size)) [.ref (aA κ 21), .int (p1)].toArray s 0 0 (va_A (wA κ σ) s.heap.size)) (F0 m 0 ls [])
  generalize va_A (wA κ σ) s.heap.size = A at B ⊢
  have hts : ∀ w ∈ zW, w.before [.ref (aA κ 21), .int (p1)].toArray s = true := fun w h => hts w (List.mem_cons_of_mem _ h)
  refine lv_aload_n hx hb d_Mo_state_0 rfl (lv_at hl 0 rfl) ?_
  refine lv_iload_n hx hb d_Mo_state_1 rfl (lv_at hl 1 rfl) ?_
  refine zcV_i (As := [.int (p1)]) (rest := []) ⟨hx, hb, hml, hown, hts⟩ (c_Mo_isUnit l κ σ p1 ) (cwV 1 hts (zgoodV w_492 w_494 s_12 w_9 w_495) rfl rfl rfl (by decide +kernel) ⟨Nat.le_of_ble_eq_true rfl, Nat.le_of_ble_eq_true rfl⟩) B (zrecv B (ci := 6) rfl (wa_21 κ σ)) rfl hl.1 rfl (Nat.le_of_ble_eq_true rfl) d_Mo_state_2 ⟨Nat.zero_le _, Nat.zero_le _⟩ (fun r σ' H locs hp B => ?_)
  obtain ⟨rfl, hp⟩ := hp
  rw [hp] at B
  have B : BA κ A s.heap s σ H locs := B
  refine lv_if_ne (tgt := 10) hx hb d_Mo_state_5 (by decide) (fun c_1 => ?_) (fun c_1 => ?_)
  · have c_1 := zb_ne0.mp c_1
    refine lv_aload_n hx hb d_Mo_state_10 rfl (lv_at hl 0 rfl) ?_
    refine va_get (D := κ.1) (ci := 6) (v := .int (σ.1 25 0)) (C := "UnitThreadsModel") (T := T_Mo) (N := 26) hx hb hts in_Mo hown B.1 B.2.1 21 (wa_21 κ σ) rfl 1 (by decide) (hts _ w_409) (fun _ h9 => h9) rfl d_Mo_state_11 ?_
    refine lv_if_eq (tgt := 21) hx hb d_Mo_state_14 (by decide) (fun c_2 => ?_) (fun c_2 => ?_)
    · refine lv_aload_n hx hb d_Mo_state_21 rfl (lv_at hl 0 rfl) ?_
      refine va_get (D := κ.1) (ci := 6) (v := .ref (aA κ 35)) (C := "UnitThreadsModel") (T := T_Mo) (N := 26) hx hb hts in_Mo hown B.1 B.2.1 21 (wa_21 κ σ) rfl 17 (by decide) (hts _ w_425) (fun _ h9 => h9) rfl d_Mo_state_22 ?_
      refine lv_iload_n hx hb d_Mo_state_25 rfl (lv_at hl 1 rfl) ?_
      refine ziald hx hb B 35 0 (wa_35 κ σ) rfl (tn p1) ((fm_isUnit_in c_1 hn).1) (by have h := (fm_isUnit_in c_1 hn).2; omega) (by decide) d_Mo_state_26 ?_
      refine lv_iconst (v := (-1)) hx hb d_Mo_state_27 (by decide) ?_
      refine lv_icmp_eq (tgt := 35) hx hb d_Mo_state_28 (by decide) (fun c_3 => ?_) (fun c_3 => ?_)
      · refine lv_aload_n hx hb d_Mo_state_35 rfl (lv_at hl 0 rfl) ?_
        refine lv_iload_n hx hb d_Mo_state_36 rfl (lv_at hl 1 rfl) ?_
        refine zrwi (y := nI (tn p1)) ((fm_isUnit_in c_1 hn).1) ?_
        refine zcV_i (As := [.int (nI (tn p1))]) (rest := []) ⟨hx, hb, hml, hown, hts⟩ (c_Mo_hasEnded l κ σ (tn p1) (fm_isUnit_in c_1 hn).2 hn E hE hE3) (cwV 1 hts (zgoodV w_539 w_541 s_18 w_9 w_542) rfl rfl rfl (by decide +kernel) ⟨Nat.le_of_ble_eq_true rfl, Nat.le_of_ble_eq_true rfl⟩) B (zrecv B (ci := 6) rfl (wa_21 κ σ)) rfl hl.1 rfl (Nat.le_of_ble_eq_true rfl) d_Mo_state_37 ⟨Nat.zero_le _, Nat.zero_le _⟩ (fun r σ' H locs hp B => ?_)
        obtain ⟨rfl, hp⟩ := hp
        rw [hp] at B
        have B : BA κ A s.heap s σ H locs := B
        refine lv_if_eq (tgt := 47) hx hb d_Mo_state_40 (by decide) (fun c_4 => ?_) (fun c_4 => ?_)
        · have c_4 := zb_eq0.mp c_4
          refine lv_aload_n hx hb d_Mo_state_47 rfl (lv_at hl 0 rfl) ?_
          refine va_get (D := κ.1) (ci := 6) (v := .ref (aA κ 34)) (C := "UnitThreadsModel") (T := T_Mo) (N := 26) hx hb hts in_Mo hown B.1 B.2.1 21 (wa_21 κ σ) rfl 16 (by decide) (hts _ w_424) (fun _ h9 => h9) rfl d_Mo_state_48 ?_
          refine lv_iload_n hx hb d_Mo_state_51 rfl (lv_at hl 1 rfl) ?_
          refine zzald hx hb B 34 3 (wa_34 κ σ) rfl (tn p1) ((fm_isUnit_in c_1 hn).1) (by have h := (fm_isUnit_in c_1 hn).2; omega) (by decide) d_Mo_state_52 ?_
          refine lv_if_eq (tgt := 60) hx hb d_Mo_state_53 (by decide) (fun c_5 => ?_) (fun c_5 => ?_)
          · refine lv_iconst (v := 0) hx hb d_Mo_state_60 (by decide) ?_
            exact zret_i hx hb hr hlocks B (⟨by simp [zb, fm_state, c_1, c_2, c_3, c_4, c_5], rfl⟩) d_Mo_state_61
          · refine lv_iconst (v := 1) hx hb d_Mo_state_56 (by decide) ?_
            refine lv_goto (tgt := 61) hx hb d_Mo_state_57 (by decide) ?_
            exact zret_i hx hb hr hlocks B (⟨by simp [zb, fm_state, c_1, c_2, c_3, c_4, c_5], rfl⟩) d_Mo_state_61
        · have c_4 := zb_ne0.mp c_4
          refine lv_iconst (v := 3) hx hb d_Mo_state_43 (by decide) ?_
          refine lv_goto (tgt := 61) hx hb d_Mo_state_44 (by decide) ?_
          exact zret_i hx hb hr hlocks B (⟨by simp [zb, fm_state, c_1, c_2, c_3, c_4], rfl⟩) d_Mo_state_61
      · refine lv_iconst (v := 2) hx hb d_Mo_state_31 (by decide) ?_
        refine lv_goto (tgt := 61) hx hb d_Mo_state_32 (by decide) ?_
        exact zret_i hx hb hr hlocks B (⟨by simp [zb, fm_state, c_1, c_2, c_3], rfl⟩) d_Mo_state_61
    · refine lv_iconst (v := 4) hx hb d_Mo_state_17 (by decide) ?_
      refine lv_goto (tgt := 61) hx hb d_Mo_state_18 (by decide) ?_
      exact zret_i hx hb hr hlocks B (⟨by simp [zb, fm_state, c_1, c_2], rfl⟩) d_Mo_state_61
  · have c_1 := zb_eq0.mp c_1
    refine lv_iconst (v := (-1)) hx hb d_Mo_state_8 (by decide) ?_
    exact zret_i hx hb hr hlocks B (⟨by simp [zb, fm_state, c_1], rfl⟩) d_Mo_state_9
set_option maxHeartbeats 4000000 in
set_option maxRecDepth 100000 in
theorem c_Mo_restart (l : Launch) (κ : KA) (σ : zS) (p1 : Int32) (hn : nA κ ≤ 8) : zMi l y_Mo_restart (zws y_Mo_restart prog_8_method_27_code 2 (some .boolean)) ({ frames := 2, cells := 0, slots := 0, locals := 43 }) κ.1 vwCl (tysA κ) nwA (wA κ) σ [.ref (aA κ 21), .int (p1)] (fun r σ' => r = zb (fm_restB (nA κ) σ p1) ∧ σ' = fm_restS (nA κ) σ p1) := by
  refine zintro (cc := prog_8_method_27_code) (maxL := 2) (ret := (some .boolean)) (by decide) rfl (Nat.le_of_ble_eq_true rfl) ?_
  intro p e s m below meth c ls hx hb hr hml hts hown hlocks hl B
  have hl : lv_has ls 2 [(0, .ref (aA κ 21)), (1, .int (p1))] := hl
  have B : BA κ (va_A (wA κ σ) s.heap.size) s.heap s σ s.heap [] := B
  have hr : meth.sig.returnType = (some .boolean) := hr
  have hown : s.vm.findClass "UnitThreadsModel" = some m.cls := hown
  show W p l e (headSpec (zws y_Mo_restart prog_8_method_27_code 2 (some .boolean)) ({ frames := 2, cells := 0, slots := 0, locals := 43 })).room s m [.ref (aA κ 21), .int (p1)].toArray below meth c s.heap [] 0 0 (MQ below (va_Qi (fun r σ' => r = zb (fm_restB (nA κ) σ p1) ∧ σ' = fm_restS (nA κ) σ p1) (zQ κ.1 vwCl (tysA κ) (wA κ) (va_A (wA κ σ) s.heap.size)) (va_A (wA κ σ) s.heap.size)) [.ref (aA κ 21), .int (p1)].toArray s 0 0 (va_A (wA κ σ) s.heap.size)) (F0 m 0 ls [])
  generalize va_A (wA κ σ) s.heap.size = A at B ⊢
  have hts : ∀ w ∈ zW, w.before [.ref (aA κ 21), .int (p1)].toArray s = true := fun w h => hts w (List.mem_cons_of_mem _ h)
  refine lv_aload_n hx hb d_Mo_restart_0 rfl (lv_at hl 0 rfl) ?_
  refine lv_iload_n hx hb d_Mo_restart_1 rfl (lv_at hl 1 rfl) ?_
  refine zcV_i (As := [.int (p1)]) (rest := []) ⟨hx, hb, hml, hown, hts⟩ (c_Mo_isUnit l κ σ p1 ) (cwV 1 hts (zgoodV w_492 w_494 s_12 w_9 w_495) rfl rfl rfl (by decide +kernel) ⟨Nat.le_of_ble_eq_true rfl, Nat.le_of_ble_eq_true rfl⟩) B (zrecv B (ci := 6) rfl (wa_21 κ σ)) rfl hl.1 rfl (Nat.le_of_ble_eq_true rfl) d_Mo_restart_2 ⟨Nat.zero_le _, Nat.zero_le _⟩ (fun r σ' H locs hp B => ?_)
  obtain ⟨rfl, hp⟩ := hp
  rw [hp] at B
  have B : BA κ A s.heap s σ H locs := B
  refine lv_if_eq (tgt := 25) hx hb d_Mo_restart_5 (by decide) (fun c_1 => ?_) (fun c_1 => ?_)
  · have c_1 := zb_eq0.mp c_1
    refine lv_iconst (v := 0) hx hb d_Mo_restart_25 (by decide) ?_
    exact zret_z hx hb hr rfl hlocks B (⟨by simp [zb, fm_restS, fm_restB, c_1], by simp [zb, fm_restS, fm_restB, c_1]⟩) d_Mo_restart_26
  · have c_1 := zb_ne0.mp c_1
    refine lv_aload_n hx hb d_Mo_restart_8 rfl (lv_at hl 0 rfl) ?_
    refine va_get (D := κ.1) (ci := 6) (v := .int (σ.1 25 0)) (C := "UnitThreadsModel") (T := T_Mo) (N := 26) hx hb hts in_Mo hown B.1 B.2.1 21 (wa_21 κ σ) rfl 1 (by decide) (hts _ w_409) (fun _ h9 => h9) rfl d_Mo_restart_9 ?_
    refine lv_if_ne (tgt := 25) hx hb d_Mo_restart_12 (by decide) (fun c_2 => ?_) (fun c_2 => ?_)
    · refine lv_iconst (v := 0) hx hb d_Mo_restart_25 (by decide) ?_
      exact zret_z hx hb hr rfl hlocks B (⟨by simp [zb, fm_restS, fm_restB, c_1, c_2], by simp [zb, fm_restS, fm_restB, c_1, c_2]⟩) d_Mo_restart_26
    · refine lv_aload_n hx hb d_Mo_restart_15 rfl (lv_at hl 0 rfl) ?_
      refine va_get (D := κ.1) (ci := 6) (v := .ref (aA κ 35)) (C := "UnitThreadsModel") (T := T_Mo) (N := 26) hx hb hts in_Mo hown B.1 B.2.1 21 (wa_21 κ σ) rfl 17 (by decide) (hts _ w_425) (fun _ h9 => h9) rfl d_Mo_restart_16 ?_
      refine lv_iload_n hx hb d_Mo_restart_19 rfl (lv_at hl 1 rfl) ?_
      refine ziald hx hb B 35 0 (wa_35 κ σ) rfl (tn p1) ((fm_isUnit_in c_1 hn).1) (by have h := (fm_isUnit_in c_1 hn).2; omega) (by decide) d_Mo_restart_20 ?_
      refine lv_iconst (v := (-1)) hx hb d_Mo_restart_21 (by decide) ?_
      refine lv_icmp_ne (tgt := 27) hx hb d_Mo_restart_22 (by decide) (fun c_3 => ?_) (fun c_3 => ?_)
      · refine lv_aload_n hx hb d_Mo_restart_27 rfl (lv_at hl 0 rfl) ?_
        refine va_get (D := κ.1) (ci := 6) (v := .ref (aA κ 35)) (C := "UnitThreadsModel") (T := T_Mo) (N := 26) hx hb hts in_Mo hown B.1 B.2.1 21 (wa_21 κ σ) rfl 17 (by decide) (hts _ w_425) (fun _ h9 => h9) rfl d_Mo_restart_28 ?_
        refine lv_iload_n hx hb d_Mo_restart_31 rfl (lv_at hl 1 rfl) ?_
        refine lv_iconst (v := (-1)) hx hb d_Mo_restart_32 (by decide) ?_
        refine ziast hx hb B 35 0 (wa_35 κ σ) rfl (tn p1) ((fm_isUnit_in c_1 hn).1) (by have h := (fm_isUnit_in c_1 hn).2; omega) (by decide) (ws_35 κ σ (tn p1) (-1)) d_Mo_restart_33 (fun H locs B => ?_)
        have B : BA κ A s.heap s (zi σ 37 (tn p1) (-1)) H locs := B
        refine lv_iconst (v := 1) hx hb d_Mo_restart_34 (by decide) ?_
        exact zret_z hx hb hr rfl hlocks B (⟨by simp [zb, fm_restS, fm_restB, c_1, c_2, c_3], by simp [zb, fm_restS, fm_restB, c_1, c_2, c_3]⟩) d_Mo_restart_35
      · refine lv_iconst (v := 0) hx hb d_Mo_restart_25 (by decide) ?_
        exact zret_z hx hb hr rfl hlocks B (⟨by simp [zb, fm_restS, fm_restB, c_1, c_2, c_3], by simp [zb, fm_restS, fm_restB, c_1, c_2, c_3]⟩) d_Mo_restart_26
set_option maxHeartbeats 4000000 in
set_option maxRecDepth 100000 in
theorem c_Mo_held (l : Launch) (κ : KA) (σ : zS) (p1 : Int32) (hn : nA κ ≤ 8) : zMi l y_Mo_held (zws y_Mo_held prog_8_method_28_code 2 (some .int)) ({ frames := 2, cells := 0, slots := 0, locals := 43 }) κ.1 vwCl (tysA κ) nwA (wA κ) σ [.ref (aA κ 21), .int (p1)] (fun r σ' => r = fm_held (nA κ) σ p1 ∧ σ' = σ) := by
  refine zintro (cc := prog_8_method_28_code) (maxL := 2) (ret := (some .int)) (by decide) rfl (Nat.le_of_ble_eq_true rfl) ?_
  intro p e s m below meth c ls hx hb hr hml hts hown hlocks hl B
  have hl : lv_has ls 2 [(0, .ref (aA κ 21)), (1, .int (p1))] := hl
  have B : BA κ (va_A (wA κ σ) s.heap.size) s.heap s σ s.heap [] := B
  have hr : meth.sig.returnType = (some .int) := hr
  have hown : s.vm.findClass "UnitThreadsModel" = some m.cls := hown
  show W p l e (headSpec (zws y_Mo_held prog_8_method_28_code 2 (some .int)) ({ frames := 2, cells := 0, slots := 0, locals := 43 })).room s m [.ref (aA κ 21), .int (p1)].toArray below meth c s.heap [] 0 0 (MQ below (va_Qi (fun r σ' => r = fm_held (nA κ) σ p1 ∧ σ' = σ) (zQ κ.1 vwCl (tysA κ) (wA κ) (va_A (wA κ σ) s.heap.size)) (va_A (wA κ σ) s.heap.size)) [.ref (aA κ 21), .int (p1)].toArray s 0 0 (va_A (wA κ σ) s.heap.size)) (F0 m 0 ls [])
  generalize va_A (wA κ σ) s.heap.size = A at B ⊢
  have hts : ∀ w ∈ zW, w.before [.ref (aA κ 21), .int (p1)].toArray s = true := fun w h => hts w (List.mem_cons_of_mem _ h)
  refine lv_aload_n hx hb d_Mo_held_0 rfl (lv_at hl 0 rfl) ?_
  refine lv_iload_n hx hb d_Mo_held_1 rfl (lv_at hl 1 rfl) ?_
  refine zcV_i (As := [.int (p1)]) (rest := []) ⟨hx, hb, hml, hown, hts⟩ (c_Mo_isUnit l κ σ p1 ) (cwV 1 hts (zgoodV w_492 w_494 s_12 w_9 w_495) rfl rfl rfl (by decide +kernel) ⟨Nat.le_of_ble_eq_true rfl, Nat.le_of_ble_eq_true rfl⟩) B (zrecv B (ci := 6) rfl (wa_21 κ σ)) rfl hl.1 rfl (Nat.le_of_ble_eq_true rfl) d_Mo_held_2 ⟨Nat.zero_le _, Nat.zero_le _⟩ (fun r σ' H locs hp B => ?_)
  obtain ⟨rfl, hp⟩ := hp
  rw [hp] at B
  have B : BA κ A s.heap s σ H locs := B
  refine lv_if_eq (tgt := 24) hx hb d_Mo_held_5 (by decide) (fun c_1 => ?_) (fun c_1 => ?_)
  · have c_1 := zb_eq0.mp c_1
    refine lv_iconst (v := (-1)) hx hb d_Mo_held_24 (by decide) ?_
    exact zret_i hx hb hr hlocks B (⟨by simp [zb, fm_held, c_1], rfl⟩) d_Mo_held_25
  · have c_1 := zb_ne0.mp c_1
    refine lv_aload_n hx hb d_Mo_held_8 rfl (lv_at hl 0 rfl) ?_
    refine va_get (D := κ.1) (ci := 6) (v := .int (σ.1 25 0)) (C := "UnitThreadsModel") (T := T_Mo) (N := 26) hx hb hts in_Mo hown B.1 B.2.1 21 (wa_21 κ σ) rfl 1 (by decide) (hts _ w_409) (fun _ h9 => h9) rfl d_Mo_held_9 ?_
    refine lv_if_ne (tgt := 24) hx hb d_Mo_held_12 (by decide) (fun c_2 => ?_) (fun c_2 => ?_)
    · refine lv_iconst (v := (-1)) hx hb d_Mo_held_24 (by decide) ?_
      exact zret_i hx hb hr hlocks B (⟨by simp [zb, fm_held, c_1, c_2], rfl⟩) d_Mo_held_25
    · refine lv_aload_n hx hb d_Mo_held_15 rfl (lv_at hl 0 rfl) ?_
      refine va_get (D := κ.1) (ci := 6) (v := .ref (aA κ 35)) (C := "UnitThreadsModel") (T := T_Mo) (N := 26) hx hb hts in_Mo hown B.1 B.2.1 21 (wa_21 κ σ) rfl 17 (by decide) (hts _ w_425) (fun _ h9 => h9) rfl d_Mo_held_16 ?_
      refine lv_iload_n hx hb d_Mo_held_19 rfl (lv_at hl 1 rfl) ?_
      refine ziald hx hb B 35 0 (wa_35 κ σ) rfl (tn p1) ((fm_isUnit_in c_1 hn).1) (by have h := (fm_isUnit_in c_1 hn).2; omega) (by decide) d_Mo_held_20 ?_
      refine lv_goto (tgt := 25) hx hb d_Mo_held_21 (by decide) ?_
      exact zret_i hx hb hr hlocks B (⟨by simp [zb, fm_held, c_1, c_2], rfl⟩) d_Mo_held_25
set_option maxHeartbeats 4000000 in
set_option maxRecDepth 100000 in
theorem c_Mo_log (l : Launch) (κ : KA) (σ : zS) (p1 p2 : Int32) (t : Nat) (ht : σ.1 41 0 = nI t) (ht5 : t ≤ 512) : zMi l y_Mo_log (zws y_Mo_log prog_8_method_29_code 3 (some .int)) ({ frames := 1, cells := 0, slots := 0, locals := 22 }) κ.1 vwCl (tysA κ) nwA (wA κ) σ [.ref (aA κ 21), .int (p1), .int (p2)] (fun r σ' => r = fm_log σ p1 p2 ∧ σ' = σ) := by
  refine zintro (cc := prog_8_method_29_code) (maxL := 3) (ret := (some .int)) (by decide) rfl (Nat.le_of_ble_eq_true rfl) ?_
  intro p e s m below meth c ls hx hb hr hml hts hown hlocks hl B
  have hl : lv_has ls 3 [(0, .ref (aA κ 21)), (1, .int (p1)), (2, .int (p2))] := hl
  have B : BA κ (va_A (wA κ σ) s.heap.size) s.heap s σ s.heap [] := B
  have hr : meth.sig.returnType = (some .int) := hr
  have hown : s.vm.findClass "UnitThreadsModel" = some m.cls := hown
  show W p l e (headSpec (zws y_Mo_log prog_8_method_29_code 3 (some .int)) ({ frames := 1, cells := 0, slots := 0, locals := 22 })).room s m [.ref (aA κ 21), .int (p1), .int (p2)].toArray below meth c s.heap [] 0 0 (MQ below (va_Qi (fun r σ' => r = fm_log σ p1 p2 ∧ σ' = σ) (zQ κ.1 vwCl (tysA κ) (wA κ) (va_A (wA κ σ) s.heap.size)) (va_A (wA κ σ) s.heap.size)) [.ref (aA κ 21), .int (p1), .int (p2)].toArray s 0 0 (va_A (wA κ σ) s.heap.size)) (F0 m 0 ls [])
  generalize va_A (wA κ σ) s.heap.size = A at B ⊢
  have hts : ∀ w ∈ zW, w.before [.ref (aA κ 21), .int (p1), .int (p2)].toArray s = true := fun w h => hts w (List.mem_cons_of_mem _ h)
  refine lv_iload_n hx hb d_Mo_log_0 rfl (lv_at hl 1 rfl) ?_
  refine lv_iconst (v := 0) hx hb d_Mo_log_1 (by decide) ?_
  refine lv_aload_n hx hb d_Mo_log_2 rfl (lv_at hl 0 rfl) ?_
  refine va_get (D := κ.1) (ci := 6) (v := .int (σ.1 41 0)) (C := "UnitThreadsModel") (T := T_Mo) (N := 26) hx hb hts in_Mo hown B.1 B.2.1 21 (wa_21 κ σ) rfl 21 (by decide) (hts _ w_429) (fun _ h9 => h9) rfl d_Mo_log_3 ?_
  refine lv_iconst (v := 1) hx hb d_Mo_log_6 (by decide) ?_
  refine lv_isub hx hb d_Mo_log_7 ?_
  refine zcS_i (As := [.int (p1), .int (0), .int ((σ.1 41 0) - 1)]) (rest := []) ⟨hx, hb, hml, hown, hts⟩ (c_Mo_isIn l κ σ p1 0 ((σ.1 41 0) - 1) ) (cwS 3 hts (zgoodS w_496 w_497 w_9 w_498) rfl rfl rfl (by decide +kernel) ⟨Nat.le_of_ble_eq_true rfl, Nat.le_of_ble_eq_true rfl⟩) B rfl hl.1 rfl (Nat.le_of_ble_eq_true rfl) d_Mo_log_8 ⟨Nat.zero_le _, Nat.zero_le _⟩ (fun r σ' H locs hp B => ?_)
  obtain ⟨rfl, hp⟩ := hp
  rw [hp] at B
  have B : BA κ A s.heap s σ H locs := B
  refine lv_if_ne (tgt := 16) hx hb d_Mo_log_11 (by decide) (fun c_1 => ?_) (fun c_1 => ?_)
  · have c_1 := zb_ne0.mp c_1
    refine lv_iload_n hx hb d_Mo_log_16 rfl (lv_at hl 2 rfl) ?_
    refine lv_if_ne (tgt := 29) hx hb d_Mo_log_17 (by decide) (fun c_2 => ?_) (fun c_2 => ?_)
    · refine lv_iload_n hx hb d_Mo_log_29 rfl (lv_at hl 2 rfl) ?_
      refine lv_iconst (v := 1) hx hb d_Mo_log_30 (by decide) ?_
      refine lv_icmp_ne (tgt := 43) hx hb d_Mo_log_31 (by decide) (fun c_3 => ?_) (fun c_3 => ?_)
      · refine lv_iload_n hx hb d_Mo_log_43 rfl (lv_at hl 2 rfl) ?_
        refine lv_iconst (v := 2) hx hb d_Mo_log_44 (by decide) ?_
        refine lv_icmp_ne (tgt := 57) hx hb d_Mo_log_45 (by decide) (fun c_4 => ?_) (fun c_4 => ?_)
        · refine lv_iconst (v := (-1)) hx hb d_Mo_log_57 (by decide) ?_
          exact zret_i hx hb hr hlocks B (⟨by simp [zb, fm_log, c_1, c_2, c_3, c_4], rfl⟩) d_Mo_log_58
        · refine lv_aload_n hx hb d_Mo_log_48 rfl (lv_at hl 0 rfl) ?_
          refine va_get (D := κ.1) (ci := 6) (v := .ref (aA κ 38)) (C := "UnitThreadsModel") (T := T_Mo) (N := 26) hx hb hts in_Mo hown B.1 B.2.1 21 (wa_21 κ σ) rfl 20 (by decide) (hts _ w_428) (fun _ h9 => h9) rfl d_Mo_log_49 ?_
          refine lv_iload_n hx hb d_Mo_log_52 rfl (lv_at hl 1 rfl) ?_
          refine ziald hx hb B 38 0 (wa_38 κ σ) rfl (tn p1) ((fm_in_lt (by rw [← ht]; exact c_1) (by omega)).1) (by have h := (fm_in_lt (N := t) (by rw [← ht]; exact c_1) (by omega)).2; omega) (by decide) d_Mo_log_53 ?_
          refine lv_goto (tgt := 58) hx hb d_Mo_log_54 (by decide) ?_
          exact zret_i hx hb hr hlocks B (⟨by simp [zb, fm_log, c_1, c_2, c_3, c_4], rfl⟩) d_Mo_log_58
      · refine lv_aload_n hx hb d_Mo_log_34 rfl (lv_at hl 0 rfl) ?_
        refine va_get (D := κ.1) (ci := 6) (v := .ref (aA κ 37)) (C := "UnitThreadsModel") (T := T_Mo) (N := 26) hx hb hts in_Mo hown B.1 B.2.1 21 (wa_21 κ σ) rfl 19 (by decide) (hts _ w_427) (fun _ h9 => h9) rfl d_Mo_log_35 ?_
        refine lv_iload_n hx hb d_Mo_log_38 rfl (lv_at hl 1 rfl) ?_
        refine ziald hx hb B 37 0 (wa_37 κ σ) rfl (tn p1) ((fm_in_lt (by rw [← ht]; exact c_1) (by omega)).1) (by have h := (fm_in_lt (N := t) (by rw [← ht]; exact c_1) (by omega)).2; omega) (by decide) d_Mo_log_39 ?_
        refine lv_goto (tgt := 58) hx hb d_Mo_log_40 (by decide) ?_
        exact zret_i hx hb hr hlocks B (⟨by simp [zb, fm_log, c_1, c_2, c_3], rfl⟩) d_Mo_log_58
    · refine lv_aload_n hx hb d_Mo_log_20 rfl (lv_at hl 0 rfl) ?_
      refine va_get (D := κ.1) (ci := 6) (v := .ref (aA κ 36)) (C := "UnitThreadsModel") (T := T_Mo) (N := 26) hx hb hts in_Mo hown B.1 B.2.1 21 (wa_21 κ σ) rfl 18 (by decide) (hts _ w_426) (fun _ h9 => h9) rfl d_Mo_log_21 ?_
      refine lv_iload_n hx hb d_Mo_log_24 rfl (lv_at hl 1 rfl) ?_
      refine ziald hx hb B 36 0 (wa_36 κ σ) rfl (tn p1) ((fm_in_lt (by rw [← ht]; exact c_1) (by omega)).1) (by have h := (fm_in_lt (N := t) (by rw [← ht]; exact c_1) (by omega)).2; omega) (by decide) d_Mo_log_25 ?_
      refine lv_goto (tgt := 58) hx hb d_Mo_log_26 (by decide) ?_
      exact zret_i hx hb hr hlocks B (⟨by simp [zb, fm_log, c_1, c_2], rfl⟩) d_Mo_log_58
  · have c_1 := zb_eq0.mp c_1
    refine lv_iconst (v := (-1)) hx hb d_Mo_log_14 (by decide) ?_
    exact zret_i hx hb hr hlocks B (⟨by simp [zb, fm_log, c_1], rfl⟩) d_Mo_log_15
set_option maxHeartbeats 4000000 in
set_option maxRecDepth 100000 in
theorem c_Mo_count (l : Launch) (κ : KA) (σ : zS) (p1 : Int32) (hn : nA κ ≤ 8) (E : Nat) (hE : σ.1 34 0 = nI E) (hE3 : E ≤ 300) : zMi l y_Mo_count (zws y_Mo_count prog_8_method_30_code 2 (some .int)) ({ frames := 3, cells := 0, slots := 0, locals := 66 }) κ.1 vwCl (tysA κ) nwA (wA κ) σ [.ref (aA κ 21), .int (p1)] (fun r σ' => r = fm_count (nA κ) E σ p1 ∧ σ' = σ) := by
  refine zintro (cc := prog_8_method_30_code) (maxL := 2) (ret := (some .int)) (by decide) rfl (Nat.le_of_ble_eq_true rfl) ?_
  intro p e s m below meth c ls hx hb hr hml hts hown hlocks hl B
  have hl : lv_has ls 2 [(0, .ref (aA κ 21)), (1, .int (p1))] := hl
  have B : BA κ (va_A (wA κ σ) s.heap.size) s.heap s σ s.heap [] := B
  have hr : meth.sig.returnType = (some .int) := hr
  have hown : s.vm.findClass "UnitThreadsModel" = some m.cls := hown
  show W p l e (headSpec (zws y_Mo_count prog_8_method_30_code 2 (some .int)) ({ frames := 3, cells := 0, slots := 0, locals := 66 })).room s m [.ref (aA κ 21), .int (p1)].toArray below meth c s.heap [] 0 0 (MQ below (va_Qi (fun r σ' => r = fm_count (nA κ) E σ p1 ∧ σ' = σ) (zQ κ.1 vwCl (tysA κ) (wA κ) (va_A (wA κ σ) s.heap.size)) (va_A (wA κ σ) s.heap.size)) [.ref (aA κ 21), .int (p1)].toArray s 0 0 (va_A (wA κ σ) s.heap.size)) (F0 m 0 ls [])
  generalize va_A (wA κ σ) s.heap.size = A at B ⊢
  have hts : ∀ w ∈ zW, w.before [.ref (aA κ 21), .int (p1)].toArray s = true := fun w h => hts w (List.mem_cons_of_mem _ h)
  refine lv_iload_n hx hb d_Mo_count_0 rfl (lv_at hl 1 rfl) ?_
  refine lv_iconst (v := 4) hx hb d_Mo_count_1 (by decide) ?_
  refine lv_iconst (v := 3) hx hb d_Mo_count_2 (by decide) ?_
  refine lv_aload_n hx hb d_Mo_count_3 rfl (lv_at hl 0 rfl) ?_
  refine va_get (D := κ.1) (ci := 6) (v := .int (nI (nA κ))) (C := "UnitThreadsModel") (T := T_Mo) (N := 26) hx hb hts in_Mo hown B.1 B.2.1 21 (wa_21 κ σ) rfl 0 (by decide) (hts _ w_408) (fun _ h9 => h9) rfl d_Mo_count_4 ?_
  refine lv_iadd hx hb d_Mo_count_7 ?_
  refine zcS_i (As := [.int (p1), .int (4), .int (3 + (nI (nA κ)))]) (rest := []) ⟨hx, hb, hml, hown, hts⟩ (c_Mo_isIn l κ σ p1 4 (3 + (nI (nA κ))) ) (cwS 3 hts (zgoodS w_496 w_497 w_9 w_498) rfl rfl rfl (by decide +kernel) ⟨Nat.le_of_ble_eq_true rfl, Nat.le_of_ble_eq_true rfl⟩) B rfl hl.1 rfl (Nat.le_of_ble_eq_true rfl) d_Mo_count_8 ⟨Nat.zero_le _, Nat.zero_le _⟩ (fun r σ' H locs hp B => ?_)
  obtain ⟨rfl, hp⟩ := hp
  rw [hp] at B
  have B : BA κ A s.heap s σ H locs := B
  refine lv_if_eq (tgt := 23) hx hb d_Mo_count_11 (by decide) (fun c_1 => ?_) (fun c_1 => ?_)
  · have c_1 := zb_eq0.mp c_1
    refine lv_iload_n hx hb d_Mo_count_23 rfl (lv_at hl 1 rfl) ?_
    refine lv_if_ne (tgt := 34) hx hb d_Mo_count_24 (by decide) (fun c_2 => ?_) (fun c_2 => ?_)
    · refine lv_iload_n hx hb d_Mo_count_34 rfl (lv_at hl 1 rfl) ?_
      refine lv_iconst (v := 1) hx hb d_Mo_count_35 (by decide) ?_
      refine lv_icmp_ne (tgt := 46) hx hb d_Mo_count_36 (by decide) (fun c_3 => ?_) (fun c_3 => ?_)
      · refine lv_iload_n hx hb d_Mo_count_46 rfl (lv_at hl 1 rfl) ?_
        refine lv_iconst (v := 2) hx hb d_Mo_count_47 (by decide) ?_
        refine lv_icmp_ne (tgt := 58) hx hb d_Mo_count_48 (by decide) (fun c_4 => ?_) (fun c_4 => ?_)
        · refine lv_iload_n hx hb d_Mo_count_58 rfl (lv_at hl 1 rfl) ?_
          refine lv_iconst (v := 3) hx hb d_Mo_count_59 (by decide) ?_
          refine lv_icmp_ne (tgt := 70) hx hb d_Mo_count_60 (by decide) (fun c_5 => ?_) (fun c_5 => ?_)
          · refine lv_iconst (v := (-1)) hx hb d_Mo_count_70 (by decide) ?_
            exact zret_i hx hb hr hlocks B (⟨by rw [fm_count, if_neg (by rw [c_1]; decide)]; simp [c_2, c_3, c_4, c_5], rfl⟩) d_Mo_count_71
          · refine lv_aload_n hx hb d_Mo_count_63 rfl (lv_at hl 0 rfl) ?_
            refine zcV_i (As := []) (rest := []) ⟨hx, hb, hml, hown, hts⟩ (c_Mo_going l κ σ  hn E hE hE3) (cwV 0 hts (zgoodV w_531 w_533 s_16 w_9 w_534) rfl rfl rfl (by decide +kernel) ⟨Nat.le_of_ble_eq_true rfl, Nat.le_of_ble_eq_true rfl⟩) B (zrecv B (ci := 6) rfl (wa_21 κ σ)) rfl hl.1 rfl (Nat.le_of_ble_eq_true rfl) d_Mo_count_64 ⟨Nat.zero_le _, Nat.zero_le _⟩ (fun r σ' H locs hp B => ?_)
            obtain ⟨rfl, hp⟩ := hp
            rw [hp] at B
            have B : BA κ A s.heap s σ H locs := B
            refine lv_goto (tgt := 71) hx hb d_Mo_count_67 (by decide) ?_
            exact zret_i hx hb hr hlocks B (⟨by rw [fm_count, if_neg (by rw [c_1]; decide)]; simp [c_2, c_3, c_4, c_5], rfl⟩) d_Mo_count_71
        · refine lv_aload_n hx hb d_Mo_count_51 rfl (lv_at hl 0 rfl) ?_
          refine va_get (D := κ.1) (ci := 6) (v := .int (σ.1 34 0)) (C := "UnitThreadsModel") (T := T_Mo) (N := 26) hx hb hts in_Mo hown B.1 B.2.1 21 (wa_21 κ σ) rfl 14 (by decide) (hts _ w_422) (fun _ h9 => h9) rfl d_Mo_count_52 ?_
          refine lv_goto (tgt := 71) hx hb d_Mo_count_55 (by decide) ?_
          exact zret_i hx hb hr hlocks B (⟨by rw [fm_count, if_neg (by rw [c_1]; decide)]; simp [c_2, c_3, c_4], rfl⟩) d_Mo_count_71
      · refine lv_aload_n hx hb d_Mo_count_39 rfl (lv_at hl 0 rfl) ?_
        refine va_get (D := κ.1) (ci := 6) (v := .int (σ.1 41 0)) (C := "UnitThreadsModel") (T := T_Mo) (N := 26) hx hb hts in_Mo hown B.1 B.2.1 21 (wa_21 κ σ) rfl 21 (by decide) (hts _ w_429) (fun _ h9 => h9) rfl d_Mo_count_40 ?_
        refine lv_goto (tgt := 71) hx hb d_Mo_count_43 (by decide) ?_
        exact zret_i hx hb hr hlocks B (⟨by rw [fm_count, if_neg (by rw [c_1]; decide)]; simp [c_2, c_3], rfl⟩) d_Mo_count_71
    · refine lv_aload_n hx hb d_Mo_count_27 rfl (lv_at hl 0 rfl) ?_
      refine va_get (D := κ.1) (ci := 6) (v := .int (σ.1 26 0)) (C := "UnitThreadsModel") (T := T_Mo) (N := 26) hx hb hts in_Mo hown B.1 B.2.1 21 (wa_21 κ σ) rfl 2 (by decide) (hts _ w_410) (fun _ h9 => h9) rfl d_Mo_count_28 ?_
      refine lv_goto (tgt := 71) hx hb d_Mo_count_31 (by decide) ?_
      exact zret_i hx hb hr hlocks B (⟨by rw [fm_count, if_neg (by rw [c_1]; decide)]; simp [c_2], rfl⟩) d_Mo_count_71
  · have c_1 := zb_ne0.mp c_1
    refine lv_aload_n hx hb d_Mo_count_14 rfl (lv_at hl 0 rfl) ?_
    refine va_get (D := κ.1) (ci := 6) (v := .ref (aA κ 33)) (C := "UnitThreadsModel") (T := T_Mo) (N := 26) hx hb hts in_Mo hown B.1 B.2.1 21 (wa_21 κ σ) rfl 15 (by decide) (hts _ w_423) (fun _ h9 => h9) rfl d_Mo_count_15 ?_
    refine lv_iload_n hx hb d_Mo_count_18 rfl (lv_at hl 1 rfl) ?_
    refine lv_iconst (v := 4) hx hb d_Mo_count_19 (by decide) ?_
    refine lv_isub hx hb d_Mo_count_20 ?_
    refine ziald hx hb B 33 0 (wa_33 κ σ) rfl (tn (p1 - 4)) ((fm_cnt_in c_1 hn).1) (by have h := (fm_cnt_in c_1 hn).2; omega) (by decide) d_Mo_count_21 ?_
    exact zret_i hx hb hr hlocks B (⟨by simp [zb, fm_count, c_1], rfl⟩) d_Mo_count_22
