set_option maxHeartbeats 4000000 in
set_option maxRecDepth 100000 in
theorem c_Un_hasEnded (l : Launch) (κ : KA) (σ : zS) (u : Nat) (hu : u < nA κ) : zMi l y_Un_hasEnded (zws y_Un_hasEnded prog_6_method_2_code 1 (some .boolean)) ({ frames := 0, cells := 0, slots := 0, locals := 0 }) κ.1 vwCl (tysA κ) nwA (wA κ) σ [.ref (aA κ (64 + u))] (fun r σ' => r = zb (fx_ended σ u) ∧ σ' = σ) := by
  refine zintro (cc := prog_6_method_2_code) (maxL := 1) (ret := (some .boolean)) (by decide) rfl (Nat.le_of_ble_eq_true rfl) ?_
  intro p e s m below meth c ls hx hb hr hml hts hown hlocks hl B
  have hl : lv_has ls 1 [(0, .ref (aA κ (64 + u)))] := hl
  have B : BA κ (va_A (wA κ σ) s.heap.size) s.heap s σ s.heap [] := B
  have hr : meth.sig.returnType = (some .boolean) := hr
  have hown : s.vm.findClass "UnitThreads$Unit" = some m.cls := hown
  show W p l e (headSpec (zws y_Un_hasEnded prog_6_method_2_code 1 (some .boolean)) ({ frames := 0, cells := 0, slots := 0, locals := 0 })).room s m [.ref (aA κ (64 + u))].toArray below meth c s.heap [] 0 0 (MQ below (va_Qi (fun r σ' => r = zb (fx_ended σ u) ∧ σ' = σ) (zQ κ.1 vwCl (tysA κ) (wA κ) (va_A (wA κ σ) s.heap.size)) (va_A (wA κ σ) s.heap.size)) [.ref (aA κ (64 + u))].toArray s 0 0 (va_A (wA κ σ) s.heap.size)) (F0 m 0 ls [])
  generalize va_A (wA κ σ) s.heap.size = A at B ⊢
  have hts : ∀ w ∈ zW, w.before [.ref (aA κ (64 + u))].toArray s = true := fun w h => hts w (List.mem_cons_of_mem _ h)
  refine lv_aload_n hx hb d_Un_hasEnded_0 rfl (lv_at hl 0 rfl) ?_
  refine va_get (D := κ.1) (ci := 0) (v := .int (σ.1 0 u)) (C := "UnitThreads$Unit") (T := T_Un) (N := 8) hx hb hts in_Un hown B.1 B.2.1 (43 + u) (wa_u κ σ hu) rfl 0 (by decide) (hts _ w_32) (fun _ h9 => h9) rfl d_Un_hasEnded_1 ?_
  refine lv_aload_n hx hb d_Un_hasEnded_4 rfl (lv_at hl 0 rfl) ?_
  refine va_get (D := κ.1) (ci := 0) (v := .int (σ.1 1 u)) (C := "UnitThreads$Unit") (T := T_Un) (N := 8) hx hb hts in_Un hown B.1 B.2.1 (43 + u) (wa_u κ σ hu) rfl 1 (by decide) (hts _ w_35) (fun _ h9 => h9) rfl d_Un_hasEnded_5 ?_
  refine lv_icmp_le (tgt := 15) hx hb d_Un_hasEnded_8 (by decide) (fun c_1 => ?_) (fun c_1 => ?_)
  · refine lv_iconst (v := 0) hx hb d_Un_hasEnded_15 (by decide) ?_
    exact zret_z hx hb hr rfl hlocks B (⟨by simp [zb, fx_ended, c_1], rfl⟩) d_Un_hasEnded_16
  · refine lv_iconst (v := 1) hx hb d_Un_hasEnded_11 (by decide) ?_
    refine lv_goto (tgt := 16) hx hb d_Un_hasEnded_12 (by decide) ?_
    exact zret_z hx hb hr rfl hlocks B (⟨by simp [zb, fx_ended, c_1], rfl⟩) d_Un_hasEnded_16
set_option maxHeartbeats 4000000 in
set_option maxRecDepth 100000 in
theorem c_Un_acts (l : Launch) (κ : KA) (σ : zS) (u : Nat) (hu : u < nA κ) : zMi l y_Un_acts (zws y_Un_acts prog_6_method_3_code 1 (some .boolean)) ({ frames := 1, cells := 0, slots := 0, locals := 20 }) κ.1 vwCl (tysA κ) nwA (wA κ) σ [.ref (aA κ (64 + u))] (fun r σ' => r = zb (fx_acts σ u) ∧ σ' = σ) := by
  refine zintro (cc := prog_6_method_3_code) (maxL := 1) (ret := (some .boolean)) (by decide) rfl (Nat.le_of_ble_eq_true rfl) ?_
  intro p e s m below meth c ls hx hb hr hml hts hown hlocks hl B
  have hl : lv_has ls 1 [(0, .ref (aA κ (64 + u)))] := hl
  have B : BA κ (va_A (wA κ σ) s.heap.size) s.heap s σ s.heap [] := B
  have hr : meth.sig.returnType = (some .boolean) := hr
  have hown : s.vm.findClass "UnitThreads$Unit" = some m.cls := hown
  show W p l e (headSpec (zws y_Un_acts prog_6_method_3_code 1 (some .boolean)) ({ frames := 1, cells := 0, slots := 0, locals := 20 })).room s m [.ref (aA κ (64 + u))].toArray below meth c s.heap [] 0 0 (MQ below (va_Qi (fun r σ' => r = zb (fx_acts σ u) ∧ σ' = σ) (zQ κ.1 vwCl (tysA κ) (wA κ) (va_A (wA κ σ) s.heap.size)) (va_A (wA κ σ) s.heap.size)) [.ref (aA κ (64 + u))].toArray s 0 0 (va_A (wA κ σ) s.heap.size)) (F0 m 0 ls [])
  generalize va_A (wA κ σ) s.heap.size = A at B ⊢
  have hts : ∀ w ∈ zW, w.before [.ref (aA κ (64 + u))].toArray s = true := fun w h => hts w (List.mem_cons_of_mem _ h)
  refine lv_aload_n hx hb d_Un_acts_0 rfl (lv_at hl 0 rfl) ?_
  refine va_get (D := κ.1) (ci := 0) (v := .int (σ.1 2 u)) (C := "UnitThreads$Unit") (T := T_Un) (N := 8) hx hb hts in_Un hown B.1 B.2.1 (43 + u) (wa_u κ σ hu) rfl 2 (by decide) (hts _ w_37) (fun _ h9 => h9) rfl d_Un_acts_1 ?_
  refine lv_iconst (v := 2) hx hb d_Un_acts_4 (by decide) ?_
  refine lv_icmp_eq (tgt := 19) hx hb d_Un_acts_5 (by decide) (fun c_1 => ?_) (fun c_1 => ?_)
  · refine lv_iconst (v := 0) hx hb d_Un_acts_19 (by decide) ?_
    exact zret_z hx hb hr rfl hlocks B (⟨by simp [zb, fx_acts, c_1], rfl⟩) d_Un_acts_20
  · refine lv_aload_n hx hb d_Un_acts_8 rfl (lv_at hl 0 rfl) ?_
    refine zcV_i (As := []) (rest := []) ⟨hx, hb, hml, hown, hts⟩ (c_Un_hasEnded l κ σ u hu ) (cwV 0 hts (zgoodV w_274 w_255 w_256 w_3 w_257) rfl rfl rfl (by decide +kernel) ⟨Nat.le_of_ble_eq_true rfl, Nat.le_of_ble_eq_true rfl⟩) B (zrecv B (ci := 0) rfl (wa_u κ σ hu)) rfl hl.1 rfl (Nat.le_of_ble_eq_true rfl) d_Un_acts_9 ⟨Nat.zero_le _, Nat.zero_le _⟩ (fun r σ' H locs hp B => ?_)
    obtain ⟨rfl, hp⟩ := hp
    rw [hp] at B
    have B : BA κ A s.heap s σ H locs := B
    refine lv_if_ne (tgt := 19) hx hb d_Un_acts_12 (by decide) (fun c_2 => ?_) (fun c_2 => ?_)
    · have c_2 := zb_ne0.mp c_2
      refine lv_iconst (v := 0) hx hb d_Un_acts_19 (by decide) ?_
      exact zret_z hx hb hr rfl hlocks B (⟨by simp [zb, fx_acts, c_1, c_2], rfl⟩) d_Un_acts_20
    · have c_2 := zb_eq0.mp c_2
      refine lv_iconst (v := 1) hx hb d_Un_acts_15 (by decide) ?_
      refine lv_goto (tgt := 20) hx hb d_Un_acts_16 (by decide) ?_
      exact zret_z hx hb hr rfl hlocks B (⟨by simp [zb, fx_acts, c_1, c_2], rfl⟩) d_Un_acts_20
set_option maxHeartbeats 4000000 in
set_option maxRecDepth 100000 in
theorem c_Un_asked (l : Launch) (κ : KA) (σ : zS) (u : Nat) (hu : u < nA κ) : zMi l y_Un_asked (zws y_Un_asked prog_6_method_4_code 1 (some .int)) ({ frames := 0, cells := 0, slots := 0, locals := 0 }) κ.1 vwCl (tysA κ) nwA (wA κ) σ [.ref (aA κ (64 + u))] (fun r σ' => r = fx_asked σ u ∧ σ' = σ) := by
  refine zintro (cc := prog_6_method_4_code) (maxL := 1) (ret := (some .int)) (by decide) rfl (Nat.le_of_ble_eq_true rfl) ?_
  intro p e s m below meth c ls hx hb hr hml hts hown hlocks hl B
  have hl : lv_has ls 1 [(0, .ref (aA κ (64 + u)))] := hl
  have B : BA κ (va_A (wA κ σ) s.heap.size) s.heap s σ s.heap [] := B
  have hr : meth.sig.returnType = (some .int) := hr
  have hown : s.vm.findClass "UnitThreads$Unit" = some m.cls := hown
  show W p l e (headSpec (zws y_Un_asked prog_6_method_4_code 1 (some .int)) ({ frames := 0, cells := 0, slots := 0, locals := 0 })).room s m [.ref (aA κ (64 + u))].toArray below meth c s.heap [] 0 0 (MQ below (va_Qi (fun r σ' => r = fx_asked σ u ∧ σ' = σ) (zQ κ.1 vwCl (tysA κ) (wA κ) (va_A (wA κ σ) s.heap.size)) (va_A (wA κ σ) s.heap.size)) [.ref (aA κ (64 + u))].toArray s 0 0 (va_A (wA κ σ) s.heap.size)) (F0 m 0 ls [])
  generalize va_A (wA κ σ) s.heap.size = A at B ⊢
  have hts : ∀ w ∈ zW, w.before [.ref (aA κ (64 + u))].toArray s = true := fun w h => hts w (List.mem_cons_of_mem _ h)
  refine lv_aload_n hx hb d_Un_asked_0 rfl (lv_at hl 0 rfl) ?_
  refine va_get (D := κ.1) (ci := 0) (v := .int (σ.1 5 u)) (C := "UnitThreads$Unit") (T := T_Un) (N := 8) hx hb hts in_Un hown B.1 B.2.1 (43 + u) (wa_u κ σ hu) rfl 5 (by decide) (hts _ w_44) (fun _ h9 => h9) rfl d_Un_asked_1 ?_
  refine lv_aload_n hx hb d_Un_asked_4 rfl (lv_at hl 0 rfl) ?_
  refine va_get (D := κ.1) (ci := 0) (v := .int (σ.1 6 u)) (C := "UnitThreads$Unit") (T := T_Un) (N := 8) hx hb hts in_Un hown B.1 B.2.1 (43 + u) (wa_u κ σ hu) rfl 6 (by decide) (hts _ w_46) (fun _ h9 => h9) rfl d_Un_asked_5 ?_
  refine lv_iconst (v := (-1)) hx hb d_Un_asked_8 (by decide) ?_
  refine lv_ixor hx hb d_Un_asked_9 ?_
  refine lv_iand hx hb d_Un_asked_10 ?_
  exact zret_i hx hb hr hlocks B (⟨rfl, rfl⟩) d_Un_asked_11
set_option maxHeartbeats 4000000 in
set_option maxRecDepth 100000 in
theorem c_Un_given (l : Launch) (κ : KA) (σ : zS) (u : Nat) (hu : u < nA κ) : zMi l y_Un_given (zws y_Un_given prog_6_method_5_code 1 (some .int)) ({ frames := 0, cells := 0, slots := 0, locals := 0 }) κ.1 vwCl (tysA κ) nwA (wA κ) σ [.ref (aA κ (64 + u))] (fun r σ' => r = fx_given σ u ∧ σ' = σ) := by
  refine zintro (cc := prog_6_method_5_code) (maxL := 1) (ret := (some .int)) (by decide) rfl (Nat.le_of_ble_eq_true rfl) ?_
  intro p e s m below meth c ls hx hb hr hml hts hown hlocks hl B
  have hl : lv_has ls 1 [(0, .ref (aA κ (64 + u)))] := hl
  have B : BA κ (va_A (wA κ σ) s.heap.size) s.heap s σ s.heap [] := B
  have hr : meth.sig.returnType = (some .int) := hr
  have hown : s.vm.findClass "UnitThreads$Unit" = some m.cls := hown
  show W p l e (headSpec (zws y_Un_given prog_6_method_5_code 1 (some .int)) ({ frames := 0, cells := 0, slots := 0, locals := 0 })).room s m [.ref (aA κ (64 + u))].toArray below meth c s.heap [] 0 0 (MQ below (va_Qi (fun r σ' => r = fx_given σ u ∧ σ' = σ) (zQ κ.1 vwCl (tysA κ) (wA κ) (va_A (wA κ σ) s.heap.size)) (va_A (wA κ σ) s.heap.size)) [.ref (aA κ (64 + u))].toArray s 0 0 (va_A (wA κ σ) s.heap.size)) (F0 m 0 ls [])
  generalize va_A (wA κ σ) s.heap.size = A at B ⊢
  have hts : ∀ w ∈ zW, w.before [.ref (aA κ (64 + u))].toArray s = true := fun w h => hts w (List.mem_cons_of_mem _ h)
  refine lv_aload_n hx hb d_Un_given_0 rfl (lv_at hl 0 rfl) ?_
  refine va_get (D := κ.1) (ci := 0) (v := .int (σ.1 5 u)) (C := "UnitThreads$Unit") (T := T_Un) (N := 8) hx hb hts in_Un hown B.1 B.2.1 (43 + u) (wa_u κ σ hu) rfl 5 (by decide) (hts _ w_44) (fun _ h9 => h9) rfl d_Un_given_1 ?_
  refine lv_aload_n hx hb d_Un_given_4 rfl (lv_at hl 0 rfl) ?_
  refine va_get (D := κ.1) (ci := 0) (v := .int (σ.1 6 u)) (C := "UnitThreads$Unit") (T := T_Un) (N := 8) hx hb hts in_Un hown B.1 B.2.1 (43 + u) (wa_u κ σ hu) rfl 6 (by decide) (hts _ w_46) (fun _ h9 => h9) rfl d_Un_given_5 ?_
  refine lv_iand hx hb d_Un_given_8 ?_
  exact zret_i hx hb hr hlocks B (⟨rfl, rfl⟩) d_Un_given_9
set_option maxHeartbeats 4000000 in
set_option maxRecDepth 100000 in
theorem c_Ut_isUnit (l : Launch) (κ : KA) (σ : zS) (p1 : Int32) : zMi l y_Ut_isUnit (zws y_Ut_isUnit prog_1_method_16_code 2 (some .boolean)) ({ frames := 0, cells := 0, slots := 0, locals := 0 }) κ.1 vwCl (tysA κ) nwA (wA κ) σ [.ref (aA κ 0), .int (p1)] (fun r σ' => r = zb (fx_isUnit (nA κ) p1) ∧ σ' = σ) := by
  refine zintro (cc := prog_1_method_16_code) (maxL := 2) (ret := (some .boolean)) (by decide) rfl (Nat.le_of_ble_eq_true rfl) ?_
  intro p e s m below meth c ls hx hb hr hml hts hown hlocks hl B
  have hl : lv_has ls 2 [(0, .ref (aA κ 0)), (1, .int (p1))] := hl
  have B : BA κ (va_A (wA κ σ) s.heap.size) s.heap s σ s.heap [] := B
  have hr : meth.sig.returnType = (some .boolean) := hr
  have hown : s.vm.findClass "UnitThreads" = some m.cls := hown
  show W p l e (headSpec (zws y_Ut_isUnit prog_1_method_16_code 2 (some .boolean)) ({ frames := 0, cells := 0, slots := 0, locals := 0 })).room s m [.ref (aA κ 0), .int (p1)].toArray below meth c s.heap [] 0 0 (MQ below (va_Qi (fun r σ' => r = zb (fx_isUnit (nA κ) p1) ∧ σ' = σ) (zQ κ.1 vwCl (tysA κ) (wA κ) (va_A (wA κ σ) s.heap.size)) (va_A (wA κ σ) s.heap.size)) [.ref (aA κ 0), .int (p1)].toArray s 0 0 (va_A (wA κ σ) s.heap.size)) (F0 m 0 ls [])
  generalize va_A (wA κ σ) s.heap.size = A at B ⊢
  have hts : ∀ w ∈ zW, w.before [.ref (aA κ 0), .int (p1)].toArray s = true := fun w h => hts w (List.mem_cons_of_mem _ h)
  refine lv_iload_n hx hb d_Ut_isUnit_0 rfl (lv_at hl 1 rfl) ?_
  refine lv_if_lt (tgt := 17) hx hb d_Ut_isUnit_1 (by decide) (fun c_1 => ?_) (fun c_1 => ?_)
  · refine lv_iconst (v := 0) hx hb d_Ut_isUnit_17 (by decide) ?_
    exact zret_z hx hb hr rfl hlocks B (⟨by simp [zb, fx_isUnit, c_1], rfl⟩) d_Ut_isUnit_18
  · refine lv_iload_n hx hb d_Ut_isUnit_4 rfl (lv_at hl 1 rfl) ?_
    refine lv_aload_n hx hb d_Ut_isUnit_5 rfl (lv_at hl 0 rfl) ?_
    refine va_get (D := κ.1) (ci := 5) (v := .ref (aA κ 1)) (C := "UnitThreads") (T := T_Ut) (N := 7) hx hb hts in_Ut hown B.1 B.2.1 0 (wa_0 κ σ) rfl 0 (by decide) (hts _ w_167) (fun _ h9 => h9) rfl d_Ut_isUnit_6 ?_
    refine zalen hx hb B 1 2 (wa_1 κ σ) rfl d_Ut_isUnit_9 ?_
    refine lv_icmp_ge (tgt := 17) hx hb d_Ut_isUnit_10 (by decide) (fun c_2 => ?_) (fun c_2 => ?_)
    · refine lv_iconst (v := 0) hx hb d_Ut_isUnit_17 (by decide) ?_
      exact zret_z hx hb hr rfl hlocks B (⟨by simp [zb, fx_isUnit, c_1, c_2], rfl⟩) d_Ut_isUnit_18
    · refine lv_iconst (v := 1) hx hb d_Ut_isUnit_13 (by decide) ?_
      refine lv_goto (tgt := 18) hx hb d_Ut_isUnit_14 (by decide) ?_
      exact zret_z hx hb hr rfl hlocks B (⟨by simp [zb, fx_isUnit, c_1, c_2], rfl⟩) d_Ut_isUnit_18
set_option maxHeartbeats 4000000 in
set_option maxRecDepth 100000 in
theorem c_Ut_isWay (l : Launch) (κ : KA) (σ : zS) (p0 : Int32) : zMi l y_Ut_isWay (zws y_Ut_isWay prog_1_method_17_code 1 (some .boolean)) ({ frames := 0, cells := 0, slots := 0, locals := 0 }) κ.1 vwCl (tysA κ) nwA (wA κ) σ [.int (p0)] (fun r σ' => r = zb (fx_isWay p0) ∧ σ' = σ) := by
  refine zintro (cc := prog_1_method_17_code) (maxL := 1) (ret := (some .boolean)) (by decide) rfl (Nat.le_of_ble_eq_true rfl) ?_
  intro p e s m below meth c ls hx hb hr hml hts hown hlocks hl B
  have hl : lv_has ls 1 [(0, .int (p0))] := hl
  have B : BA κ (va_A (wA κ σ) s.heap.size) s.heap s σ s.heap [] := B
  have hr : meth.sig.returnType = (some .boolean) := hr
  have hown : s.vm.findClass "UnitThreads" = some m.cls := hown
  show W p l e (headSpec (zws y_Ut_isWay prog_1_method_17_code 1 (some .boolean)) ({ frames := 0, cells := 0, slots := 0, locals := 0 })).room s m [.int (p0)].toArray below meth c s.heap [] 0 0 (MQ below (va_Qi (fun r σ' => r = zb (fx_isWay p0) ∧ σ' = σ) (zQ κ.1 vwCl (tysA κ) (wA κ) (va_A (wA κ σ) s.heap.size)) (va_A (wA κ σ) s.heap.size)) [.int (p0)].toArray s 0 0 (va_A (wA κ σ) s.heap.size)) (F0 m 0 ls [])
  generalize va_A (wA κ σ) s.heap.size = A at B ⊢
  have hts : ∀ w ∈ zW, w.before [.int (p0)].toArray s = true := fun w h => hts w (List.mem_cons_of_mem _ h)
  refine lv_iload_n hx hb d_Ut_isWay_0 rfl (lv_at hl 0 rfl) ?_
  refine lv_if_lt (tgt := 14) hx hb d_Ut_isWay_1 (by decide) (fun c_1 => ?_) (fun c_1 => ?_)
  · refine lv_iconst (v := 0) hx hb d_Ut_isWay_14 (by decide) ?_
    exact zret_z hx hb hr rfl hlocks B (⟨by simp [zb, fx_isWay, c_1], rfl⟩) d_Ut_isWay_15
  · refine lv_iload_n hx hb d_Ut_isWay_4 rfl (lv_at hl 0 rfl) ?_
    refine lv_bipush (v := 16) hx hb d_Ut_isWay_5 (by decide) ?_
    refine lv_icmp_ge (tgt := 14) hx hb d_Ut_isWay_7 (by decide) (fun c_2 => ?_) (fun c_2 => ?_)
    · refine lv_iconst (v := 0) hx hb d_Ut_isWay_14 (by decide) ?_
      exact zret_z hx hb hr rfl hlocks B (⟨by simp [zb, fx_isWay, c_1, c_2], rfl⟩) d_Ut_isWay_15
    · refine lv_iconst (v := 1) hx hb d_Ut_isWay_10 (by decide) ?_
      refine lv_goto (tgt := 15) hx hb d_Ut_isWay_11 (by decide) ?_
      exact zret_z hx hb hr rfl hlocks B (⟨by simp [zb, fx_isWay, c_1, c_2], rfl⟩) d_Ut_isWay_15
set_option maxHeartbeats 4000000 in
set_option maxRecDepth 100000 in
theorem c_Ut_isOutputOf (l : Launch) (κ : KA) (σ : zS) (p0 p1 : Int32) : zMi l y_Ut_isOutputOf (zws y_Ut_isOutputOf prog_1_method_18_code 2 (some .boolean)) ({ frames := 0, cells := 0, slots := 0, locals := 0 }) κ.1 vwCl (tysA κ) nwA (wA κ) σ [.int (p0), .int (p1)] (fun r σ' => r = zb (fx_isOut p0 p1) ∧ σ' = σ) := by
  refine zintro (cc := prog_1_method_18_code) (maxL := 2) (ret := (some .boolean)) (by decide) rfl (Nat.le_of_ble_eq_true rfl) ?_
  intro p e s m below meth c ls hx hb hr hml hts hown hlocks hl B
  have hl : lv_has ls 2 [(0, .int (p0)), (1, .int (p1))] := hl
  have B : BA κ (va_A (wA κ σ) s.heap.size) s.heap s σ s.heap [] := B
  have hr : meth.sig.returnType = (some .boolean) := hr
  have hown : s.vm.findClass "UnitThreads" = some m.cls := hown
  show W p l e (headSpec (zws y_Ut_isOutputOf prog_1_method_18_code 2 (some .boolean)) ({ frames := 0, cells := 0, slots := 0, locals := 0 })).room s m [.int (p0), .int (p1)].toArray below meth c s.heap [] 0 0 (MQ below (va_Qi (fun r σ' => r = zb (fx_isOut p0 p1) ∧ σ' = σ) (zQ κ.1 vwCl (tysA κ) (wA κ) (va_A (wA κ σ) s.heap.size)) (va_A (wA κ σ) s.heap.size)) [.int (p0), .int (p1)].toArray s 0 0 (va_A (wA κ σ) s.heap.size)) (F0 m 0 ls [])
  generalize va_A (wA κ σ) s.heap.size = A at B ⊢
  have hts : ∀ w ∈ zW, w.before [.int (p0), .int (p1)].toArray s = true := fun w h => hts w (List.mem_cons_of_mem _ h)
  refine lv_iload_n hx hb d_Ut_isOutputOf_0 rfl (lv_at hl 1 rfl) ?_
  refine lv_if_lt (tgt := 15) hx hb d_Ut_isOutputOf_1 (by decide) (fun c_1 => ?_) (fun c_1 => ?_)
  · refine lv_iconst (v := 0) hx hb d_Ut_isOutputOf_15 (by decide) ?_
    exact zret_z hx hb hr rfl hlocks B (⟨by simp [zb, fx_isOut, c_1], rfl⟩) d_Ut_isOutputOf_16
  · refine lv_iload_n hx hb d_Ut_isOutputOf_4 rfl (lv_at hl 1 rfl) ?_
    refine lv_iconst (v := 4) hx hb d_Ut_isOutputOf_5 (by decide) ?_
    refine lv_idiv hx hb d_Ut_isOutputOf_6 (by decide) ?_
    refine lv_iload_n hx hb d_Ut_isOutputOf_7 rfl (lv_at hl 0 rfl) ?_
    refine lv_icmp_ne (tgt := 15) hx hb d_Ut_isOutputOf_8 (by decide) (fun c_2 => ?_) (fun c_2 => ?_)
    · refine lv_iconst (v := 0) hx hb d_Ut_isOutputOf_15 (by decide) ?_
      exact zret_z hx hb hr rfl hlocks B (⟨by simp [zb, fx_isOut, c_1, c_2], rfl⟩) d_Ut_isOutputOf_16
    · refine lv_iconst (v := 1) hx hb d_Ut_isOutputOf_11 (by decide) ?_
      refine lv_goto (tgt := 16) hx hb d_Ut_isOutputOf_12 (by decide) ?_
      exact zret_z hx hb hr rfl hlocks B (⟨by simp [zb, fx_isOut, c_1, c_2], rfl⟩) d_Ut_isOutputOf_16
set_option maxHeartbeats 4000000 in
set_option maxRecDepth 100000 in
theorem c_Ut_hasWay (l : Launch) (κ : KA) (σ : zS) (p0 p1 : Int32) : zMi l y_Ut_hasWay (zws y_Ut_hasWay prog_1_method_19_code 2 (some .boolean)) ({ frames := 0, cells := 0, slots := 0, locals := 0 }) κ.1 vwCl (tysA κ) nwA (wA κ) σ [.int (p0), .int (p1)] (fun r σ' => r = zb (fx_hasWay p0 p1) ∧ σ' = σ) := by
  refine zintro (cc := prog_1_method_19_code) (maxL := 2) (ret := (some .boolean)) (by decide) rfl (Nat.le_of_ble_eq_true rfl) ?_
  intro p e s m below meth c ls hx hb hr hml hts hown hlocks hl B
  have hl : lv_has ls 2 [(0, .int (p0)), (1, .int (p1))] := hl
  have B : BA κ (va_A (wA κ σ) s.heap.size) s.heap s σ s.heap [] := B
  have hr : meth.sig.returnType = (some .boolean) := hr
  have hown : s.vm.findClass "UnitThreads" = some m.cls := hown
  show W p l e (headSpec (zws y_Ut_hasWay prog_1_method_19_code 2 (some .boolean)) ({ frames := 0, cells := 0, slots := 0, locals := 0 })).room s m [.int (p0), .int (p1)].toArray below meth c s.heap [] 0 0 (MQ below (va_Qi (fun r σ' => r = zb (fx_hasWay p0 p1) ∧ σ' = σ) (zQ κ.1 vwCl (tysA κ) (wA κ) (va_A (wA κ σ) s.heap.size)) (va_A (wA κ σ) s.heap.size)) [.int (p0), .int (p1)].toArray s 0 0 (va_A (wA κ σ) s.heap.size)) (F0 m 0 ls [])
  generalize va_A (wA κ σ) s.heap.size = A at B ⊢
  have hts : ∀ w ∈ zW, w.before [.int (p0), .int (p1)].toArray s = true := fun w h => hts w (List.mem_cons_of_mem _ h)
  refine lv_iload_n hx hb d_Ut_hasWay_0 rfl (lv_at hl 0 rfl) ?_
  refine lv_iload_n hx hb d_Ut_hasWay_1 rfl (lv_at hl 1 rfl) ?_
  refine lv_ishr hx hb d_Ut_hasWay_2 ?_
  refine lv_iconst (v := 1) hx hb d_Ut_hasWay_3 (by decide) ?_
  refine lv_iand hx hb d_Ut_hasWay_4 ?_
  refine lv_if_eq (tgt := 12) hx hb d_Ut_hasWay_5 (by decide) (fun c_1 => ?_) (fun c_1 => ?_)
  · refine lv_iconst (v := 0) hx hb d_Ut_hasWay_12 (by decide) ?_
    exact zret_z hx hb hr rfl hlocks B (⟨by simp [zb, fx_hasWay, c_1], rfl⟩) d_Ut_hasWay_13
  · refine lv_iconst (v := 1) hx hb d_Ut_hasWay_8 (by decide) ?_
    refine lv_goto (tgt := 13) hx hb d_Ut_hasWay_9 (by decide) ?_
    exact zret_z hx hb hr rfl hlocks B (⟨by simp [zb, fx_hasWay, c_1], rfl⟩) d_Ut_hasWay_13
