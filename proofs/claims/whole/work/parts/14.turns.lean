set_option maxHeartbeats 4000000 in
set_option maxRecDepth 100000 in
theorem c_Tu_add (l : Launch) (κ : KA) (σ : zS) (p1 p2 p3 : Int32) (hn : nA κ ≤ 8) (t : Nat) (ht : σ.1 18 0 = nI t) (hlt : t < nA κ * 64) : zMv l y_Tu_add (zws y_Tu_add prog_5_method_2_code 4 none) ({ frames := 0, cells := 0, slots := 0, locals := 0 }) κ.1 vwCl (tysA κ) nwA (wA κ) σ [.ref (aA κ 10), .int (p1), .int (p2), .int (p3)] (fun σ' => σ' = fx_turn σ t p1 p2 p3) := by
  refine zintro (cc := prog_5_method_2_code) (maxL := 4) (ret := none) (by decide) rfl (Nat.le_of_ble_eq_true rfl) ?_
  intro p e s m below meth c ls hx hb hr hml hts hown hlocks hl B
  have hl : lv_has ls 4 [(0, .ref (aA κ 10)), (1, .int (p1)), (2, .int (p2)), (3, .int (p3))] := hl
  have B : BA κ (va_A (wA κ σ) s.heap.size) s.heap s σ s.heap [] := B
  have hr : meth.sig.returnType = none := hr
  have hown : s.vm.findClass "UnitThreads$Turns" = some m.cls := hown
  show W p l e (headSpec (zws y_Tu_add prog_5_method_2_code 4 none) ({ frames := 0, cells := 0, slots := 0, locals := 0 })).room s m [.ref (aA κ 10), .int (p1), .int (p2), .int (p3)].toArray below meth c s.heap [] 0 0 (MQ below (va_Qv (fun σ' => σ' = fx_turn σ t p1 p2 p3) (zQ κ.1 vwCl (tysA κ) (wA κ) (va_A (wA κ σ) s.heap.size)) (va_A (wA κ σ) s.heap.size)) [.ref (aA κ 10), .int (p1), .int (p2), .int (p3)].toArray s 0 0 (va_A (wA κ σ) s.heap.size)) (F0 m 0 ls [])
  generalize va_A (wA κ σ) s.heap.size = A at B ⊢
  have hts : ∀ w ∈ zW, w.before [.ref (aA κ 10), .int (p1), .int (p2), .int (p3)].toArray s = true := fun w h => hts w (List.mem_cons_of_mem _ h)
  refine lv_aload_n hx hb d_Tu_add_0 rfl (lv_at hl 0 rfl) ?_
  refine va_get (D := κ.1) (ci := 3) (v := .int (σ.1 18 0)) (C := "UnitThreads$Turns") (T := T_Tu) (N := 4) hx hb hts in_Tu hown B.1 B.2.1 10 (wa_10 κ σ) rfl 3 (by decide) (hts _ w_124) (fun _ h9 => h9) rfl d_Tu_add_1 ?_
  refine zrwi (y := nI t) (ht) ?_
  refine lv_aload_n hx hb d_Tu_add_4 rfl (lv_at hl 0 rfl) ?_
  refine va_get (D := κ.1) (ci := 3) (v := .ref (aA κ 11)) (C := "UnitThreads$Turns") (T := T_Tu) (N := 4) hx hb hts in_Tu hown B.1 B.2.1 10 (wa_10 κ σ) rfl 0 (by decide) (hts _ w_121) (fun _ h9 => h9) rfl d_Tu_add_5 ?_
  refine zalen hx hb B 11 0 (wa_11 κ σ) rfl d_Tu_add_8 ?_
  refine lv_icmp_lt (tgt := 13) hx hb d_Tu_add_9 (by decide) (fun c_1 => ?_) (fun c_1 => ?_)
  · have c_1 := (nI_ltI (a := t) (b := nA κ * 64) (by omega) (by omega)).mp c_1
    refine lv_aload_n hx hb d_Tu_add_13 rfl (lv_at hl 0 rfl) ?_
    refine va_get (D := κ.1) (ci := 3) (v := .ref (aA κ 11)) (C := "UnitThreads$Turns") (T := T_Tu) (N := 4) hx hb hts in_Tu hown B.1 B.2.1 10 (wa_10 κ σ) rfl 0 (by decide) (hts _ w_121) (fun _ h9 => h9) rfl d_Tu_add_14 ?_
    refine lv_aload_n hx hb d_Tu_add_17 rfl (lv_at hl 0 rfl) ?_
    refine va_get (D := κ.1) (ci := 3) (v := .int (σ.1 18 0)) (C := "UnitThreads$Turns") (T := T_Tu) (N := 4) hx hb hts in_Tu hown B.1 B.2.1 10 (wa_10 κ σ) rfl 3 (by decide) (hts _ w_124) (fun _ h9 => h9) rfl d_Tu_add_18 ?_
    refine zrwi (y := nI t) (ht) ?_
    refine lv_iload_n hx hb d_Tu_add_21 rfl (lv_at hl 1 rfl) ?_
    refine ziast hx hb B 11 0 (wa_11 κ σ) rfl t rfl (by omega) (by omega) (ws_11 κ σ t p1) d_Tu_add_22 (fun H locs B => ?_)
    have B : BA κ A s.heap s (zi σ 15 t p1) H locs := B
    refine lv_aload_n hx hb d_Tu_add_23 rfl (lv_at hl 0 rfl) ?_
    refine va_get (D := κ.1) (ci := 3) (v := .ref (aA κ 12)) (C := "UnitThreads$Turns") (T := T_Tu) (N := 4) hx hb hts in_Tu hown B.1 B.2.1 10 (wa_10 κ (zi σ 15 t p1)) rfl 1 (by decide) (hts _ w_122) (fun _ h9 => h9) rfl d_Tu_add_24 ?_
    refine lv_aload_n hx hb d_Tu_add_27 rfl (lv_at hl 0 rfl) ?_
    refine va_get (D := κ.1) (ci := 3) (v := .int ((zi σ 15 t p1).1 18 0)) (C := "UnitThreads$Turns") (T := T_Tu) (N := 4) hx hb hts in_Tu hown B.1 B.2.1 10 (wa_10 κ (zi σ 15 t p1)) rfl 3 (by decide) (hts _ w_124) (fun _ h9 => h9) rfl d_Tu_add_28 ?_
    refine zrwi (y := σ.1 18 0) (by rw [zi_nf _ _ (by decide : 18 ≠ 15)]) ?_
    refine zrwi (y := nI t) (ht) ?_
    refine lv_iload_n hx hb d_Tu_add_31 rfl (lv_at hl 2 rfl) ?_
    refine ziast hx hb B 12 0 (wa_12 κ (zi σ 15 t p1)) rfl t rfl (by omega) (by omega) (ws_12 κ (zi σ 15 t p1) t p2) d_Tu_add_32 (fun H locs B => ?_)
    have B : BA κ A s.heap s (zi (zi σ 15 t p1) 16 t p2) H locs := B
    refine lv_aload_n hx hb d_Tu_add_33 rfl (lv_at hl 0 rfl) ?_
    refine va_get (D := κ.1) (ci := 3) (v := .ref (aA κ 13)) (C := "UnitThreads$Turns") (T := T_Tu) (N := 4) hx hb hts in_Tu hown B.1 B.2.1 10 (wa_10 κ (zi (zi σ 15 t p1) 16 t p2)) rfl 2 (by decide) (hts _ w_123) (fun _ h9 => h9) rfl d_Tu_add_34 ?_
    refine lv_aload_n hx hb d_Tu_add_37 rfl (lv_at hl 0 rfl) ?_
    refine va_get (D := κ.1) (ci := 3) (v := .int ((zi (zi σ 15 t p1) 16 t p2).1 18 0)) (C := "UnitThreads$Turns") (T := T_Tu) (N := 4) hx hb hts in_Tu hown B.1 B.2.1 10 (wa_10 κ (zi (zi σ 15 t p1) 16 t p2)) rfl 3 (by decide) (hts _ w_124) (fun _ h9 => h9) rfl d_Tu_add_38 ?_
    refine zrwi (y := σ.1 18 0) (by rw [zi_nf _ _ (by decide : 18 ≠ 16), zi_nf _ _ (by decide : 18 ≠ 15)]) ?_
    refine zrwi (y := nI t) (ht) ?_
    refine lv_iload_n hx hb d_Tu_add_41 rfl (lv_at hl 3 rfl) ?_
    refine ziast hx hb B 13 0 (wa_13 κ (zi (zi σ 15 t p1) 16 t p2)) rfl t rfl (by omega) (by omega) (ws_13 κ (zi (zi σ 15 t p1) 16 t p2) t p3) d_Tu_add_42 (fun H locs B => ?_)
    have B : BA κ A s.heap s (zi (zi (zi σ 15 t p1) 16 t p2) 17 t p3) H locs := B
    refine lv_aload_n hx hb d_Tu_add_43 rfl (lv_at hl 0 rfl) ?_
    refine lv_dup hx hb d_Tu_add_44 rfl ?_
    refine va_get (D := κ.1) (ci := 3) (v := .int ((zi (zi (zi σ 15 t p1) 16 t p2) 17 t p3).1 18 0)) (C := "UnitThreads$Turns") (T := T_Tu) (N := 4) hx hb hts in_Tu hown B.1 B.2.1 10 (wa_10 κ (zi (zi (zi σ 15 t p1) 16 t p2) 17 t p3)) rfl 3 (by decide) (hts _ w_124) (fun _ h9 => h9) rfl d_Tu_add_45 ?_
    refine zrwi (y := σ.1 18 0) (by rw [zi_nf _ _ (by decide : 18 ≠ 17), zi_nf _ _ (by decide : 18 ≠ 16), zi_nf _ _ (by decide : 18 ≠ 15)]) ?_
    refine zrwi (y := nI t) (ht) ?_
    refine lv_iconst (v := 1) hx hb d_Tu_add_48 (by decide) ?_
    refine lv_iadd hx hb d_Tu_add_49 ?_
    refine zrwi (y := nI (t + 1)) (nI_1 _) ?_
    refine zput (ci := 3) (v := .int (nI (t + 1))) (ty := .int) (C := "UnitThreads$Turns") (T := T_Tu) (N := 4) hx hb hts in_Tu ty_Tu tyok_Tu nm_Tu hown B 10 (wa_10 κ (zi (zi (zi σ 15 t p1) 16 t p2) 17 t p3)) rfl 3 (by decide) (hts _ w_124) (fun _ h9 => h9) rfl (by decide +kernel) rfl rfl (Nat.le_of_ble_eq_true rfl) (wp_10_3 κ (zi (zi (zi σ 15 t p1) 16 t p2) 17 t p3) (nI (t + 1))) d_Tu_add_50 (fun H locs B => ?_)
    have B : BA κ A s.heap s (zi (zi (zi (zi σ 15 t p1) 16 t p2) 17 t p3) 18 0 (nI (t + 1))) H locs := B
    exact zret_v hx hb hr hlocks B (rfl) d_Tu_add_53
  · have c_1 := (not_congr (nI_ltI (a := t) (b := nA κ * 64) (by omega) (by omega))).mp c_1
    exact absurd c_1 (by omega)
set_option maxHeartbeats 4000000 in
set_option maxRecDepth 100000 in
theorem c_Tu_look (l : Launch) (κ : KA) (σ : zS) (p1 p2 : Int32) (hn : nA κ ≤ 8) (t : Nat) (ht : σ.1 18 0 = nI t) (htm : t ≤ nA κ * 64) : zMi l y_Tu_look (zws y_Tu_look prog_5_method_3_code 3 (some .int)) ({ frames := 0, cells := 0, slots := 0, locals := 0 }) κ.1 vwCl (tysA κ) nwA (wA κ) σ [.ref (aA κ 10), .int (p1), .int (p2)] (fun r σ' => r = fx_look σ p1 p2 ∧ σ' = σ) := by
  refine zintro (cc := prog_5_method_3_code) (maxL := 3) (ret := (some .int)) (by decide) rfl (Nat.le_of_ble_eq_true rfl) ?_
  intro p e s m below meth c ls hx hb hr hml hts hown hlocks hl B
  have hl : lv_has ls 3 [(0, .ref (aA κ 10)), (1, .int (p1)), (2, .int (p2))] := hl
  have B : BA κ (va_A (wA κ σ) s.heap.size) s.heap s σ s.heap [] := B
  have hr : meth.sig.returnType = (some .int) := hr
  have hown : s.vm.findClass "UnitThreads$Turns" = some m.cls := hown
  show W p l e (headSpec (zws y_Tu_look prog_5_method_3_code 3 (some .int)) ({ frames := 0, cells := 0, slots := 0, locals := 0 })).room s m [.ref (aA κ 10), .int (p1), .int (p2)].toArray below meth c s.heap [] 0 0 (MQ below (va_Qi (fun r σ' => r = fx_look σ p1 p2 ∧ σ' = σ) (zQ κ.1 vwCl (tysA κ) (wA κ) (va_A (wA κ σ) s.heap.size)) (va_A (wA κ σ) s.heap.size)) [.ref (aA κ 10), .int (p1), .int (p2)].toArray s 0 0 (va_A (wA κ σ) s.heap.size)) (F0 m 0 ls [])
  generalize va_A (wA κ σ) s.heap.size = A at B ⊢
  have hts : ∀ w ∈ zW, w.before [.ref (aA κ 10), .int (p1), .int (p2)].toArray s = true := fun w h => hts w (List.mem_cons_of_mem _ h)
  refine lv_iload_n hx hb d_Tu_look_0 rfl (lv_at hl 1 rfl) ?_
  refine lv_if_lt (tgt := 12) hx hb d_Tu_look_1 (by decide) (fun c_1 => ?_) (fun c_1 => ?_)
  · refine lv_iconst (v := (-1)) hx hb d_Tu_look_12 (by decide) ?_
    exact zret_i hx hb hr hlocks B (⟨by simp [fx_look, ht, c_1], rfl⟩) d_Tu_look_13
  · refine lv_iload_n hx hb d_Tu_look_4 rfl (lv_at hl 1 rfl) ?_
    refine lv_aload_n hx hb d_Tu_look_5 rfl (lv_at hl 0 rfl) ?_
    refine va_get (D := κ.1) (ci := 3) (v := .int (σ.1 18 0)) (C := "UnitThreads$Turns") (T := T_Tu) (N := 4) hx hb hts in_Tu hown B.1 B.2.1 10 (wa_10 κ σ) rfl 3 (by decide) (hts _ w_124) (fun _ h9 => h9) rfl d_Tu_look_6 ?_
    refine zrwi (y := nI t) (ht) ?_
    refine lv_icmp_lt (tgt := 14) hx hb d_Tu_look_9 (by decide) (fun c_2 => ?_) (fun c_2 => ?_)
    · refine lv_iload_n hx hb d_Tu_look_14 rfl (lv_at hl 2 rfl) ?_
      by_cases c_3 : p2 = 0
      · refine lv_tableIn (off := 25) (tgt := 40) hx hb d_Tu_look_15 (by rw [c_3]; decide) (by rw [c_3]; decide) (by rw [c_3]; decide) (by decide) ?_
        refine lv_aload_n hx hb d_Tu_look_40 rfl (lv_at hl 0 rfl) ?_
        refine va_get (D := κ.1) (ci := 3) (v := .ref (aA κ 11)) (C := "UnitThreads$Turns") (T := T_Tu) (N := 4) hx hb hts in_Tu hown B.1 B.2.1 10 (wa_10 κ σ) rfl 0 (by decide) (hts _ w_121) (fun _ h9 => h9) rfl d_Tu_look_41 ?_
        refine lv_iload_n hx hb d_Tu_look_44 rfl (lv_at hl 1 rfl) ?_
        refine ziald hx hb B 11 0 (wa_11 κ σ) rfl (tn p1) (zix c_1) (Nat.lt_of_lt_of_le (zixlt' c_1 c_2 (by omega)) htm) (by omega) d_Tu_look_45 ?_
        exact zret_i hx hb hr hlocks B (⟨by simp [fx_look, ht, c_1, c_2, c_3], rfl⟩) d_Tu_look_46
      by_cases c_4 : p2 = 1
      · refine lv_tableIn (off := 32) (tgt := 47) hx hb d_Tu_look_15 (by rw [c_4]; decide) (by rw [c_4]; decide) (by rw [c_4]; decide) (by decide) ?_
        refine lv_aload_n hx hb d_Tu_look_47 rfl (lv_at hl 0 rfl) ?_
        refine va_get (D := κ.1) (ci := 3) (v := .ref (aA κ 12)) (C := "UnitThreads$Turns") (T := T_Tu) (N := 4) hx hb hts in_Tu hown B.1 B.2.1 10 (wa_10 κ σ) rfl 1 (by decide) (hts _ w_122) (fun _ h9 => h9) rfl d_Tu_look_48 ?_
        refine lv_iload_n hx hb d_Tu_look_51 rfl (lv_at hl 1 rfl) ?_
        refine ziald hx hb B 12 0 (wa_12 κ σ) rfl (tn p1) (zix c_1) (Nat.lt_of_lt_of_le (zixlt' c_1 c_2 (by omega)) htm) (by omega) d_Tu_look_52 ?_
        exact zret_i hx hb hr hlocks B (⟨by simp [fx_look, ht, c_1, c_2, c_3, c_4], rfl⟩) d_Tu_look_53
      by_cases c_5 : p2 = 2
      · refine lv_tableIn (off := 39) (tgt := 54) hx hb d_Tu_look_15 (by rw [c_5]; decide) (by rw [c_5]; decide) (by rw [c_5]; decide) (by decide) ?_
        refine lv_aload_n hx hb d_Tu_look_54 rfl (lv_at hl 0 rfl) ?_
        refine va_get (D := κ.1) (ci := 3) (v := .ref (aA κ 13)) (C := "UnitThreads$Turns") (T := T_Tu) (N := 4) hx hb hts in_Tu hown B.1 B.2.1 10 (wa_10 κ σ) rfl 2 (by decide) (hts _ w_123) (fun _ h9 => h9) rfl d_Tu_look_55 ?_
        refine lv_iload_n hx hb d_Tu_look_58 rfl (lv_at hl 1 rfl) ?_
        refine ziald hx hb B 13 0 (wa_13 κ σ) rfl (tn p1) (zix c_1) (Nat.lt_of_lt_of_le (zixlt' c_1 c_2 (by omega)) htm) (by omega) d_Tu_look_59 ?_
        exact zret_i hx hb hr hlocks B (⟨by simp [fx_look, ht, c_1, c_2, c_3, c_4, c_5], rfl⟩) d_Tu_look_60
      refine lv_tableOut (tgt := 61) hx hb d_Tu_look_15 (ztab2 c_3 c_4 c_5) (by decide) ?_
      refine lv_iconst (v := (-1)) hx hb d_Tu_look_61 (by decide) ?_
      exact zret_i hx hb hr hlocks B (⟨by simp [fx_look, ht, c_1, c_2, c_3, c_4, c_5], rfl⟩) d_Tu_look_62
    · refine lv_iconst (v := (-1)) hx hb d_Tu_look_12 (by decide) ?_
      exact zret_i hx hb hr hlocks B (⟨by simp [fx_look, ht, c_1, c_2], rfl⟩) d_Tu_look_13
