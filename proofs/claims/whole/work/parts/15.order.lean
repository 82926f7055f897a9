set_option maxHeartbeats 4000000 in
set_option maxRecDepth 100000 in
theorem c_Ar_fill (l : Launch) (κ : KA) (σ : zS)  : zMv l y_Ar_fill (zws y_Ar_fill prog_11_method_103_code 4 none) ({ frames := 0, cells := 0, slots := 0, locals := 0 }) κ.1 vwCl (tysA κ) nwA (wA κ) σ [.ref (aA κ 17), .int ((-1))] (fun σ' => σ' = zit fx_fill1 16 0 σ) := by
  refine zintro (cc := prog_11_method_103_code) (maxL := 4) (ret := none) (by decide) rfl (Nat.le_of_ble_eq_true rfl) ?_
  intro p e s m below meth c ls hx hb hr hml hts hown hlocks hl B
  have hl : lv_has ls 4 [(0, .ref (aA κ 17)), (1, .int ((-1)))] := hl
  have B : BA κ (va_A (wA κ σ) s.heap.size) s.heap s σ s.heap [] := B
  have hr : meth.sig.returnType = none := hr
  have hown : s.vm.findClass "java/util/Arrays" = some m.cls := hown
  show W p l e (headSpec (zws y_Ar_fill prog_11_method_103_code 4 none) ({ frames := 0, cells := 0, slots := 0, locals := 0 })).room s m [.ref (aA κ 17), .int ((-1))].toArray below meth c s.heap [] 0 0 (MQ below (va_Qv (fun σ' => σ' = zit fx_fill1 16 0 σ) (zQ κ.1 vwCl (tysA κ) (wA κ) (va_A (wA κ σ) s.heap.size)) (va_A (wA κ σ) s.heap.size)) [.ref (aA κ 17), .int ((-1))].toArray s 0 0 (va_A (wA κ σ) s.heap.size)) (F0 m 0 ls [])
  generalize va_A (wA κ σ) s.heap.size = A at B ⊢
  have hts : ∀ w ∈ zW, w.before [.ref (aA κ 17), .int ((-1))].toArray s = true := fun w h => hts w (List.mem_cons_of_mem _ h)
  have L_5 : ∀ (j : Nat) (k : Nat) (τ : zS), k + j = 16 → (zit fx_fill1 16 0 σ = zit fx_fill1 j k τ) → ∀ (H : Heap) (locs : List Loc), BA κ A s.heap s τ H locs → ∀ (ls : Array Slot), lv_has ls 4 [(0, .ref (aA κ 17)), (1, .int ((-1))), (2, .int (nI k)), (3, .int (nI 16))] → W p l e (headSpec (zws y_Ar_fill prog_11_method_103_code 4 none) ({ frames := 0, cells := 0, slots := 0, locals := 0 })).room s m [.ref (aA κ 17), .int ((-1))].toArray below meth c H locs 0 0 (MQ below (va_Qv (fun σ' => σ' = zit fx_fill1 16 0 σ) (zQ κ.1 vwCl (tysA κ) (wA κ) A) A) [.ref (aA κ 17), .int ((-1))].toArray s 0 0 A) (F0 m 5 ls []) := by
    intro j
    induction j with
    | zero =>
      intro k τ hj hst H locs B ls hl
      refine lv_iload_n hx hb d_Ar_fill_5 rfl (lv_at hl 2 rfl) ?_
      refine lv_iload_n hx hb d_Ar_fill_6 rfl (lv_at hl 3 rfl) ?_
      refine lv_icmp_ge (tgt := 20) hx hb d_Ar_fill_7 (by decide) (fun c_1 => ?_) (fun c_1 => ?_)
      · have c_1 := (nI_leI (a := 16) (b := k) (by omega) (by omega)).mp c_1
        exact zret_v hx hb hr hlocks B (hst.symm) d_Ar_fill_20
      · have c_1 := (not_congr (nI_leI (a := 16) (b := k) (by omega) (by omega))).mp c_1
        exact absurd c_1 (by omega)
    | succ j ih =>
      intro k τ hj hst H locs B ls hl
      refine lv_iload_n hx hb d_Ar_fill_5 rfl (lv_at hl 2 rfl) ?_
      refine lv_iload_n hx hb d_Ar_fill_6 rfl (lv_at hl 3 rfl) ?_
      refine lv_icmp_ge (tgt := 20) hx hb d_Ar_fill_7 (by decide) (fun c_2 => ?_) (fun c_2 => ?_)
      · have c_2 := (nI_leI (a := 16) (b := k) (by omega) (by omega)).mp c_2
        exact absurd c_2 (by omega)
      · have c_2 := (not_congr (nI_leI (a := 16) (b := k) (by omega) (by omega))).mp c_2
        refine lv_aload_n hx hb d_Ar_fill_10 rfl (lv_at hl 0 rfl) ?_
        refine lv_iload_n hx hb d_Ar_fill_11 rfl (lv_at hl 2 rfl) ?_
        refine lv_iload_n hx hb d_Ar_fill_12 rfl (lv_at hl 1 rfl) ?_
        refine ziast hx hb B 17 0 (wa_17 κ τ) rfl k rfl (by omega) (by decide) (ws_17 κ τ k (-1)) d_Ar_fill_13 (fun H locs B => ?_)
        have B : BA κ A s.heap s (zi τ 19 k (-1)) H locs := B
        refine lv_iinc (v := nI (k + 1)) (lv' := [(2, .int (nI (k + 1))), (0, .ref (aA κ 17)), (1, .int ((-1))), (3, .int (nI 16))]) hx hb d_Ar_fill_14 hl (k := 2) rfl (zinc _) (by decide) rfl (fun ls hl => ?_)
        refine lv_goto (tgt := 5) hx hb d_Ar_fill_17 (by decide) ?_
        exact ih (k + 1) (zi τ 19 k (-1)) (by omega) hst _ _ B ls (lv_sub hl [1, 2, 0, 3] rfl)
  refine lv_iconst (v := nI 0) hx hb d_Ar_fill_0 (by decide) ?_
  refine lv_istore_n (lv' := [(2, .int (nI 0)), (0, .ref (aA κ 17)), (1, .int ((-1)))]) hx hb d_Ar_fill_1 rfl hl (by decide) rfl (fun ls hl => ?_)
  refine lv_aload_n hx hb d_Ar_fill_2 rfl (lv_at hl 1 rfl) ?_
  refine zalen hx hb B 17 0 (wa_17 κ σ) rfl d_Ar_fill_3 ?_
  refine lv_istore_n (lv' := [(3, .int (nI 16)), (2, .int (nI 0)), (0, .ref (aA κ 17)), (1, .int ((-1)))]) hx hb d_Ar_fill_4 rfl hl (by decide) rfl (fun ls hl => ?_)
  exact L_5 16 0 σ (by omega) rfl _ _ B ls (lv_sub hl [2, 3, 1, 0] rfl)
set_option maxHeartbeats 4000000 in
set_option maxRecDepth 100000 in
theorem c_Bo_keep (l : Launch) (κ : KA) (σ : zS) (hn : nA κ ≤ 8) (b : Nat) (hbs : σ.1 21 0 = nI b) (hlt : b < 64) : zMv l y_Bo_keep (zws y_Bo_keep prog_2_method_9_code 1 none) ({ frames := 1, cells := 0, slots := 0, locals := 48 }) κ.1 vwCl (tysA κ) nwA (wA κ) σ [.ref (aA κ 14)] (fun σ' => σ' = fx_keep (nA κ) b σ) := by
  refine zintro (cc := prog_2_method_9_code) (maxL := 1) (ret := none) (by decide) rfl (Nat.le_of_ble_eq_true rfl) ?_
  intro p e s m below meth c ls hx hb hr hml hts hown hlocks hl B
  have hl : lv_has ls 1 [(0, .ref (aA κ 14))] := hl
  have B : BA κ (va_A (wA κ σ) s.heap.size) s.heap s σ s.heap [] := B
  have hr : meth.sig.returnType = none := hr
  have hown : s.vm.findClass "UnitThreads$Board" = some m.cls := hown
  show W p l e (headSpec (zws y_Bo_keep prog_2_method_9_code 1 none) ({ frames := 1, cells := 0, slots := 0, locals := 48 })).room s m [.ref (aA κ 14)].toArray below meth c s.heap [] 0 0 (MQ below (va_Qv (fun σ' => σ' = fx_keep (nA κ) b σ) (zQ κ.1 vwCl (tysA κ) (wA κ) (va_A (wA κ σ) s.heap.size)) (va_A (wA κ σ) s.heap.size)) [.ref (aA κ 14)].toArray s 0 0 (va_A (wA κ σ) s.heap.size)) (F0 m 0 ls [])
  generalize va_A (wA κ σ) s.heap.size = A at B ⊢
  have hts : ∀ w ∈ zW, w.before [.ref (aA κ 14)].toArray s = true := fun w h => hts w (List.mem_cons_of_mem _ h)
  refine lv_aload_n hx hb d_Bo_keep_0 rfl (lv_at hl 0 rfl) ?_
  refine va_get (D := κ.1) (ci := 4) (v := .int (σ.1 21 0)) (C := "UnitThreads$Board") (T := T_Bo) (N := 6) hx hb hts in_Bo hown B.1 B.2.1 14 (wa_14 κ σ) rfl 5 (by decide) (hts _ w_152) (fun _ h9 => h9) rfl d_Bo_keep_1 ?_
  refine zrwi (y := nI b) (hbs) ?_
  refine lv_bipush (v := nI 64) hx hb d_Bo_keep_4 (by decide) ?_
  refine lv_icmp_lt (tgt := 10) hx hb d_Bo_keep_6 (by decide) (fun c_1 => ?_) (fun c_1 => ?_)
  · have c_1 := (nI_ltI (a := b) (b := 64) (by omega) (by omega)).mp c_1
    refine lv_aload_n hx hb d_Bo_keep_10 rfl (lv_at hl 0 rfl) ?_
    refine va_get (D := κ.1) (ci := 4) (v := .ref (aA κ 15)) (C := "UnitThreads$Board") (T := T_Bo) (N := 6) hx hb hts in_Bo hown B.1 B.2.1 14 (wa_14 κ σ) rfl 0 (by decide) (hts _ w_144) (fun _ h9 => h9) rfl d_Bo_keep_11 ?_
    refine lv_iconst (v := nI 0) hx hb d_Bo_keep_14 (by decide) ?_
    refine lv_aload_n hx hb d_Bo_keep_15 rfl (lv_at hl 0 rfl) ?_
    refine va_get (D := κ.1) (ci := 4) (v := .ref (aA κ 18)) (C := "UnitThreads$Board") (T := T_Bo) (N := 6) hx hb hts in_Bo hown B.1 B.2.1 14 (wa_14 κ σ) rfl 3 (by decide) (hts _ w_150) (fun _ h9 => h9) rfl d_Bo_keep_16 ?_
    refine lv_aload_n hx hb d_Bo_keep_19 rfl (lv_at hl 0 rfl) ?_
    refine va_get (D := κ.1) (ci := 4) (v := .int (σ.1 21 0)) (C := "UnitThreads$Board") (T := T_Bo) (N := 6) hx hb hts in_Bo hown B.1 B.2.1 14 (wa_14 κ σ) rfl 5 (by decide) (hts _ w_152) (fun _ h9 => h9) rfl d_Bo_keep_20 ?_
    refine zrwi (y := nI b) (hbs) ?_
    refine lv_aload_n hx hb d_Bo_keep_23 rfl (lv_at hl 0 rfl) ?_
    refine va_get (D := κ.1) (ci := 4) (v := .ref (aA κ 15)) (C := "UnitThreads$Board") (T := T_Bo) (N := 6) hx hb hts in_Bo hown B.1 B.2.1 14 (wa_14 κ σ) rfl 0 (by decide) (hts _ w_144) (fun _ h9 => h9) rfl d_Bo_keep_24 ?_
    refine zalen hx hb B 15 1 (wa_15 κ σ) rfl d_Bo_keep_27 ?_
    refine lv_imul hx hb d_Bo_keep_28 ?_
    refine zrwi (y := nI (b * (nA κ * 4))) (pk_mul _ _) ?_
    refine lv_aload_n hx hb d_Bo_keep_29 rfl (lv_at hl 0 rfl) ?_
    refine va_get (D := κ.1) (ci := 4) (v := .ref (aA κ 15)) (C := "UnitThreads$Board") (T := T_Bo) (N := 6) hx hb hts in_Bo hown B.1 B.2.1 14 (wa_14 κ σ) rfl 0 (by decide) (hts _ w_144) (fun _ h9 => h9) rfl d_Bo_keep_30 ?_
    refine zalen hx hb B 15 1 (wa_15 κ σ) rfl d_Bo_keep_33 ?_
    refine zcopyl (t0 := 1) (t1 := 1) hx hb (hml.trans hl.1.symm) hown (hts _ w_338) (hts _ w_340) (hts _ w_339) (hts _ w_10) B 15 18 (wa_15 κ σ) (wa_18 κ σ) rfl rfl 0 (b * (nA κ * 4)) (nA κ * 4) rfl rfl rfl (by omega) (zcp hlt) (by omega) (Nat.le_of_ble_eq_true rfl) (Nat.le_of_ble_eq_true rfl) (wf_18 κ σ _) d_Bo_keep_34 (fun H locs B => ?_)
    have B : BA κ A s.heap s (zfl σ 4 (va_cpy (σ.2 2) (σ.2 4) 0 (b * (nA κ * 4)) (nA κ * 4))) H locs := B
    refine lv_aload_n hx hb d_Bo_keep_37 rfl (lv_at hl 0 rfl) ?_
    refine va_get (D := κ.1) (ci := 4) (v := .ref (aA κ 17)) (C := "UnitThreads$Board") (T := T_Bo) (N := 6) hx hb hts in_Bo hown B.1 B.2.1 14 (wa_14 κ (zfl σ 4 (va_cpy (σ.2 2) (σ.2 4) 0 (b * (nA κ * 4)) (nA κ * 4)))) rfl 2 (by decide) (hts _ w_148) (fun _ h9 => h9) rfl d_Bo_keep_38 ?_
    refine lv_iconst (v := nI 0) hx hb d_Bo_keep_41 (by decide) ?_
    refine lv_aload_n hx hb d_Bo_keep_42 rfl (lv_at hl 0 rfl) ?_
    refine va_get (D := κ.1) (ci := 4) (v := .ref (aA κ 19)) (C := "UnitThreads$Board") (T := T_Bo) (N := 6) hx hb hts in_Bo hown B.1 B.2.1 14 (wa_14 κ (zfl σ 4 (va_cpy (σ.2 2) (σ.2 4) 0 (b * (nA κ * 4)) (nA κ * 4)))) rfl 4 (by decide) (hts _ w_151) (fun _ h9 => h9) rfl d_Bo_keep_43 ?_
    refine lv_aload_n hx hb d_Bo_keep_46 rfl (lv_at hl 0 rfl) ?_
    refine va_get (D := κ.1) (ci := 4) (v := .int ((zfl σ 4 (va_cpy (σ.2 2) (σ.2 4) 0 (b * (nA κ * 4)) (nA κ * 4))).1 21 0)) (C := "UnitThreads$Board") (T := T_Bo) (N := 6) hx hb hts in_Bo hown B.1 B.2.1 14 (wa_14 κ (zfl σ 4 (va_cpy (σ.2 2) (σ.2 4) 0 (b * (nA κ * 4)) (nA κ * 4)))) rfl 5 (by decide) (hts _ w_152) (fun _ h9 => h9) rfl d_Bo_keep_47 ?_
    refine zrwi (y := nI b) (hbs) ?_
    refine lv_bipush (v := nI 16) hx hb d_Bo_keep_50 (by decide) ?_
    refine lv_imul hx hb d_Bo_keep_52 ?_
    refine zrwi (y := nI (b * 16)) (pk_mul _ _) ?_
    refine lv_bipush (v := nI 16) hx hb d_Bo_keep_53 (by decide) ?_
    refine zcopyi (t0 := 0) (t1 := 0) hx hb (hml.trans hl.1.symm) hown (hts _ w_338) (hts _ w_340) (hts _ w_339) (hts _ w_10) B 17 19 (wa_17 κ (zfl σ 4 (va_cpy (σ.2 2) (σ.2 4) 0 (b * (nA κ * 4)) (nA κ * 4)))) (wa_19 κ (zfl σ 4 (va_cpy (σ.2 2) (σ.2 4) 0 (b * (nA κ * 4)) (nA κ * 4)))) rfl rfl 0 (b * 16) 16 rfl rfl rfl (by omega) (by omega) (by omega) (Nat.le_of_ble_eq_true rfl) (Nat.le_of_ble_eq_true rfl) (wf_19 κ _ _) d_Bo_keep_55 (fun H locs B => ?_)
    have B : BA κ A s.heap s (zfi (zfl σ 4 (va_cpy (σ.2 2) (σ.2 4) 0 (b * (nA κ * 4)) (nA κ * 4))) 20 (va_cpy ((zfl σ 4 (va_cpy (σ.2 2) (σ.2 4) 0 (b * (nA κ * 4)) (nA κ * 4))).1 19) ((zfl σ 4 (va_cpy (σ.2 2) (σ.2 4) 0 (b * (nA κ * 4)) (nA κ * 4))).1 20) 0 (b * 16) 16)) H locs := B
    refine lv_aload_n hx hb d_Bo_keep_58 rfl (lv_at hl 0 rfl) ?_
    refine lv_dup hx hb d_Bo_keep_59 rfl ?_
    refine va_get (D := κ.1) (ci := 4) (v := .int ((zfi (zfl σ 4 (va_cpy (σ.2 2) (σ.2 4) 0 (b * (nA κ * 4)) (nA κ * 4))) 20 (va_cpy ((zfl σ 4 (va_cpy (σ.2 2) (σ.2 4) 0 (b * (nA κ * 4)) (nA κ * 4))).1 19) ((zfl σ 4 (va_cpy (σ.2 2) (σ.2 4) 0 (b * (nA κ * 4)) (nA κ * 4))).1 20) 0 (b * 16) 16)).1 21 0)) (C := "UnitThreads$Board") (T := T_Bo) (N := 6) hx hb hts in_Bo hown B.1 B.2.1 14 (wa_14 κ (zfi (zfl σ 4 (va_cpy (σ.2 2) (σ.2 4) 0 (b * (nA κ * 4)) (nA κ * 4))) 20 (va_cpy ((zfl σ 4 (va_cpy (σ.2 2) (σ.2 4) 0 (b * (nA κ * 4)) (nA κ * 4))).1 19) ((zfl σ 4 (va_cpy (σ.2 2) (σ.2 4) 0 (b * (nA κ * 4)) (nA κ * 4))).1 20) 0 (b * 16) 16))) rfl 5 (by decide) (hts _ w_152) (fun _ h9 => h9) rfl d_Bo_keep_60 ?_
    refine zrwi (y := nI b) (hbs) ?_
    refine lv_iconst (v := 1) hx hb d_Bo_keep_63 (by decide) ?_
    refine lv_iadd hx hb d_Bo_keep_64 ?_
    refine zrwi (y := nI (b + 1)) (nI_1 _) ?_
    refine zput (ci := 4) (v := .int (nI (b + 1))) (ty := .int) (C := "UnitThreads$Board") (T := T_Bo) (N := 6) hx hb hts in_Bo ty_Bo tyok_Bo nm_Bo hown B 14 (wa_14 κ (zfi (zfl σ 4 (va_cpy (σ.2 2) (σ.2 4) 0 (b * (nA κ * 4)) (nA κ * 4))) 20 (va_cpy ((zfl σ 4 (va_cpy (σ.2 2) (σ.2 4) 0 (b * (nA κ * 4)) (nA κ * 4))).1 19) ((zfl σ 4 (va_cpy (σ.2 2) (σ.2 4) 0 (b * (nA κ * 4)) (nA κ * 4))).1 20) 0 (b * 16) 16))) rfl 5 (by decide) (hts _ w_152) (fun _ h9 => h9) rfl (by decide +kernel) rfl rfl (Nat.le_of_ble_eq_true rfl) (wp_14_5 κ (zfi (zfl σ 4 (va_cpy (σ.2 2) (σ.2 4) 0 (b * (nA κ * 4)) (nA κ * 4))) 20 (va_cpy ((zfl σ 4 (va_cpy (σ.2 2) (σ.2 4) 0 (b * (nA κ * 4)) (nA κ * 4))).1 19) ((zfl σ 4 (va_cpy (σ.2 2) (σ.2 4) 0 (b * (nA κ * 4)) (nA κ * 4))).1 20) 0 (b * 16) 16)) (nI (b + 1))) d_Bo_keep_65 (fun H locs B => ?_)
    have B : BA κ A s.heap s (zi (zfi (zfl σ 4 (va_cpy (σ.2 2) (σ.2 4) 0 (b * (nA κ * 4)) (nA κ * 4))) 20 (va_cpy ((zfl σ 4 (va_cpy (σ.2 2) (σ.2 4) 0 (b * (nA κ * 4)) (nA κ * 4))).1 19) ((zfl σ 4 (va_cpy (σ.2 2) (σ.2 4) 0 (b * (nA κ * 4)) (nA κ * 4))).1 20) 0 (b * 16) 16)) 21 0 (nI (b + 1))) H locs := B
    exact zret_v hx hb hr hlocks B (rfl) d_Bo_keep_68
  · have c_1 := (not_congr (nI_ltI (a := b) (b := 64) (by omega) (by omega))).mp c_1
    exact absurd c_1 (by omega)
set_option maxHeartbeats 4000000 in
set_option maxRecDepth 100000 in
theorem c_Bo_shut (l : Launch) (κ : KA) (σ : zS) (hn : nA κ ≤ 8) : zMv l y_Bo_shut (zws y_Bo_shut prog_2_method_10_code 1 none) ({ frames := 1, cells := 0, slots := 0, locals := 48 }) κ.1 vwCl (tysA κ) nwA (wA κ) σ [.ref (aA κ 14)] (fun σ' => σ' = fx_shut (nA κ) σ) := by
  refine zintro (cc := prog_2_method_10_code) (maxL := 1) (ret := none) (by decide) rfl (Nat.le_of_ble_eq_true rfl) ?_
  intro p e s m below meth c ls hx hb hr hml hts hown hlocks hl B
  have hl : lv_has ls 1 [(0, .ref (aA κ 14))] := hl
  have B : BA κ (va_A (wA κ σ) s.heap.size) s.heap s σ s.heap [] := B
  have hr : meth.sig.returnType = none := hr
  have hown : s.vm.findClass "UnitThreads$Board" = some m.cls := hown
  show W p l e (headSpec (zws y_Bo_shut prog_2_method_10_code 1 none) ({ frames := 1, cells := 0, slots := 0, locals := 48 })).room s m [.ref (aA κ 14)].toArray below meth c s.heap [] 0 0 (MQ below (va_Qv (fun σ' => σ' = fx_shut (nA κ) σ) (zQ κ.1 vwCl (tysA κ) (wA κ) (va_A (wA κ σ) s.heap.size)) (va_A (wA κ σ) s.heap.size)) [.ref (aA κ 14)].toArray s 0 0 (va_A (wA κ σ) s.heap.size)) (F0 m 0 ls [])
  generalize va_A (wA κ σ) s.heap.size = A at B ⊢
  have hts : ∀ w ∈ zW, w.before [.ref (aA κ 14)].toArray s = true := fun w h => hts w (List.mem_cons_of_mem _ h)
  refine lv_aload_n hx hb d_Bo_shut_0 rfl (lv_at hl 0 rfl) ?_
  refine va_get (D := κ.1) (ci := 4) (v := .ref (aA κ 16)) (C := "UnitThreads$Board") (T := T_Bo) (N := 6) hx hb hts in_Bo hown B.1 B.2.1 14 (wa_14 κ σ) rfl 1 (by decide) (hts _ w_146) (fun _ h9 => h9) rfl d_Bo_shut_1 ?_
  refine lv_iconst (v := nI 0) hx hb d_Bo_shut_4 (by decide) ?_
  refine lv_aload_n hx hb d_Bo_shut_5 rfl (lv_at hl 0 rfl) ?_
  refine va_get (D := κ.1) (ci := 4) (v := .ref (aA κ 15)) (C := "UnitThreads$Board") (T := T_Bo) (N := 6) hx hb hts in_Bo hown B.1 B.2.1 14 (wa_14 κ σ) rfl 0 (by decide) (hts _ w_144) (fun _ h9 => h9) rfl d_Bo_shut_6 ?_
  refine lv_iconst (v := nI 0) hx hb d_Bo_shut_9 (by decide) ?_
  refine lv_aload_n hx hb d_Bo_shut_10 rfl (lv_at hl 0 rfl) ?_
  refine va_get (D := κ.1) (ci := 4) (v := .ref (aA κ 15)) (C := "UnitThreads$Board") (T := T_Bo) (N := 6) hx hb hts in_Bo hown B.1 B.2.1 14 (wa_14 κ σ) rfl 0 (by decide) (hts _ w_144) (fun _ h9 => h9) rfl d_Bo_shut_11 ?_
  refine zalen hx hb B 15 1 (wa_15 κ σ) rfl d_Bo_shut_14 ?_
  refine zcopyl (t0 := 1) (t1 := 1) hx hb (hml.trans hl.1.symm) hown (hts _ w_338) (hts _ w_340) (hts _ w_339) (hts _ w_10) B 16 15 (wa_16 κ σ) (wa_15 κ σ) rfl rfl 0 0 (nA κ * 4) rfl rfl rfl (by omega) (by omega) (by omega) (Nat.le_of_ble_eq_true rfl) (Nat.le_of_ble_eq_true rfl) (wf_15 κ σ _) d_Bo_shut_15 (fun H locs B => ?_)
  have B : BA κ A s.heap s (zfl σ 2 (va_cpy (σ.2 3) (σ.2 2) 0 0 (nA κ * 4))) H locs := B
  refine lv_aload_n hx hb d_Bo_shut_18 rfl (lv_at hl 0 rfl) ?_
  refine va_get (D := κ.1) (ci := 4) (v := .ref (aA κ 17)) (C := "UnitThreads$Board") (T := T_Bo) (N := 6) hx hb hts in_Bo hown B.1 B.2.1 14 (wa_14 κ (zfl σ 2 (va_cpy (σ.2 3) (σ.2 2) 0 0 (nA κ * 4)))) rfl 2 (by decide) (hts _ w_148) (fun _ h9 => h9) rfl d_Bo_shut_19 ?_
  refine lv_iconst (v := (-1)) hx hb d_Bo_shut_22 (by decide) ?_
  refine zcS_v (As := [.ref (aA κ 17), .int ((-1))]) (rest := []) ⟨hx, hb, hml, hown, hts⟩ (c_Ar_fill l κ (zfl σ 2 (va_cpy (σ.2 3) (σ.2 2) 0 0 (nA κ * 4)))) (va_cwS 2 hts (zgoodT w_141 w_142 w_8 w_143) rfl rfl rfl (by decide +kernel) ⟨Nat.le_of_ble_eq_true rfl, Nat.le_of_ble_eq_true rfl⟩) B rfl hl.1 rfl (Nat.le_of_ble_eq_true rfl) d_Bo_shut_23 ⟨Nat.zero_le _, Nat.zero_le _⟩ (fun σ' H locs hp B => ?_)
  rw [hp] at B
  have B : BA κ A s.heap s (zit fx_fill1 16 0 (zfl σ 2 (va_cpy (σ.2 3) (σ.2 2) 0 0 (nA κ * 4)))) H locs := B
  exact zret_v hx hb hr hlocks B (rfl) d_Bo_shut_26
set_option maxHeartbeats 4000000 in
set_option maxRecDepth 100000 in
theorem c_Or_moveForward (l : Launch) (κ : KA) (σ : zS) (f t : Nat) (hf : f < nA κ) (ht : t ≤ f) (hn : nA κ ≤ 8) : zMv l y_Or_moveForward (zws y_Or_moveForward prog_4_method_4_code 5 none) ({ frames := 0, cells := 0, slots := 0, locals := 0 }) κ.1 vwCl (tysA κ) nwA (wA κ) σ [.ref (aA κ 8), .int (nI f), .int (nI t)] (fun σ' => σ' = fx_move σ f t) := by
  refine zintro (cc := prog_4_method_4_code) (maxL := 5) (ret := none) (by decide) rfl (Nat.le_of_ble_eq_true rfl) ?_
  intro p e s m below meth c ls hx hb hr hml hts hown hlocks hl B
  have hl : lv_has ls 5 [(0, .ref (aA κ 8)), (1, .int (nI f)), (2, .int (nI t))] := hl
  have B : BA κ (va_A (wA κ σ) s.heap.size) s.heap s σ s.heap [] := B
  have hr : meth.sig.returnType = none := hr
  have hown : s.vm.findClass "UnitThreads$Order" = some m.cls := hown
  show W p l e (headSpec (zws y_Or_moveForward prog_4_method_4_code 5 none) ({ frames := 0, cells := 0, slots := 0, locals := 0 })).room s m [.ref (aA κ 8), .int (nI f), .int (nI t)].toArray below meth c s.heap [] 0 0 (MQ below (va_Qv (fun σ' => σ' = fx_move σ f t) (zQ κ.1 vwCl (tysA κ) (wA κ) (va_A (wA κ σ) s.heap.size)) (va_A (wA κ σ) s.heap.size)) [.ref (aA κ 8), .int (nI f), .int (nI t)].toArray s 0 0 (va_A (wA κ σ) s.heap.size)) (F0 m 0 ls [])
  generalize va_A (wA κ σ) s.heap.size = A at B ⊢
  have hts : ∀ w ∈ zW, w.before [.ref (aA κ 8), .int (nI f), .int (nI t)].toArray s = true := fun w h => hts w (List.mem_cons_of_mem _ h)
  have L_10 : ∀ (j : Nat) (i : Nat) (τ : zS), i = t + j ∧ i ≤ f → (fx_move σ f t = zi (fx_shift j i τ) 13 t (σ.1 13 f)) → ∀ (H : Heap) (locs : List Loc), BA κ A s.heap s τ H locs → ∀ (ls : Array Slot), lv_has ls 5 [(0, .ref (aA κ 8)), (1, .int (nI f)), (2, .int (nI t)), (3, .int (σ.1 13 f)), (4, .int (nI i))] → W p l e (headSpec (zws y_Or_moveForward prog_4_method_4_code 5 none) ({ frames := 0, cells := 0, slots := 0, locals := 0 })).room s m [.ref (aA κ 8), .int (nI f), .int (nI t)].toArray below meth c H locs 0 0 (MQ below (va_Qv (fun σ' => σ' = fx_move σ f t) (zQ κ.1 vwCl (tysA κ) (wA κ) A) A) [.ref (aA κ 8), .int (nI f), .int (nI t)].toArray s 0 0 A) (F0 m 10 ls []) := by
    intro j
    induction j with
    | zero =>
      intro i τ hj hst H locs B ls hl
      refine lv_iload hx hb d_Or_moveForward_10 (lv_at hl 4 rfl) ?_
      refine lv_iload_n hx hb d_Or_moveForward_12 rfl (lv_at hl 2 rfl) ?_
      refine lv_icmp_le (tgt := 38) hx hb d_Or_moveForward_13 (by decide) (fun c_1 => ?_) (fun c_1 => ?_)
      · have c_1 := (nI_leI (a := i) (b := t) (by omega) (by omega)).mp c_1
        refine lv_aload_n hx hb d_Or_moveForward_38 rfl (lv_at hl 0 rfl) ?_
        refine va_get (D := κ.1) (ci := 2) (v := .ref (aA κ 9)) (C := "UnitThreads$Order") (T := T_Or) (N := 3) hx hb hts in_Or hown B.1 B.2.1 8 (wa_8 κ τ) rfl 0 (by decide) (hts _ w_102) (fun _ h9 => h9) rfl d_Or_moveForward_39 ?_
        refine lv_iload_n hx hb d_Or_moveForward_42 rfl (lv_at hl 2 rfl) ?_
        refine lv_iload_n hx hb d_Or_moveForward_43 rfl (lv_at hl 3 rfl) ?_
        refine ziast hx hb B 9 0 (wa_9 κ τ) rfl t rfl (by omega) (by omega) (ws_9 κ τ t (σ.1 13 f)) d_Or_moveForward_44 (fun H locs B => ?_)
        have B : BA κ A s.heap s (zi τ 13 t (σ.1 13 f)) H locs := B
        exact zret_v hx hb hr hlocks B (hst.symm) d_Or_moveForward_45
      · have c_1 := (not_congr (nI_leI (a := i) (b := t) (by omega) (by omega))).mp c_1
        exact absurd c_1 (by omega)
    | succ j ih =>
      intro i τ hj hst H locs B ls hl
      refine lv_iload hx hb d_Or_moveForward_10 (lv_at hl 4 rfl) ?_
      refine lv_iload_n hx hb d_Or_moveForward_12 rfl (lv_at hl 2 rfl) ?_
      refine lv_icmp_le (tgt := 38) hx hb d_Or_moveForward_13 (by decide) (fun c_2 => ?_) (fun c_2 => ?_)
      · have c_2 := (nI_leI (a := i) (b := t) (by omega) (by omega)).mp c_2
        exact absurd c_2 (by omega)
      · have c_2 := (not_congr (nI_leI (a := i) (b := t) (by omega) (by omega))).mp c_2
        refine lv_aload_n hx hb d_Or_moveForward_16 rfl (lv_at hl 0 rfl) ?_
        refine va_get (D := κ.1) (ci := 2) (v := .ref (aA κ 9)) (C := "UnitThreads$Order") (T := T_Or) (N := 3) hx hb hts in_Or hown B.1 B.2.1 8 (wa_8 κ τ) rfl 0 (by decide) (hts _ w_102) (fun _ h9 => h9) rfl d_Or_moveForward_17 ?_
        refine lv_iload hx hb d_Or_moveForward_20 (lv_at hl 4 rfl) ?_
        refine lv_aload_n hx hb d_Or_moveForward_22 rfl (lv_at hl 0 rfl) ?_
        refine va_get (D := κ.1) (ci := 2) (v := .ref (aA κ 9)) (C := "UnitThreads$Order") (T := T_Or) (N := 3) hx hb hts in_Or hown B.1 B.2.1 8 (wa_8 κ τ) rfl 0 (by decide) (hts _ w_102) (fun _ h9 => h9) rfl d_Or_moveForward_23 ?_
        refine lv_iload hx hb d_Or_moveForward_26 (lv_at hl 4 rfl) ?_
        refine lv_iconst (v := nI 1) hx hb d_Or_moveForward_28 (by decide) ?_
        refine lv_isub hx hb d_Or_moveForward_29 ?_
        refine zrwi (y := nI (i - 1)) (pk_sub (by omega)) ?_
        refine ziald hx hb B 9 0 (wa_9 κ τ) rfl (i - 1) rfl (by omega) (by omega) d_Or_moveForward_30 ?_
        refine ziast hx hb B 9 0 (wa_9 κ τ) rfl i rfl (by omega) (by omega) (ws_9 κ τ i (τ.1 13 (i - 1))) d_Or_moveForward_31 (fun H locs B => ?_)
        have B : BA κ A s.heap s (zi τ 13 i (τ.1 13 (i - 1))) H locs := B
        refine lv_iinc (v := nI (i - 1)) (lv' := [(4, .int (nI (i - 1))), (0, .ref (aA κ 8)), (1, .int (nI f)), (2, .int (nI t)), (3, .int (σ.1 13 f))]) hx hb d_Or_moveForward_32 hl (k := 4) rfl (sb_m1 (by omega)) (by decide) rfl (fun ls hl => ?_)
        refine lv_goto (tgt := 10) hx hb d_Or_moveForward_35 (by decide) ?_
        exact ih (i - 1) (zi τ 13 i (τ.1 13 (i - 1))) (by omega) hst _ _ B ls (lv_sub hl [1, 2, 3, 4, 0] rfl)
  refine lv_aload_n hx hb d_Or_moveForward_0 rfl (lv_at hl 0 rfl) ?_
  refine va_get (D := κ.1) (ci := 2) (v := .ref (aA κ 9)) (C := "UnitThreads$Order") (T := T_Or) (N := 3) hx hb hts in_Or hown B.1 B.2.1 8 (wa_8 κ σ) rfl 0 (by decide) (hts _ w_102) (fun _ h9 => h9) rfl d_Or_moveForward_1 ?_
  refine lv_iload_n hx hb d_Or_moveForward_4 rfl (lv_at hl 1 rfl) ?_
  refine ziald hx hb B 9 0 (wa_9 κ σ) rfl f rfl (by omega) (by omega) d_Or_moveForward_5 ?_
  refine lv_istore_n (lv' := [(3, .int (σ.1 13 f)), (0, .ref (aA κ 8)), (1, .int (nI f)), (2, .int (nI t))]) hx hb d_Or_moveForward_6 rfl hl (by decide) rfl (fun ls hl => ?_)
  refine lv_iload_n hx hb d_Or_moveForward_7 rfl (lv_at hl 2 rfl) ?_
  refine lv_istore (lv' := [(4, .int (nI f)), (3, .int (σ.1 13 f)), (0, .ref (aA κ 8)), (1, .int (nI f)), (2, .int (nI t))]) hx hb d_Or_moveForward_8 hl (by decide) rfl (fun ls hl => ?_)
  exact L_10 (f - t) f σ (by omega) rfl _ _ B ls (lv_sub hl [2, 3, 4, 1, 0] rfl)
set_option maxHeartbeats 4000000 in
set_option maxRecDepth 100000 in
theorem c_Or_draw (l : Launch) (κ : KA) (σ : zS) (hn : nA κ ≤ 8) (N : Nat) (hN : σ.1 14 0 = nI N) (hNn : N ≤ nA κ) : zMv l y_Or_draw (zws y_Or_draw prog_4_method_3_code 3 none) ({ frames := 1, cells := 0, slots := 0, locals := 24 }) κ.1 vwCl (tysA κ) nwA (wA κ) σ [.ref (aA κ 8)] (fun σ' => σ' = fx_draw N σ) := by
  refine zintro (cc := prog_4_method_3_code) (maxL := 3) (ret := none) (by decide) rfl (Nat.le_of_ble_eq_true rfl) ?_
  intro p e s m below meth c ls hx hb hr hml hts hown hlocks hl B
  have hl : lv_has ls 3 [(0, .ref (aA κ 8))] := hl
  have B : BA κ (va_A (wA κ σ) s.heap.size) s.heap s σ s.heap [] := B
  have hr : meth.sig.returnType = none := hr
  have hown : s.vm.findClass "UnitThreads$Order" = some m.cls := hown
  show W p l e (headSpec (zws y_Or_draw prog_4_method_3_code 3 none) ({ frames := 1, cells := 0, slots := 0, locals := 24 })).room s m [.ref (aA κ 8)].toArray below meth c s.heap [] 0 0 (MQ below (va_Qv (fun σ' => σ' = fx_draw N σ) (zQ κ.1 vwCl (tysA κ) (wA κ) (va_A (wA κ σ) s.heap.size)) (va_A (wA κ σ) s.heap.size)) [.ref (aA κ 8)].toArray s 0 0 (va_A (wA κ σ) s.heap.size)) (F0 m 0 ls [])
  generalize va_A (wA κ σ) s.heap.size = A at B ⊢
  have hts : ∀ w ∈ zW, w.before [.ref (aA κ 8)].toArray s = true := fun w h => hts w (List.mem_cons_of_mem _ h)
  have L_2 : ∀ (j : Nat) (k : Nat) (τ : zS), k + j = N → (fx_draw N σ = zit (fx_draw1 N) j k τ) → (τ.1 14 0 = nI N) → ∀ (H : Heap) (locs : List Loc), BA κ A s.heap s τ H locs → ∀ (ls : Array Slot), lv_has ls 3 [(0, .ref (aA κ 8)), (1, .int (nI k))] → W p l e (headSpec (zws y_Or_draw prog_4_method_3_code 3 none) ({ frames := 1, cells := 0, slots := 0, locals := 24 })).room s m [.ref (aA κ 8)].toArray below meth c H locs 0 0 (MQ below (va_Qv (fun σ' => σ' = fx_draw N σ) (zQ κ.1 vwCl (tysA κ) (wA κ) A) A) [.ref (aA κ 8)].toArray s 0 0 A) (F0 m 2 ls []) := by
    intro j
    induction j with
    | zero =>
      intro k τ hj hst hN H locs B ls hl
      refine lv_iload_n hx hb d_Or_draw_2 rfl (lv_at hl 1 rfl) ?_
      refine lv_aload_n hx hb d_Or_draw_3 rfl (lv_at hl 0 rfl) ?_
      refine va_get (D := κ.1) (ci := 2) (v := .int (τ.1 14 0)) (C := "UnitThreads$Order") (T := T_Or) (N := 3) hx hb hts in_Or hown B.1 B.2.1 8 (wa_8 κ τ) rfl 1 (by decide) (hts _ w_104) (fun _ h9 => h9) rfl d_Or_draw_4 ?_
      refine zrwi (y := nI N) (hN) ?_
      refine lv_icmp_ge (tgt := 57) hx hb d_Or_draw_7 (by decide) (fun c_1 => ?_) (fun c_1 => ?_)
      · have c_1 := (nI_leI (a := N) (b := k) (by omega) (by omega)).mp c_1
        exact zret_v hx hb hr hlocks B (hst.symm) d_Or_draw_57
      · have c_1 := (not_congr (nI_leI (a := N) (b := k) (by omega) (by omega))).mp c_1
        exact absurd c_1 (by omega)
    | succ j ih =>
      intro k τ hj hst hN H locs B ls hl
      refine lv_iload_n hx hb d_Or_draw_2 rfl (lv_at hl 1 rfl) ?_
      refine lv_aload_n hx hb d_Or_draw_3 rfl (lv_at hl 0 rfl) ?_
      refine va_get (D := κ.1) (ci := 2) (v := .int (τ.1 14 0)) (C := "UnitThreads$Order") (T := T_Or) (N := 3) hx hb hts in_Or hown B.1 B.2.1 8 (wa_8 κ τ) rfl 1 (by decide) (hts _ w_104) (fun _ h9 => h9) rfl d_Or_draw_4 ?_
      refine zrwi (y := nI N) (hN) ?_
      refine lv_icmp_ge (tgt := 57) hx hb d_Or_draw_7 (by decide) (fun c_2 => ?_) (fun c_2 => ?_)
      · have c_2 := (nI_leI (a := N) (b := k) (by omega) (by omega)).mp c_2
        exact absurd c_2 (by omega)
      · have c_2 := (not_congr (nI_leI (a := N) (b := k) (by omega) (by omega))).mp c_2
        refine lv_aload_n hx hb d_Or_draw_10 rfl (lv_at hl 0 rfl) ?_
        refine lv_aload_n hx hb d_Or_draw_11 rfl (lv_at hl 0 rfl) ?_
        refine va_get (D := κ.1) (ci := 2) (v := .long (τ.2 1 0)) (C := "UnitThreads$Order") (T := T_Or) (N := 3) hx hb hts in_Or hown B.1 B.2.1 8 (wa_8 κ τ) rfl 2 (by decide) (hts _ w_106) (fun _ h9 => h9) rfl d_Or_draw_12 ?_
        refine lv_ldc2 (v := 6364136223846793005) hx hb hown ((hts _ w_279)) d_Or_draw_15 ?_
        refine lv_lmul hx hb d_Or_draw_18 ?_
        refine lv_ldc2 (v := 1442695040888963407) hx hb hown ((hts _ w_280)) d_Or_draw_19 ?_
        refine lv_ladd hx hb d_Or_draw_22 ?_
        refine zput (ci := 2) (v := .long (((τ.2 1 0) * 6364136223846793005) + 1442695040888963407)) (ty := .long) (C := "UnitThreads$Order") (T := T_Or) (N := 3) hx hb hts in_Or ty_Or tyok_Or nm_Or hown B 8 (wa_8 κ τ) rfl 2 (by decide) (hts _ w_106) (fun _ h9 => h9) rfl (by decide +kernel) rfl rfl (Nat.le_of_ble_eq_true rfl) (wp_8_2 κ τ (((τ.2 1 0) * 6364136223846793005) + 1442695040888963407)) d_Or_draw_23 (fun H locs B => ?_)
        have B : BA κ A s.heap s (zl τ 1 0 (((τ.2 1 0) * 6364136223846793005) + 1442695040888963407)) H locs := B
        refine lv_aload_n hx hb d_Or_draw_26 rfl (lv_at hl 0 rfl) ?_
        refine va_get (D := κ.1) (ci := 2) (v := .long ((zl τ 1 0 (((τ.2 1 0) * 6364136223846793005) + 1442695040888963407)).2 1 0)) (C := "UnitThreads$Order") (T := T_Or) (N := 3) hx hb hts in_Or hown B.1 B.2.1 8 (wa_8 κ (zl τ 1 0 (((τ.2 1 0) * 6364136223846793005) + 1442695040888963407))) rfl 2 (by decide) (hts _ w_106) (fun _ h9 => h9) rfl d_Or_draw_27 ?_
        refine zrwl (y := ((τ.2 1 0) * 6364136223846793005) + 1442695040888963407) (by rw [zl_eq]) ?_
        refine lv_bipush (v := 33) hx hb d_Or_draw_30 (by decide) ?_
        refine lv_lushr (v := ((((τ.2 1 0) * 6364136223846793005) + 1442695040888963407).toUInt64 >>> ((Int32.toInt64 33).toUInt64 &&& Int64.toUInt64 63)).toInt64) hx hb d_Or_draw_32 rfl ?_
        refine lv_aload_n hx hb d_Or_draw_33 rfl (lv_at hl 0 rfl) ?_
        refine va_get (D := κ.1) (ci := 2) (v := .int ((zl τ 1 0 (((τ.2 1 0) * 6364136223846793005) + 1442695040888963407)).1 14 0)) (C := "UnitThreads$Order") (T := T_Or) (N := 3) hx hb hts in_Or hown B.1 B.2.1 8 (wa_8 κ (zl τ 1 0 (((τ.2 1 0) * 6364136223846793005) + 1442695040888963407))) rfl 1 (by decide) (hts _ w_104) (fun _ h9 => h9) rfl d_Or_draw_34 ?_
        refine zrwi (y := τ.1 14 0) (by rw [zl_1]) ?_
        refine zrwi (y := nI N) (hN) ?_
        refine lv_iload_n hx hb d_Or_draw_37 rfl (lv_at hl 1 rfl) ?_
        refine lv_isub hx hb d_Or_draw_38 ?_
        refine zrwi (y := nI (N - k)) (pk_sub (by omega)) ?_
        refine lv_i2l (v := Int32.toInt64 (nI (N - k))) hx hb d_Or_draw_39 rfl ?_
        refine lv_lrem hx hb d_Or_draw_40 (zr_ne (by omega) (by omega)) ?_
        refine lv_l2i (v := Int64.toInt32 ((((((τ.2 1 0) * 6364136223846793005) + 1442695040888963407).toUInt64 >>> ((Int32.toInt64 33).toUInt64 &&& Int64.toUInt64 63)).toInt64) - (((((τ.2 1 0) * 6364136223846793005) + 1442695040888963407).toUInt64 >>> ((Int32.toInt64 33).toUInt64 &&& Int64.toUInt64 63)).toInt64) / (Int32.toInt64 (nI (N - k))) * (Int32.toInt64 (nI (N - k))))) hx hb d_Or_draw_41 rfl ?_
        refine zrwi (y := fx_pick (fx_lcg (τ.2 1 0)) (N - k)) (rfl) ?_
        refine lv_istore_n (lv' := [(2, .int (fx_pick (fx_lcg (τ.2 1 0)) (N - k))), (0, .ref (aA κ 8)), (1, .int (nI k))]) hx hb d_Or_draw_42 rfl hl (by decide) rfl (fun ls hl => ?_)
        refine lv_aload_n hx hb d_Or_draw_43 rfl (lv_at hl 1 rfl) ?_
        refine lv_iload_n hx hb d_Or_draw_44 rfl (lv_at hl 2 rfl) ?_
        refine lv_iload_n hx hb d_Or_draw_45 rfl (lv_at hl 0 rfl) ?_
        refine lv_iadd hx hb d_Or_draw_46 ?_
        refine zrwi (y := nI (k + tn (fx_pick (fx_lcg (τ.2 1 0)) (N - k)))) (zaddp (fx_pick_in _ (by omega) (by omega)).1) ?_
        refine lv_iload_n hx hb d_Or_draw_47 rfl (lv_at hl 2 rfl) ?_
        refine zcV_v (As := [.int (nI (k + tn (fx_pick (fx_lcg (τ.2 1 0)) (N - k)))), .int (nI k)]) (rest := []) ⟨hx, hb, hml, hown, hts⟩ (c_Or_moveForward l κ (zl τ 1 0 (((τ.2 1 0) * 6364136223846793005) + 1442695040888963407)) (k + tn (fx_pick (fx_lcg (τ.2 1 0)) (N - k))) k (by have h := (fx_pick_in (fx_lcg (τ.2 1 0)) (r := N - k) (by omega) (by omega)).2; omega) (Nat.le_add_right _ _) hn) (cwV 2 hts (zgoodV w_281 w_283 s_6 w_5 w_284) rfl rfl rfl (by decide +kernel) ⟨Nat.le_of_ble_eq_true rfl, Nat.le_of_ble_eq_true rfl⟩) B (zrecv B (ci := 2) rfl (wa_8 κ (zl τ 1 0 (((τ.2 1 0) * 6364136223846793005) + 1442695040888963407)))) rfl hl.1 rfl (Nat.le_of_ble_eq_true rfl) d_Or_draw_48 ⟨Nat.zero_le _, Nat.zero_le _⟩ (fun σ' H locs hp B => ?_)
        rw [hp] at B
        have B : BA κ A s.heap s (fx_move (zl τ 1 0 (((τ.2 1 0) * 6364136223846793005) + 1442695040888963407)) (k + tn (fx_pick (fx_lcg (τ.2 1 0)) (N - k))) k) H locs := B
        refine lv_iinc (v := nI (k + 1)) (lv' := [(1, .int (nI (k + 1))), (2, .int (fx_pick (fx_lcg (τ.2 1 0)) (N - k))), (0, .ref (aA κ 8))]) hx hb d_Or_draw_51 hl (k := 2) rfl (zinc _) (by decide) rfl (fun ls hl => ?_)
        refine lv_goto (tgt := 2) hx hb d_Or_draw_54 (by decide) ?_
        exact ih (k + 1) (fx_move (zl τ 1 0 (((τ.2 1 0) * 6364136223846793005) + 1442695040888963407)) (k + tn (fx_pick (fx_lcg (τ.2 1 0)) (N - k))) k) (by omega) hst ((congrFun (fx_move_k1 (by decide) _ _ _) 0).trans hN) _ _ B ls (lv_sub hl [2, 0] rfl)
  refine lv_iconst (v := nI 0) hx hb d_Or_draw_0 (by decide) ?_
  refine lv_istore_n (lv' := [(1, .int (nI 0)), (0, .ref (aA κ 8))]) hx hb d_Or_draw_1 rfl hl (by decide) rfl (fun ls hl => ?_)
  exact L_2 N 0 σ (by omega) rfl hN _ _ B ls (lv_sub hl [1, 0] rfl)
set_option maxHeartbeats 4000000 in
set_option maxRecDepth 100000 in
theorem c_Or_gather (l : Launch) (κ : KA) (σ : zS) (hn : nA κ ≤ 8) : zMv l y_Or_gather (zws y_Or_gather prog_4_method_2_code 3 none) ({ frames := 2, cells := 0, slots := 0, locals := 40 }) κ.1 vwCl (tysA κ) nwA (wA κ) σ [.ref (aA κ 8), .ref (aA κ 1)] (fun σ' => σ' = fx_gather (nA κ) σ) := by
  refine zintro (cc := prog_4_method_2_code) (maxL := 3) (ret := none) (by decide) rfl (Nat.le_of_ble_eq_true rfl) ?_
  intro p e s m below meth c ls hx hb hr hml hts hown hlocks hl B
  have hl : lv_has ls 3 [(0, .ref (aA κ 8)), (1, .ref (aA κ 1))] := hl
  have B : BA κ (va_A (wA κ σ) s.heap.size) s.heap s σ s.heap [] := B
  have hr : meth.sig.returnType = none := hr
  have hown : s.vm.findClass "UnitThreads$Order" = some m.cls := hown
  show W p l e (headSpec (zws y_Or_gather prog_4_method_2_code 3 none) ({ frames := 2, cells := 0, slots := 0, locals := 40 })).room s m [.ref (aA κ 8), .ref (aA κ 1)].toArray below meth c s.heap [] 0 0 (MQ below (va_Qv (fun σ' => σ' = fx_gather (nA κ) σ) (zQ κ.1 vwCl (tysA κ) (wA κ) (va_A (wA κ σ) s.heap.size)) (va_A (wA κ σ) s.heap.size)) [.ref (aA κ 8), .ref (aA κ 1)].toArray s 0 0 (va_A (wA κ σ) s.heap.size)) (F0 m 0 ls [])
  generalize va_A (wA κ σ) s.heap.size = A at B ⊢
  have hts : ∀ w ∈ zW, w.before [.ref (aA κ 8), .ref (aA κ 1)].toArray s = true := fun w h => hts w (List.mem_cons_of_mem _ h)
  have L_7 : ∀ (j : Nat) (k : Nat) (o : Nat) (τ : zS), k + j = nA κ ∧ o ≤ k → (fx_gather (nA κ) σ = zit fx_gather1 j k τ) → (τ.1 14 0 = nI o) → ∀ (H : Heap) (locs : List Loc), BA κ A s.heap s τ H locs → ∀ (ls : Array Slot), lv_has ls 3 [(0, .ref (aA κ 8)), (1, .ref (aA κ 1)), (2, .int (nI k))] → W p l e (headSpec (zws y_Or_gather prog_4_method_2_code 3 none) ({ frames := 2, cells := 0, slots := 0, locals := 40 })).room s m [.ref (aA κ 8), .ref (aA κ 1)].toArray below meth c H locs 0 0 (MQ below (va_Qv (fun σ' => σ' = fx_gather (nA κ) σ) (zQ κ.1 vwCl (tysA κ) (wA κ) A) A) [.ref (aA κ 8), .ref (aA κ 1)].toArray s 0 0 A) (F0 m 7 ls []) := by
    intro j
    induction j with
    | zero =>
      intro k o τ hj hst ho H locs B ls hl
      refine lv_iload_n hx hb d_Or_gather_7 rfl (lv_at hl 2 rfl) ?_
      refine lv_aload_n hx hb d_Or_gather_8 rfl (lv_at hl 1 rfl) ?_
      refine zalen hx hb B 1 2 (wa_1 κ τ) rfl d_Or_gather_9 ?_
      refine lv_icmp_ge (tgt := 60) hx hb d_Or_gather_10 (by decide) (fun c_1 => ?_) (fun c_1 => ?_)
      · have c_1 := (nI_leI (a := nA κ) (b := k) (by omega) (by omega)).mp c_1
        exact zret_v hx hb hr hlocks B (hst.symm) d_Or_gather_60
      · have c_1 := (not_congr (nI_leI (a := nA κ) (b := k) (by omega) (by omega))).mp c_1
        exact absurd c_1 (by omega)
    | succ j ih =>
      intro k o τ hj hst ho H locs B ls hl
      refine lv_iload_n hx hb d_Or_gather_7 rfl (lv_at hl 2 rfl) ?_
      refine lv_aload_n hx hb d_Or_gather_8 rfl (lv_at hl 1 rfl) ?_
      refine zalen hx hb B 1 2 (wa_1 κ τ) rfl d_Or_gather_9 ?_
      refine lv_icmp_ge (tgt := 60) hx hb d_Or_gather_10 (by decide) (fun c_2 => ?_) (fun c_2 => ?_)
      · have c_2 := (nI_leI (a := nA κ) (b := k) (by omega) (by omega)).mp c_2
        exact absurd c_2 (by omega)
      · have c_2 := (not_congr (nI_leI (a := nA κ) (b := k) (by omega) (by omega))).mp c_2
        refine lv_aload_n hx hb d_Or_gather_13 rfl (lv_at hl 0 rfl) ?_
        refine va_get (D := κ.1) (ci := 2) (v := .int (τ.1 14 0)) (C := "UnitThreads$Order") (T := T_Or) (N := 3) hx hb hts in_Or hown B.1 B.2.1 8 (wa_8 κ τ) rfl 1 (by decide) (hts _ w_104) (fun _ h9 => h9) rfl d_Or_gather_14 ?_
        refine zrwi (y := nI o) (ho) ?_
        refine lv_aload_n hx hb d_Or_gather_17 rfl (lv_at hl 0 rfl) ?_
        refine va_get (D := κ.1) (ci := 2) (v := .ref (aA κ 9)) (C := "UnitThreads$Order") (T := T_Or) (N := 3) hx hb hts in_Or hown B.1 B.2.1 8 (wa_8 κ τ) rfl 0 (by decide) (hts _ w_102) (fun _ h9 => h9) rfl d_Or_gather_18 ?_
        refine zalen hx hb B 9 0 (wa_9 κ τ) rfl d_Or_gather_21 ?_
        refine lv_icmp_ge (tgt := 60) hx hb d_Or_gather_22 (by decide) (fun c_3 => ?_) (fun c_3 => ?_)
        · have c_3 := (nI_leI (a := nA κ) (b := o) (by omega) (by omega)).mp c_3
          exact absurd c_3 (by omega)
        · have c_3 := (not_congr (nI_leI (a := nA κ) (b := o) (by omega) (by omega))).mp c_3
          refine lv_aload_n hx hb d_Or_gather_25 rfl (lv_at hl 1 rfl) ?_
          refine lv_iload_n hx hb d_Or_gather_26 rfl (lv_at hl 2 rfl) ?_
          have hu_4 : k < nA κ := (by omega)
          refine zaald hx hb B 1 2 (wa_1 κ τ) rfl k rfl hu_4 (by omega) rfl d_Or_gather_27 ?_
          refine zcV_i (As := []) (rest := []) ⟨hx, hb, hml, hown, hts⟩ (c_Un_acts l κ τ k hu_4 ) (cwV 0 hts (zgoodV w_270 w_271 w_272 w_3 w_273) rfl rfl rfl (by decide +kernel) ⟨Nat.le_of_ble_eq_true rfl, Nat.le_of_ble_eq_true rfl⟩) B (zrecv B (ci := 0) rfl (wa_u κ τ hu_4)) rfl hl.1 rfl (Nat.le_of_ble_eq_true rfl) d_Or_gather_28 ⟨Nat.zero_le _, Nat.zero_le _⟩ (fun r σ' H locs hp B => ?_)
          obtain ⟨rfl, hp⟩ := hp
          rw [hp] at B
          have B : BA κ A s.heap s τ H locs := B
          refine lv_if_eq (tgt := 54) hx hb d_Or_gather_31 (by decide) (fun c_5 => ?_) (fun c_5 => ?_)
          · have c_5 := zb_eq0.mp c_5
            refine lv_iinc (v := nI (k + 1)) (lv' := [(2, .int (nI (k + 1))), (0, .ref (aA κ 8)), (1, .ref (aA κ 1))]) hx hb d_Or_gather_54 hl (k := 2) rfl (zinc _) (by decide) rfl (fun ls hl => ?_)
            refine lv_goto (tgt := 7) hx hb d_Or_gather_57 (by decide) ?_
            exact ih (k + 1) o τ (by omega) (by rw [hst]; simp [zit, fx_gather1, ho, tn_nI (show o < 2 ^ 31 by omega), nI_1, c_2, c_3, c_5]) ho _ _ B ls (lv_sub hl [1, 2, 0] rfl)
          · have c_5 := zb_ne0.mp c_5
            refine lv_aload_n hx hb d_Or_gather_34 rfl (lv_at hl 0 rfl) ?_
            refine va_get (D := κ.1) (ci := 2) (v := .ref (aA κ 9)) (C := "UnitThreads$Order") (T := T_Or) (N := 3) hx hb hts in_Or hown B.1 B.2.1 8 (wa_8 κ τ) rfl 0 (by decide) (hts _ w_102) (fun _ h9 => h9) rfl d_Or_gather_35 ?_
            refine lv_aload_n hx hb d_Or_gather_38 rfl (lv_at hl 0 rfl) ?_
            refine va_get (D := κ.1) (ci := 2) (v := .int (τ.1 14 0)) (C := "UnitThreads$Order") (T := T_Or) (N := 3) hx hb hts in_Or hown B.1 B.2.1 8 (wa_8 κ τ) rfl 1 (by decide) (hts _ w_104) (fun _ h9 => h9) rfl d_Or_gather_39 ?_
            refine zrwi (y := nI o) (ho) ?_
            refine lv_iload_n hx hb d_Or_gather_42 rfl (lv_at hl 2 rfl) ?_
            refine ziast hx hb B 9 0 (wa_9 κ τ) rfl o rfl (by omega) (by omega) (ws_9 κ τ o (nI k)) d_Or_gather_43 (fun H locs B => ?_)
            have B : BA κ A s.heap s (zi τ 13 o (nI k)) H locs := B
            refine lv_aload_n hx hb d_Or_gather_44 rfl (lv_at hl 0 rfl) ?_
            refine lv_dup hx hb d_Or_gather_45 rfl ?_
            refine va_get (D := κ.1) (ci := 2) (v := .int ((zi τ 13 o (nI k)).1 14 0)) (C := "UnitThreads$Order") (T := T_Or) (N := 3) hx hb hts in_Or hown B.1 B.2.1 8 (wa_8 κ (zi τ 13 o (nI k))) rfl 1 (by decide) (hts _ w_104) (fun _ h9 => h9) rfl d_Or_gather_46 ?_
            refine zrwi (y := τ.1 14 0) (by rw [zi_nf _ _ (by decide : 14 ≠ 13)]) ?_
            refine zrwi (y := nI o) (ho) ?_
            refine lv_iconst (v := 1) hx hb d_Or_gather_49 (by decide) ?_
            refine lv_iadd hx hb d_Or_gather_50 ?_
            refine zrwi (y := nI (o + 1)) (nI_1 _) ?_
            refine zput (ci := 2) (v := .int (nI (o + 1))) (ty := .int) (C := "UnitThreads$Order") (T := T_Or) (N := 3) hx hb hts in_Or ty_Or tyok_Or nm_Or hown B 8 (wa_8 κ (zi τ 13 o (nI k))) rfl 1 (by decide) (hts _ w_104) (fun _ h9 => h9) rfl (by decide +kernel) rfl rfl (Nat.le_of_ble_eq_true rfl) (wp_8_1 κ (zi τ 13 o (nI k)) (nI (o + 1))) d_Or_gather_51 (fun H locs B => ?_)
            have B : BA κ A s.heap s (zi (zi τ 13 o (nI k)) 14 0 (nI (o + 1))) H locs := B
            refine lv_iinc (v := nI (k + 1)) (lv' := [(2, .int (nI (k + 1))), (0, .ref (aA κ 8)), (1, .ref (aA κ 1))]) hx hb d_Or_gather_54 hl (k := 2) rfl (zinc _) (by decide) rfl (fun ls hl => ?_)
            refine lv_goto (tgt := 7) hx hb d_Or_gather_57 (by decide) ?_
            exact ih (k + 1) (o + 1) (zi (zi τ 13 o (nI k)) 14 0 (nI (o + 1))) (by omega) (by rw [hst]; simp [zit, fx_gather1, ho, tn_nI (show o < 2 ^ 31 by omega), nI_1, c_2, c_3, c_5]) (zi_eq _ _ _ _) _ _ B ls (lv_sub hl [1, 2, 0] rfl)
  refine lv_aload_n hx hb d_Or_gather_0 rfl (lv_at hl 0 rfl) ?_
  refine lv_iconst (v := 0) hx hb d_Or_gather_1 (by decide) ?_
  refine zput (ci := 2) (v := .int (0)) (ty := .int) (C := "UnitThreads$Order") (T := T_Or) (N := 3) hx hb hts in_Or ty_Or tyok_Or nm_Or hown B 8 (wa_8 κ σ) rfl 1 (by decide) (hts _ w_104) (fun _ h9 => h9) rfl (by decide +kernel) rfl rfl (Nat.le_of_ble_eq_true rfl) (wp_8_1 κ σ 0) d_Or_gather_2 (fun H locs B => ?_)
  have B : BA κ A s.heap s (zi σ 14 0 0) H locs := B
  refine lv_iconst (v := nI 0) hx hb d_Or_gather_5 (by decide) ?_
  refine lv_istore_n (lv' := [(2, .int (nI 0)), (0, .ref (aA κ 8)), (1, .ref (aA κ 1))]) hx hb d_Or_gather_6 rfl hl (by decide) rfl (fun ls hl => ?_)
  exact L_7 (nA κ) 0 0 (zi σ 14 0 0) (by omega) rfl rfl _ _ B ls (lv_sub hl [1, 2, 0] rfl)
