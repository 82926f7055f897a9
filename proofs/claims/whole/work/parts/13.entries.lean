set_option maxHeartbeats 4000000 in
set_option maxRecDepth 100000 in
theorem c_En_add (l : Launch) (κ : KA) (σ : zS) (p1 p2 p3 p4 : Int32) (v : Int64) (E : Nat) (hE : σ.1 12 0 = nI E) (hlt : E < 300) : zMv l y_En_add (zws y_En_add prog_3_method_2_code 7 none) ({ frames := 0, cells := 0, slots := 0, locals := 0 }) κ.1 vwCl (tysA κ) nwA (wA κ) σ [.ref (aA κ 2), .int (p1), .int (p2), .int (p3), .int (p4), .long (v)] (fun σ' => σ' = fx_add σ E p1 p2 p3 p4 v) := by
  refine zintro (cc := prog_3_method_2_code) (maxL := 7) (ret := none) (by decide) rfl (Nat.le_of_ble_eq_true rfl) ?_
  intro p e s m below meth c ls hx hb hr hml hts hown hlocks hl B
  have hl : lv_has ls 7 [(0, .ref (aA κ 2)), (1, .int (p1)), (2, .int (p2)), (3, .int (p3)), (4, .int (p4)), (5, .long (v))] := hl
  have B : BA κ (va_A (wA κ σ) s.heap.size) s.heap s σ s.heap [] := B
  have hr : meth.sig.returnType = none := hr
  have hown : s.vm.findClass "UnitThreads$Entries" = some m.cls := hown
  show W p l e (headSpec (zws y_En_add prog_3_method_2_code 7 none) ({ frames := 0, cells := 0, slots := 0, locals := 0 })).room s m [.ref (aA κ 2), .int (p1), .int (p2), .int (p3), .int (p4), .long (v)].toArray below meth c s.heap [] 0 0 (MQ below (va_Qv (fun σ' => σ' = fx_add σ E p1 p2 p3 p4 v) (zQ κ.1 vwCl (tysA κ) (wA κ) (va_A (wA κ σ) s.heap.size)) (va_A (wA κ σ) s.heap.size)) [.ref (aA κ 2), .int (p1), .int (p2), .int (p3), .int (p4), .long (v)].toArray s 0 0 (va_A (wA κ σ) s.heap.size)) (F0 m 0 ls [])
  generalize va_A (wA κ σ) s.heap.size = A at B ⊢
  have hts : ∀ w ∈ zW, w.before [.ref (aA κ 2), .int (p1), .int (p2), .int (p3), .int (p4), .long (v)].toArray s = true := fun w h => hts w (List.mem_cons_of_mem _ h)
  refine lv_aload_n hx hb d_En_add_0 rfl (lv_at hl 0 rfl) ?_
  refine va_get (D := κ.1) (ci := 1) (v := .int (σ.1 12 0)) (C := "UnitThreads$Entries") (T := T_En) (N := 6) hx hb hts in_En hown B.1 B.2.1 2 (wa_2 κ σ) rfl 5 (by decide) (hts _ w_79) (fun _ h9 => h9) rfl d_En_add_1 ?_
  refine zrwi (y := nI E) (hE) ?_
  refine lv_sipush (v := nI 300) hx hb d_En_add_4 (by decide) ?_
  refine lv_icmp_lt (tgt := 11) hx hb d_En_add_7 (by decide) (fun c_1 => ?_) (fun c_1 => ?_)
  · have c_1 := (nI_ltI (a := E) (b := 300) (by omega) (by omega)).mp c_1
    refine lv_aload_n hx hb d_En_add_11 rfl (lv_at hl 0 rfl) ?_
    refine va_get (D := κ.1) (ci := 1) (v := .ref (aA κ 3)) (C := "UnitThreads$Entries") (T := T_En) (N := 6) hx hb hts in_En hown B.1 B.2.1 2 (wa_2 κ σ) rfl 0 (by decide) (hts _ w_74) (fun _ h9 => h9) rfl d_En_add_12 ?_
    refine lv_aload_n hx hb d_En_add_15 rfl (lv_at hl 0 rfl) ?_
    refine va_get (D := κ.1) (ci := 1) (v := .int (σ.1 12 0)) (C := "UnitThreads$Entries") (T := T_En) (N := 6) hx hb hts in_En hown B.1 B.2.1 2 (wa_2 κ σ) rfl 5 (by decide) (hts _ w_79) (fun _ h9 => h9) rfl d_En_add_16 ?_
    refine zrwi (y := nI E) (hE) ?_
    refine lv_iload_n hx hb d_En_add_19 rfl (lv_at hl 1 rfl) ?_
    refine ziast hx hb B 3 0 (wa_3 κ σ) rfl E rfl (by omega) (by decide) (ws_3 κ σ E p1) d_En_add_20 (fun H locs B => ?_)
    have B : BA κ A s.heap s (zi σ 8 E p1) H locs := B
    refine lv_aload_n hx hb d_En_add_21 rfl (lv_at hl 0 rfl) ?_
    refine va_get (D := κ.1) (ci := 1) (v := .ref (aA κ 4)) (C := "UnitThreads$Entries") (T := T_En) (N := 6) hx hb hts in_En hown B.1 B.2.1 2 (wa_2 κ (zi σ 8 E p1)) rfl 1 (by decide) (hts _ w_75) (fun _ h9 => h9) rfl d_En_add_22 ?_
    refine lv_aload_n hx hb d_En_add_25 rfl (lv_at hl 0 rfl) ?_
    refine va_get (D := κ.1) (ci := 1) (v := .int ((zi σ 8 E p1).1 12 0)) (C := "UnitThreads$Entries") (T := T_En) (N := 6) hx hb hts in_En hown B.1 B.2.1 2 (wa_2 κ (zi σ 8 E p1)) rfl 5 (by decide) (hts _ w_79) (fun _ h9 => h9) rfl d_En_add_26 ?_
    refine zrwi (y := σ.1 12 0) (by rw [zi_nf _ _ (by decide : 12 ≠ 8)]) ?_
    refine zrwi (y := nI E) (hE) ?_
    refine lv_iload_n hx hb d_En_add_29 rfl (lv_at hl 2 rfl) ?_
    refine ziast hx hb B 4 0 (wa_4 κ (zi σ 8 E p1)) rfl E rfl (by omega) (by decide) (ws_4 κ (zi σ 8 E p1) E p2) d_En_add_30 (fun H locs B => ?_)
    have B : BA κ A s.heap s (zi (zi σ 8 E p1) 9 E p2) H locs := B
    refine lv_aload_n hx hb d_En_add_31 rfl (lv_at hl 0 rfl) ?_
    refine va_get (D := κ.1) (ci := 1) (v := .ref (aA κ 5)) (C := "UnitThreads$Entries") (T := T_En) (N := 6) hx hb hts in_En hown B.1 B.2.1 2 (wa_2 κ (zi (zi σ 8 E p1) 9 E p2)) rfl 2 (by decide) (hts _ w_76) (fun _ h9 => h9) rfl d_En_add_32 ?_
    refine lv_aload_n hx hb d_En_add_35 rfl (lv_at hl 0 rfl) ?_
    refine va_get (D := κ.1) (ci := 1) (v := .int ((zi (zi σ 8 E p1) 9 E p2).1 12 0)) (C := "UnitThreads$Entries") (T := T_En) (N := 6) hx hb hts in_En hown B.1 B.2.1 2 (wa_2 κ (zi (zi σ 8 E p1) 9 E p2)) rfl 5 (by decide) (hts _ w_79) (fun _ h9 => h9) rfl d_En_add_36 ?_
    refine zrwi (y := σ.1 12 0) (by rw [zi_nf _ _ (by decide : 12 ≠ 9), zi_nf _ _ (by decide : 12 ≠ 8)]) ?_
    refine zrwi (y := nI E) (hE) ?_
    refine lv_iload_n hx hb d_En_add_39 rfl (lv_at hl 3 rfl) ?_
    refine ziast hx hb B 5 0 (wa_5 κ (zi (zi σ 8 E p1) 9 E p2)) rfl E rfl (by omega) (by decide) (ws_5 κ (zi (zi σ 8 E p1) 9 E p2) E p3) d_En_add_40 (fun H locs B => ?_)
    have B : BA κ A s.heap s (zi (zi (zi σ 8 E p1) 9 E p2) 10 E p3) H locs := B
    refine lv_aload_n hx hb d_En_add_41 rfl (lv_at hl 0 rfl) ?_
    refine va_get (D := κ.1) (ci := 1) (v := .ref (aA κ 6)) (C := "UnitThreads$Entries") (T := T_En) (N := 6) hx hb hts in_En hown B.1 B.2.1 2 (wa_2 κ (zi (zi (zi σ 8 E p1) 9 E p2) 10 E p3)) rfl 3 (by decide) (hts _ w_77) (fun _ h9 => h9) rfl d_En_add_42 ?_
    refine lv_aload_n hx hb d_En_add_45 rfl (lv_at hl 0 rfl) ?_
    refine va_get (D := κ.1) (ci := 1) (v := .int ((zi (zi (zi σ 8 E p1) 9 E p2) 10 E p3).1 12 0)) (C := "UnitThreads$Entries") (T := T_En) (N := 6) hx hb hts in_En hown B.1 B.2.1 2 (wa_2 κ (zi (zi (zi σ 8 E p1) 9 E p2) 10 E p3)) rfl 5 (by decide) (hts _ w_79) (fun _ h9 => h9) rfl d_En_add_46 ?_
    refine zrwi (y := σ.1 12 0) (by rw [zi_nf _ _ (by decide : 12 ≠ 10), zi_nf _ _ (by decide : 12 ≠ 9), zi_nf _ _ (by decide : 12 ≠ 8)]) ?_
    refine zrwi (y := nI E) (hE) ?_
    refine lv_iload hx hb d_En_add_49 (lv_at hl 4 rfl) ?_
    refine ziast hx hb B 6 0 (wa_6 κ (zi (zi (zi σ 8 E p1) 9 E p2) 10 E p3)) rfl E rfl (by omega) (by decide) (ws_6 κ (zi (zi (zi σ 8 E p1) 9 E p2) 10 E p3) E p4) d_En_add_51 (fun H locs B => ?_)
    have B : BA κ A s.heap s (zi (zi (zi (zi σ 8 E p1) 9 E p2) 10 E p3) 11 E p4) H locs := B
    refine lv_aload_n hx hb d_En_add_52 rfl (lv_at hl 0 rfl) ?_
    refine va_get (D := κ.1) (ci := 1) (v := .ref (aA κ 7)) (C := "UnitThreads$Entries") (T := T_En) (N := 6) hx hb hts in_En hown B.1 B.2.1 2 (wa_2 κ (zi (zi (zi (zi σ 8 E p1) 9 E p2) 10 E p3) 11 E p4)) rfl 4 (by decide) (hts _ w_78) (fun _ h9 => h9) rfl d_En_add_53 ?_
    refine lv_aload_n hx hb d_En_add_56 rfl (lv_at hl 0 rfl) ?_
    refine va_get (D := κ.1) (ci := 1) (v := .int ((zi (zi (zi (zi σ 8 E p1) 9 E p2) 10 E p3) 11 E p4).1 12 0)) (C := "UnitThreads$Entries") (T := T_En) (N := 6) hx hb hts in_En hown B.1 B.2.1 2 (wa_2 κ (zi (zi (zi (zi σ 8 E p1) 9 E p2) 10 E p3) 11 E p4)) rfl 5 (by decide) (hts _ w_79) (fun _ h9 => h9) rfl d_En_add_57 ?_
    refine zrwi (y := σ.1 12 0) (by rw [zi_nf _ _ (by decide : 12 ≠ 11), zi_nf _ _ (by decide : 12 ≠ 10), zi_nf _ _ (by decide : 12 ≠ 9), zi_nf _ _ (by decide : 12 ≠ 8)]) ?_
    refine zrwi (y := nI E) (hE) ?_
    refine lv_lload hx hb d_En_add_60 (lv_at hl 5 rfl) ?_
    refine zlast hx hb B 7 1 (wa_7 κ (zi (zi (zi (zi σ 8 E p1) 9 E p2) 10 E p3) 11 E p4)) rfl E rfl (by omega) (by decide) (ws_7 κ (zi (zi (zi (zi σ 8 E p1) 9 E p2) 10 E p3) 11 E p4) E v) d_En_add_62 (fun H locs B => ?_)
    have B : BA κ A s.heap s (zl (zi (zi (zi (zi σ 8 E p1) 9 E p2) 10 E p3) 11 E p4) 0 E v) H locs := B
    refine lv_aload_n hx hb d_En_add_63 rfl (lv_at hl 0 rfl) ?_
    refine lv_dup hx hb d_En_add_64 rfl ?_
    refine va_get (D := κ.1) (ci := 1) (v := .int ((zl (zi (zi (zi (zi σ 8 E p1) 9 E p2) 10 E p3) 11 E p4) 0 E v).1 12 0)) (C := "UnitThreads$Entries") (T := T_En) (N := 6) hx hb hts in_En hown B.1 B.2.1 2 (wa_2 κ (zl (zi (zi (zi (zi σ 8 E p1) 9 E p2) 10 E p3) 11 E p4) 0 E v)) rfl 5 (by decide) (hts _ w_79) (fun _ h9 => h9) rfl d_En_add_65 ?_
    refine zrwi (y := σ.1 12 0) (by rw [zl_1, zi_nf _ _ (by decide : 12 ≠ 11), zi_nf _ _ (by decide : 12 ≠ 10), zi_nf _ _ (by decide : 12 ≠ 9), zi_nf _ _ (by decide : 12 ≠ 8)]) ?_
    refine zrwi (y := nI E) (hE) ?_
    refine lv_iconst (v := 1) hx hb d_En_add_68 (by decide) ?_
    refine lv_iadd hx hb d_En_add_69 ?_
    refine zrwi (y := nI (E + 1)) (nI_1 _) ?_
    refine zput (ci := 1) (v := .int (nI (E + 1))) (ty := .int) (C := "UnitThreads$Entries") (T := T_En) (N := 6) hx hb hts in_En ty_En tyok_En nm_En hown B 2 (wa_2 κ (zl (zi (zi (zi (zi σ 8 E p1) 9 E p2) 10 E p3) 11 E p4) 0 E v)) rfl 5 (by decide) (hts _ w_79) (fun _ h9 => h9) rfl (by decide +kernel) rfl rfl (Nat.le_of_ble_eq_true rfl) (wp_2_5 κ (zl (zi (zi (zi (zi σ 8 E p1) 9 E p2) 10 E p3) 11 E p4) 0 E v) (nI (E + 1))) d_En_add_70 (fun H locs B => ?_)
    have B : BA κ A s.heap s (zi (zl (zi (zi (zi (zi σ 8 E p1) 9 E p2) 10 E p3) 11 E p4) 0 E v) 12 0 (nI (E + 1))) H locs := B
    exact zret_v hx hb hr hlocks B (rfl) d_En_add_73
  · have c_1 := (not_congr (nI_ltI (a := E) (b := 300) (by omega) (by omega))).mp c_1
    exact absurd c_1 (by omega)
set_option maxHeartbeats 4000000 in
set_option maxRecDepth 100000 in
theorem c_En_find (l : Launch) (κ : KA) (σ : zS) (p1 p2 p3 p4 : Int32) (E : Nat) (hE : σ.1 12 0 = nI E) (hE3 : E ≤ 300) : zMi l y_En_find (zws y_En_find prog_3_method_3_code 6 (some .int)) ({ frames := 0, cells := 0, slots := 0, locals := 0 }) κ.1 vwCl (tysA κ) nwA (wA κ) σ [.ref (aA κ 2), .int (p1), .int (p2), .int (p3), .int (p4)] (fun r σ' => r = fx_find σ p1 p2 p3 p4 E 0 ∧ σ' = σ) := by
  refine zintro (cc := prog_3_method_3_code) (maxL := 6) (ret := (some .int)) (by decide) rfl (Nat.le_of_ble_eq_true rfl) ?_
  intro p e s m below meth c ls hx hb hr hml hts hown hlocks hl B
  have hl : lv_has ls 6 [(0, .ref (aA κ 2)), (1, .int (p1)), (2, .int (p2)), (3, .int (p3)), (4, .int (p4))] := hl
  have B : BA κ (va_A (wA κ σ) s.heap.size) s.heap s σ s.heap [] := B
  have hr : meth.sig.returnType = (some .int) := hr
  have hown : s.vm.findClass "UnitThreads$Entries" = some m.cls := hown
  show W p l e (headSpec (zws y_En_find prog_3_method_3_code 6 (some .int)) ({ frames := 0, cells := 0, slots := 0, locals := 0 })).room s m [.ref (aA κ 2), .int (p1), .int (p2), .int (p3), .int (p4)].toArray below meth c s.heap [] 0 0 (MQ below (va_Qi (fun r σ' => r = fx_find σ p1 p2 p3 p4 E 0 ∧ σ' = σ) (zQ κ.1 vwCl (tysA κ) (wA κ) (va_A (wA κ σ) s.heap.size)) (va_A (wA κ σ) s.heap.size)) [.ref (aA κ 2), .int (p1), .int (p2), .int (p3), .int (p4)].toArray s 0 0 (va_A (wA κ σ) s.heap.size)) (F0 m 0 ls [])
  generalize va_A (wA κ σ) s.heap.size = A at B ⊢
  have hts : ∀ w ∈ zW, w.before [.ref (aA κ 2), .int (p1), .int (p2), .int (p3), .int (p4)].toArray s = true := fun w h => hts w (List.mem_cons_of_mem _ h)
  have L_3 : ∀ (j : Nat) (k : Nat), k + j = E → (fx_find σ p1 p2 p3 p4 E 0 = fx_find σ p1 p2 p3 p4 j k) → ∀ (H : Heap) (locs : List Loc), BA κ A s.heap s σ H locs → ∀ (ls : Array Slot), lv_has ls 6 [(0, .ref (aA κ 2)), (1, .int (p1)), (2, .int (p2)), (3, .int (p3)), (4, .int (p4)), (5, .int (nI k))] → W p l e (headSpec (zws y_En_find prog_3_method_3_code 6 (some .int)) ({ frames := 0, cells := 0, slots := 0, locals := 0 })).room s m [.ref (aA κ 2), .int (p1), .int (p2), .int (p3), .int (p4)].toArray below meth c H locs 0 0 (MQ below (va_Qi (fun r σ' => r = fx_find σ p1 p2 p3 p4 E 0 ∧ σ' = σ) (zQ κ.1 vwCl (tysA κ) (wA κ) A) A) [.ref (aA κ 2), .int (p1), .int (p2), .int (p3), .int (p4)].toArray s 0 0 A) (F0 m 3 ls []) := by
    intro j
    induction j with
    | zero =>
      intro k hj hst H locs B ls hl
      refine lv_iload hx hb d_En_find_3 (lv_at hl 5 rfl) ?_
      refine lv_aload_n hx hb d_En_find_5 rfl (lv_at hl 0 rfl) ?_
      refine va_get (D := κ.1) (ci := 1) (v := .int (σ.1 12 0)) (C := "UnitThreads$Entries") (T := T_En) (N := 6) hx hb hts in_En hown B.1 B.2.1 2 (wa_2 κ σ) rfl 5 (by decide) (hts _ w_79) (fun _ h9 => h9) rfl d_En_find_6 ?_
      refine zrwi (y := nI E) (hE) ?_
      refine lv_icmp_ge (tgt := 66) hx hb d_En_find_9 (by decide) (fun c_1 => ?_) (fun c_1 => ?_)
      · have c_1 := (nI_leI (a := E) (b := k) (by omega) (by omega)).mp c_1
        refine lv_iconst (v := (-1)) hx hb d_En_find_66 (by decide) ?_
        exact zret_i hx hb hr hlocks B (⟨by rw [hst]; simp [fx_find, c_1], rfl⟩) d_En_find_67
      · have c_1 := (not_congr (nI_leI (a := E) (b := k) (by omega) (by omega))).mp c_1
        exact absurd c_1 (by omega)
    | succ j ih =>
      intro k hj hst H locs B ls hl
      refine lv_iload hx hb d_En_find_3 (lv_at hl 5 rfl) ?_
      refine lv_aload_n hx hb d_En_find_5 rfl (lv_at hl 0 rfl) ?_
      refine va_get (D := κ.1) (ci := 1) (v := .int (σ.1 12 0)) (C := "UnitThreads$Entries") (T := T_En) (N := 6) hx hb hts in_En hown B.1 B.2.1 2 (wa_2 κ σ) rfl 5 (by decide) (hts _ w_79) (fun _ h9 => h9) rfl d_En_find_6 ?_
      refine zrwi (y := nI E) (hE) ?_
      refine lv_icmp_ge (tgt := 66) hx hb d_En_find_9 (by decide) (fun c_2 => ?_) (fun c_2 => ?_)
      · have c_2 := (nI_leI (a := E) (b := k) (by omega) (by omega)).mp c_2
        exact absurd c_2 (by omega)
      · have c_2 := (not_congr (nI_leI (a := E) (b := k) (by omega) (by omega))).mp c_2
        refine lv_aload_n hx hb d_En_find_12 rfl (lv_at hl 0 rfl) ?_
        refine va_get (D := κ.1) (ci := 1) (v := .ref (aA κ 3)) (C := "UnitThreads$Entries") (T := T_En) (N := 6) hx hb hts in_En hown B.1 B.2.1 2 (wa_2 κ σ) rfl 0 (by decide) (hts _ w_74) (fun _ h9 => h9) rfl d_En_find_13 ?_
        refine lv_iload hx hb d_En_find_16 (lv_at hl 5 rfl) ?_
        refine ziald hx hb B 3 0 (wa_3 κ σ) rfl k rfl (by omega) (by decide) d_En_find_18 ?_
        refine lv_iload_n hx hb d_En_find_19 rfl (lv_at hl 1 rfl) ?_
        refine lv_icmp_ne (tgt := 60) hx hb d_En_find_20 (by decide) (fun c_3 => ?_) (fun c_3 => ?_)
        · refine lv_iinc (v := nI (k + 1)) (lv' := [(5, .int (nI (k + 1))), (0, .ref (aA κ 2)), (1, .int (p1)), (2, .int (p2)), (3, .int (p3)), (4, .int (p4))]) hx hb d_En_find_60 hl (k := 5) rfl (zinc _) (by decide) rfl (fun ls hl => ?_)
          refine lv_goto (tgt := 3) hx hb d_En_find_63 (by decide) ?_
          exact ih (k + 1) (by omega) (by rw [hst]; simp [fx_find, c_2, c_3]) _ _ B ls (lv_sub hl [1, 2, 3, 4, 5, 0] rfl)
        · refine lv_aload_n hx hb d_En_find_23 rfl (lv_at hl 0 rfl) ?_
          refine va_get (D := κ.1) (ci := 1) (v := .ref (aA κ 4)) (C := "UnitThreads$Entries") (T := T_En) (N := 6) hx hb hts in_En hown B.1 B.2.1 2 (wa_2 κ σ) rfl 1 (by decide) (hts _ w_75) (fun _ h9 => h9) rfl d_En_find_24 ?_
          refine lv_iload hx hb d_En_find_27 (lv_at hl 5 rfl) ?_
          refine ziald hx hb B 4 0 (wa_4 κ σ) rfl k rfl (by omega) (by decide) d_En_find_29 ?_
          refine lv_iload_n hx hb d_En_find_30 rfl (lv_at hl 2 rfl) ?_
          refine lv_icmp_ne (tgt := 60) hx hb d_En_find_31 (by decide) (fun c_4 => ?_) (fun c_4 => ?_)
          · refine lv_iinc (v := nI (k + 1)) (lv' := [(5, .int (nI (k + 1))), (0, .ref (aA κ 2)), (1, .int (p1)), (2, .int (p2)), (3, .int (p3)), (4, .int (p4))]) hx hb d_En_find_60 hl (k := 5) rfl (zinc _) (by decide) rfl (fun ls hl => ?_)
            refine lv_goto (tgt := 3) hx hb d_En_find_63 (by decide) ?_
            exact ih (k + 1) (by omega) (by rw [hst]; simp [fx_find, c_2, c_3, c_4]) _ _ B ls (lv_sub hl [1, 2, 3, 4, 5, 0] rfl)
          · refine lv_aload_n hx hb d_En_find_34 rfl (lv_at hl 0 rfl) ?_
            refine va_get (D := κ.1) (ci := 1) (v := .ref (aA κ 5)) (C := "UnitThreads$Entries") (T := T_En) (N := 6) hx hb hts in_En hown B.1 B.2.1 2 (wa_2 κ σ) rfl 2 (by decide) (hts _ w_76) (fun _ h9 => h9) rfl d_En_find_35 ?_
            refine lv_iload hx hb d_En_find_38 (lv_at hl 5 rfl) ?_
            refine ziald hx hb B 5 0 (wa_5 κ σ) rfl k rfl (by omega) (by decide) d_En_find_40 ?_
            refine lv_iload_n hx hb d_En_find_41 rfl (lv_at hl 3 rfl) ?_
            refine lv_icmp_ne (tgt := 60) hx hb d_En_find_42 (by decide) (fun c_5 => ?_) (fun c_5 => ?_)
            · refine lv_iinc (v := nI (k + 1)) (lv' := [(5, .int (nI (k + 1))), (0, .ref (aA κ 2)), (1, .int (p1)), (2, .int (p2)), (3, .int (p3)), (4, .int (p4))]) hx hb d_En_find_60 hl (k := 5) rfl (zinc _) (by decide) rfl (fun ls hl => ?_)
              refine lv_goto (tgt := 3) hx hb d_En_find_63 (by decide) ?_
              exact ih (k + 1) (by omega) (by rw [hst]; simp [fx_find, c_2, c_3, c_4, c_5]) _ _ B ls (lv_sub hl [1, 2, 3, 4, 5, 0] rfl)
            · refine lv_aload_n hx hb d_En_find_45 rfl (lv_at hl 0 rfl) ?_
              refine va_get (D := κ.1) (ci := 1) (v := .ref (aA κ 6)) (C := "UnitThreads$Entries") (T := T_En) (N := 6) hx hb hts in_En hown B.1 B.2.1 2 (wa_2 κ σ) rfl 3 (by decide) (hts _ w_77) (fun _ h9 => h9) rfl d_En_find_46 ?_
              refine lv_iload hx hb d_En_find_49 (lv_at hl 5 rfl) ?_
              refine ziald hx hb B 6 0 (wa_6 κ σ) rfl k rfl (by omega) (by decide) d_En_find_51 ?_
              refine lv_iload hx hb d_En_find_52 (lv_at hl 4 rfl) ?_
              refine lv_icmp_ne (tgt := 60) hx hb d_En_find_54 (by decide) (fun c_6 => ?_) (fun c_6 => ?_)
              · refine lv_iinc (v := nI (k + 1)) (lv' := [(5, .int (nI (k + 1))), (0, .ref (aA κ 2)), (1, .int (p1)), (2, .int (p2)), (3, .int (p3)), (4, .int (p4))]) hx hb d_En_find_60 hl (k := 5) rfl (zinc _) (by decide) rfl (fun ls hl => ?_)
                refine lv_goto (tgt := 3) hx hb d_En_find_63 (by decide) ?_
                exact ih (k + 1) (by omega) (by rw [hst]; simp [fx_find, c_2, c_3, c_4, c_5, c_6]) _ _ B ls (lv_sub hl [1, 2, 3, 4, 5, 0] rfl)
              · refine lv_iload hx hb d_En_find_57 (lv_at hl 5 rfl) ?_
                exact zret_i hx hb hr hlocks B (⟨by rw [hst]; simp [fx_find, c_2, c_3, c_4, c_5, c_6], rfl⟩) d_En_find_59
  refine lv_iconst (v := nI 0) hx hb d_En_find_0 (by decide) ?_
  refine lv_istore (lv' := [(5, .int (nI 0)), (0, .ref (aA κ 2)), (1, .int (p1)), (2, .int (p2)), (3, .int (p3)), (4, .int (p4))]) hx hb d_En_find_1 hl (by decide) rfl (fun ls hl => ?_)
  exact L_3 E 0 (by omega) rfl _ _ B ls (lv_sub hl [1, 2, 3, 4, 5, 0] rfl)
set_option maxHeartbeats 4000000 in
set_option maxRecDepth 100000 in
theorem c_En_markThrown (l : Launch) (κ : KA) (σ : zS) (q : Nat) (E : Nat) (hE : σ.1 12 0 = nI E) (hE3 : E ≤ 300) (he : q < E) : zMv l y_En_markThrown (zws y_En_markThrown prog_3_method_4_code 2 none) ({ frames := 0, cells := 0, slots := 0, locals := 0 }) κ.1 vwCl (tysA κ) nwA (wA κ) σ [.ref (aA κ 2), .int (nI q)] (fun σ' => σ' = zi σ 8 q 3) := by
  refine zintro (cc := prog_3_method_4_code) (maxL := 2) (ret := none) (by decide) rfl (Nat.le_of_ble_eq_true rfl) ?_
  intro p e s m below meth c ls hx hb hr hml hts hown hlocks hl B
  have hl : lv_has ls 2 [(0, .ref (aA κ 2)), (1, .int (nI q))] := hl
  have B : BA κ (va_A (wA κ σ) s.heap.size) s.heap s σ s.heap [] := B
  have hr : meth.sig.returnType = none := hr
  have hown : s.vm.findClass "UnitThreads$Entries" = some m.cls := hown
  show W p l e (headSpec (zws y_En_markThrown prog_3_method_4_code 2 none) ({ frames := 0, cells := 0, slots := 0, locals := 0 })).room s m [.ref (aA κ 2), .int (nI q)].toArray below meth c s.heap [] 0 0 (MQ below (va_Qv (fun σ' => σ' = zi σ 8 q 3) (zQ κ.1 vwCl (tysA κ) (wA κ) (va_A (wA κ σ) s.heap.size)) (va_A (wA κ σ) s.heap.size)) [.ref (aA κ 2), .int (nI q)].toArray s 0 0 (va_A (wA κ σ) s.heap.size)) (F0 m 0 ls [])
  generalize va_A (wA κ σ) s.heap.size = A at B ⊢
  have hts : ∀ w ∈ zW, w.before [.ref (aA κ 2), .int (nI q)].toArray s = true := fun w h => hts w (List.mem_cons_of_mem _ h)
  refine lv_iload_n hx hb d_En_markThrown_0 rfl (lv_at hl 1 rfl) ?_
  refine lv_if_lt (tgt := 19) hx hb d_En_markThrown_1 (by decide) (fun c_1 => ?_) (fun c_1 => ?_)
  · have c_1 := (nI_ltI (a := q) (b := 0) (by omega) (by omega)).mp c_1
    exact absurd c_1 (by omega)
  · have c_1 := (not_congr (nI_ltI (a := q) (b := 0) (by omega) (by omega))).mp c_1
    refine lv_iload_n hx hb d_En_markThrown_4 rfl (lv_at hl 1 rfl) ?_
    refine lv_aload_n hx hb d_En_markThrown_5 rfl (lv_at hl 0 rfl) ?_
    refine va_get (D := κ.1) (ci := 1) (v := .int (σ.1 12 0)) (C := "UnitThreads$Entries") (T := T_En) (N := 6) hx hb hts in_En hown B.1 B.2.1 2 (wa_2 κ σ) rfl 5 (by decide) (hts _ w_79) (fun _ h9 => h9) rfl d_En_markThrown_6 ?_
    refine zrwi (y := nI E) (hE) ?_
    refine lv_icmp_ge (tgt := 19) hx hb d_En_markThrown_9 (by decide) (fun c_2 => ?_) (fun c_2 => ?_)
    · have c_2 := (nI_leI (a := E) (b := q) (by omega) (by omega)).mp c_2
      exact absurd c_2 (by omega)
    · have c_2 := (not_congr (nI_leI (a := E) (b := q) (by omega) (by omega))).mp c_2
      refine lv_aload_n hx hb d_En_markThrown_12 rfl (lv_at hl 0 rfl) ?_
      refine va_get (D := κ.1) (ci := 1) (v := .ref (aA κ 3)) (C := "UnitThreads$Entries") (T := T_En) (N := 6) hx hb hts in_En hown B.1 B.2.1 2 (wa_2 κ σ) rfl 0 (by decide) (hts _ w_74) (fun _ h9 => h9) rfl d_En_markThrown_13 ?_
      refine lv_iload_n hx hb d_En_markThrown_16 rfl (lv_at hl 1 rfl) ?_
      refine lv_iconst (v := 3) hx hb d_En_markThrown_17 (by decide) ?_
      refine ziast hx hb B 3 0 (wa_3 κ σ) rfl q rfl (by omega) (by decide) (ws_3 κ σ q 3) d_En_markThrown_18 (fun H locs B => ?_)
      have B : BA κ A s.heap s (zi σ 8 q 3) H locs := B
      exact zret_v hx hb hr hlocks B (rfl) d_En_markThrown_19
set_option maxHeartbeats 4000000 in
set_option maxRecDepth 100000 in
theorem c_En_brief (l : Launch) (κ : KA) (σ : zS) (hn : nA κ ≤ 8) (E : Nat) (hE : σ.1 12 0 = nI E) (hE3 : E ≤ 300) (hU : ∀ e, e < E → zin (σ.1 9 e) (nA κ)) : zMv l y_En_brief (zws y_En_brief prog_3_method_5_code 5 none) ({ frames := 0, cells := 0, slots := 0, locals := 0 }) κ.1 vwCl (tysA κ) nwA (wA κ) σ [.ref (aA κ 2), .ref (aA κ 1)] (fun σ' => σ' = fx_brief (nA κ) E σ) := by
  refine zintro (cc := prog_3_method_5_code) (maxL := 5) (ret := none) (by decide) rfl (Nat.le_of_ble_eq_true rfl) ?_
  intro p e s m below meth c ls hx hb hr hml hts hown hlocks hl B
  have hl : lv_has ls 5 [(0, .ref (aA κ 2)), (1, .ref (aA κ 1))] := hl
  have B : BA κ (va_A (wA κ σ) s.heap.size) s.heap s σ s.heap [] := B
  have hr : meth.sig.returnType = none := hr
  have hown : s.vm.findClass "UnitThreads$Entries" = some m.cls := hown
  show W p l e (headSpec (zws y_En_brief prog_3_method_5_code 5 none) ({ frames := 0, cells := 0, slots := 0, locals := 0 })).room s m [.ref (aA κ 2), .ref (aA κ 1)].toArray below meth c s.heap [] 0 0 (MQ below (va_Qv (fun σ' => σ' = fx_brief (nA κ) E σ) (zQ κ.1 vwCl (tysA κ) (wA κ) (va_A (wA κ σ) s.heap.size)) (va_A (wA κ σ) s.heap.size)) [.ref (aA κ 2), .ref (aA κ 1)].toArray s 0 0 (va_A (wA κ σ) s.heap.size)) (F0 m 0 ls [])
  generalize va_A (wA κ σ) s.heap.size = A at B ⊢
  have hts : ∀ w ∈ zW, w.before [.ref (aA κ 2), .ref (aA κ 1)].toArray s = true := fun w h => hts w (List.mem_cons_of_mem _ h)
  have L_37 : ∀ (j : Nat) (k : Nat) (τ : zS), k + j = E → (fx_brief (nA κ) E σ = zit fx_brief1 j k τ) → (τ.1 12 0 = nI E) → (∀ e, e < E → zin (τ.1 9 e) (nA κ)) → ∀ (H : Heap) (locs : List Loc), BA κ A s.heap s τ H locs → ∀ (ls : Array Slot), lv_has ls 5 [(0, .ref (aA κ 2)), (1, .ref (aA κ 1)), (2, .int (nI k))] → W p l e (headSpec (zws y_En_brief prog_3_method_5_code 5 none) ({ frames := 0, cells := 0, slots := 0, locals := 0 })).room s m [.ref (aA κ 2), .ref (aA κ 1)].toArray below meth c H locs 0 0 (MQ below (va_Qv (fun σ' => σ' = fx_brief (nA κ) E σ) (zQ κ.1 vwCl (tysA κ) (wA κ) A) A) [.ref (aA κ 2), .ref (aA κ 1)].toArray s 0 0 A) (F0 m 37 ls []) := by
    intro j
    induction j with
    | zero =>
      intro k τ hj hst hE hU H locs B ls hl
      refine lv_iload_n hx hb d_En_brief_37 rfl (lv_at hl 2 rfl) ?_
      refine lv_aload_n hx hb d_En_brief_38 rfl (lv_at hl 0 rfl) ?_
      refine va_get (D := κ.1) (ci := 1) (v := .int (τ.1 12 0)) (C := "UnitThreads$Entries") (T := T_En) (N := 6) hx hb hts in_En hown B.1 B.2.1 2 (wa_2 κ τ) rfl 5 (by decide) (hts _ w_79) (fun _ h9 => h9) rfl d_En_brief_39 ?_
      refine zrwi (y := nI E) (hE) ?_
      refine lv_icmp_ge (tgt := 178) hx hb d_En_brief_42 (by decide) (fun c_1 => ?_) (fun c_1 => ?_)
      · have c_1 := (nI_leI (a := E) (b := k) (by omega) (by omega)).mp c_1
        exact zret_v hx hb hr hlocks B (hst.symm) d_En_brief_178
      · have c_1 := (not_congr (nI_leI (a := E) (b := k) (by omega) (by omega))).mp c_1
        exact absurd c_1 (by omega)
    | succ j ih =>
      intro k τ hj hst hE hU H locs B ls hl
      refine lv_iload_n hx hb d_En_brief_37 rfl (lv_at hl 2 rfl) ?_
      refine lv_aload_n hx hb d_En_brief_38 rfl (lv_at hl 0 rfl) ?_
      refine va_get (D := κ.1) (ci := 1) (v := .int (τ.1 12 0)) (C := "UnitThreads$Entries") (T := T_En) (N := 6) hx hb hts in_En hown B.1 B.2.1 2 (wa_2 κ τ) rfl 5 (by decide) (hts _ w_79) (fun _ h9 => h9) rfl d_En_brief_39 ?_
      refine zrwi (y := nI E) (hE) ?_
      refine lv_icmp_ge (tgt := 178) hx hb d_En_brief_42 (by decide) (fun c_2 => ?_) (fun c_2 => ?_)
      · have c_2 := (nI_leI (a := E) (b := k) (by omega) (by omega)).mp c_2
        exact absurd c_2 (by omega)
      · have c_2 := (not_congr (nI_leI (a := E) (b := k) (by omega) (by omega))).mp c_2
        refine lv_aload_n hx hb d_En_brief_45 rfl (lv_at hl 1 rfl) ?_
        refine lv_aload_n hx hb d_En_brief_46 rfl (lv_at hl 0 rfl) ?_
        refine va_get (D := κ.1) (ci := 1) (v := .ref (aA κ 4)) (C := "UnitThreads$Entries") (T := T_En) (N := 6) hx hb hts in_En hown B.1 B.2.1 2 (wa_2 κ τ) rfl 1 (by decide) (hts _ w_75) (fun _ h9 => h9) rfl d_En_brief_47 ?_
        refine lv_iload_n hx hb d_En_brief_50 rfl (lv_at hl 2 rfl) ?_
        refine ziald hx hb B 4 0 (wa_4 κ τ) rfl k rfl (by omega) (by decide) d_En_brief_51 ?_
        have hu_3 : tn (τ.1 9 k) < nA κ := (hU k (by omega)).2
        refine zaald hx hb B 1 2 (wa_1 κ τ) rfl (tn (τ.1 9 k)) ((hU k (by omega)).1) hu_3 (by omega) rfl d_En_brief_52 ?_
        refine lv_astore_n (lv' := [(3, .ref (aA κ (64 + (tn (τ.1 9 k))))), (0, .ref (aA κ 2)), (1, .ref (aA κ 1)), (2, .int (nI k))]) hx hb d_En_brief_53 rfl hl (by decide) rfl (fun ls hl => ?_)
        refine lv_aload_n hx hb d_En_brief_54 rfl (lv_at hl 1 rfl) ?_
        refine va_get (D := κ.1) (ci := 1) (v := .ref (aA κ 5)) (C := "UnitThreads$Entries") (T := T_En) (N := 6) hx hb hts in_En hown B.1 B.2.1 2 (wa_2 κ τ) rfl 2 (by decide) (hts _ w_76) (fun _ h9 => h9) rfl d_En_brief_55 ?_
        refine lv_iload_n hx hb d_En_brief_58 rfl (lv_at hl 3 rfl) ?_
        refine ziald hx hb B 5 0 (wa_5 κ τ) rfl k rfl (by omega) (by decide) d_En_brief_59 ?_
        refine lv_aload_n hx hb d_En_brief_60 rfl (lv_at hl 0 rfl) ?_
        refine va_get (D := κ.1) (ci := 0) (v := .int (τ.1 0 (tn (τ.1 9 k)))) (C := "UnitThreads$Unit") (T := T_Un) (N := 8) hx hb hts in_Un hown B.1 B.2.1 (43 + (tn (τ.1 9 k))) (wa_u κ τ hu_3) rfl 0 (by decide) (hts _ w_33) (fun _ h9 => h9) rfl d_En_brief_61 ?_
        refine lv_icmp_ne (tgt := 71) hx hb d_En_brief_64 (by decide) (fun c_4 => ?_) (fun c_4 => ?_)
        · refine lv_iconst (v := 0) hx hb d_En_brief_71 (by decide) ?_
          refine lv_istore (lv' := [(4, .int (0)), (3, .ref (aA κ (64 + (tn (τ.1 9 k))))), (0, .ref (aA κ 2)), (1, .ref (aA κ 1)), (2, .int (nI k))]) hx hb d_En_brief_72 hl (by decide) rfl (fun ls hl => ?_)
          refine lv_aload_n hx hb d_En_brief_74 rfl (lv_at hl 2 rfl) ?_
          refine va_get (D := κ.1) (ci := 1) (v := .ref (aA κ 3)) (C := "UnitThreads$Entries") (T := T_En) (N := 6) hx hb hts in_En hown B.1 B.2.1 2 (wa_2 κ τ) rfl 0 (by decide) (hts _ w_74) (fun _ h9 => h9) rfl d_En_brief_75 ?_
          refine lv_iload_n hx hb d_En_brief_78 rfl (lv_at hl 4 rfl) ?_
          refine ziald hx hb B 3 0 (wa_3 κ τ) rfl k rfl (by omega) (by decide) d_En_brief_79 ?_
          refine lv_iconst (v := 2) hx hb d_En_brief_80 (by decide) ?_
          refine lv_icmp_ne (tgt := 97) hx hb d_En_brief_81 (by decide) (fun c_5 => ?_) (fun c_5 => ?_)
          · refine lv_aload_n hx hb d_En_brief_97 rfl (lv_at hl 2 rfl) ?_
            refine va_get (D := κ.1) (ci := 1) (v := .ref (aA κ 3)) (C := "UnitThreads$Entries") (T := T_En) (N := 6) hx hb hts in_En hown B.1 B.2.1 2 (wa_2 κ τ) rfl 0 (by decide) (hts _ w_74) (fun _ h9 => h9) rfl d_En_brief_98 ?_
            refine lv_iload_n hx hb d_En_brief_101 rfl (lv_at hl 4 rfl) ?_
            refine ziald hx hb B 3 0 (wa_3 κ τ) rfl k rfl (by omega) (by decide) d_En_brief_102 ?_
            refine lv_iconst (v := 1) hx hb d_En_brief_103 (by decide) ?_
            refine lv_icmp_ne (tgt := 132) hx hb d_En_brief_104 (by decide) (fun c_6 => ?_) (fun c_6 => ?_)
            · refine lv_aload_n hx hb d_En_brief_132 rfl (lv_at hl 2 rfl) ?_
              refine va_get (D := κ.1) (ci := 1) (v := .ref (aA κ 3)) (C := "UnitThreads$Entries") (T := T_En) (N := 6) hx hb hts in_En hown B.1 B.2.1 2 (wa_2 κ τ) rfl 0 (by decide) (hts _ w_74) (fun _ h9 => h9) rfl d_En_brief_133 ?_
              refine lv_iload_n hx hb d_En_brief_136 rfl (lv_at hl 4 rfl) ?_
              refine ziald hx hb B 3 0 (wa_3 κ τ) rfl k rfl (by omega) (by decide) d_En_brief_137 ?_
              refine lv_iconst (v := 1) hx hb d_En_brief_138 (by decide) ?_
              refine lv_icmp_ne (tgt := 172) hx hb d_En_brief_139 (by decide) (fun c_7 => ?_) (fun c_7 => ?_)
              · refine lv_iinc (v := nI (k + 1)) (lv' := [(2, .int (nI (k + 1))), (4, .int (0)), (3, .ref (aA κ (64 + (tn (τ.1 9 k))))), (0, .ref (aA κ 2)), (1, .ref (aA κ 1))]) hx hb d_En_brief_172 hl (k := 4) rfl (zinc _) (by decide) rfl (fun ls hl => ?_)
                refine lv_goto (tgt := 37) hx hb d_En_brief_175 (by decide) ?_
                exact ih (k + 1) τ (by omega) (by rw [hst]; simp [zit, fx_brief1, c_2, c_4, c_5, c_6, c_7]) hE hU _ _ B ls (lv_sub hl [3, 4, 0] rfl)
              · exact absurd c_7 (c_6)
            · refine lv_iload hx hb d_En_brief_107 (lv_at hl 0 rfl) ?_
              refine lv_if_eq (tgt := 132) hx hb d_En_brief_109 (by decide) (fun c_8 => ?_) (fun c_8 => ?_)
              · refine lv_aload_n hx hb d_En_brief_132 rfl (lv_at hl 2 rfl) ?_
                refine va_get (D := κ.1) (ci := 1) (v := .ref (aA κ 3)) (C := "UnitThreads$Entries") (T := T_En) (N := 6) hx hb hts in_En hown B.1 B.2.1 2 (wa_2 κ τ) rfl 0 (by decide) (hts _ w_74) (fun _ h9 => h9) rfl d_En_brief_133 ?_
                refine lv_iload_n hx hb d_En_brief_136 rfl (lv_at hl 4 rfl) ?_
                refine ziald hx hb B 3 0 (wa_3 κ τ) rfl k rfl (by omega) (by decide) d_En_brief_137 ?_
                refine lv_iconst (v := 1) hx hb d_En_brief_138 (by decide) ?_
                refine lv_icmp_ne (tgt := 172) hx hb d_En_brief_139 (by decide) (fun c_9 => ?_) (fun c_9 => ?_)
                · exact absurd c_9 (not_not_intro c_6)
                · refine lv_aload_n hx hb d_En_brief_142 rfl (lv_at hl 2 rfl) ?_
                  refine va_get (D := κ.1) (ci := 1) (v := .ref (aA κ 5)) (C := "UnitThreads$Entries") (T := T_En) (N := 6) hx hb hts in_En hown B.1 B.2.1 2 (wa_2 κ τ) rfl 2 (by decide) (hts _ w_76) (fun _ h9 => h9) rfl d_En_brief_143 ?_
                  refine lv_iload_n hx hb d_En_brief_146 rfl (lv_at hl 4 rfl) ?_
                  refine ziald hx hb B 5 0 (wa_5 κ τ) rfl k rfl (by omega) (by decide) d_En_brief_147 ?_
                  refine lv_aload_n hx hb d_En_brief_148 rfl (lv_at hl 1 rfl) ?_
                  refine va_get (D := κ.1) (ci := 0) (v := .int (τ.1 0 (tn (τ.1 9 k)))) (C := "UnitThreads$Unit") (T := T_Un) (N := 8) hx hb hts in_Un hown B.1 B.2.1 (43 + (tn (τ.1 9 k))) (wa_u κ τ hu_3) rfl 0 (by decide) (hts _ w_33) (fun _ h9 => h9) rfl d_En_brief_149 ?_
                  refine lv_icmp_ge (tgt := 172) hx hb d_En_brief_152 (by decide) (fun c_10 => ?_) (fun c_10 => ?_)
                  · refine lv_iinc (v := nI (k + 1)) (lv' := [(2, .int (nI (k + 1))), (4, .int (0)), (3, .ref (aA κ (64 + (tn (τ.1 9 k))))), (0, .ref (aA κ 2)), (1, .ref (aA κ 1))]) hx hb d_En_brief_172 hl (k := 4) rfl (zinc _) (by decide) rfl (fun ls hl => ?_)
                    refine lv_goto (tgt := 37) hx hb d_En_brief_175 (by decide) ?_
                    exact ih (k + 1) τ (by omega) (by rw [hst]; simp [zit, fx_brief1, c_2, c_4, c_5, c_6, c_9, c_10]) hE hU _ _ B ls (lv_sub hl [3, 4, 0] rfl)
                  · refine lv_aload_n hx hb d_En_brief_155 rfl (lv_at hl 1 rfl) ?_
                    refine lv_dup hx hb d_En_brief_156 rfl ?_
                    refine va_get (D := κ.1) (ci := 0) (v := .int (τ.1 6 (tn (τ.1 9 k)))) (C := "UnitThreads$Unit") (T := T_Un) (N := 8) hx hb hts in_Un hown B.1 B.2.1 (43 + (tn (τ.1 9 k))) (wa_u κ τ hu_3) rfl 6 (by decide) (hts _ w_47) (fun _ h9 => h9) rfl d_En_brief_157 ?_
                    refine lv_iconst (v := 1) hx hb d_En_brief_160 (by decide) ?_
                    refine lv_aload_n hx hb d_En_brief_161 rfl (lv_at hl 2 rfl) ?_
                    refine va_get (D := κ.1) (ci := 1) (v := .ref (aA κ 6)) (C := "UnitThreads$Entries") (T := T_En) (N := 6) hx hb hts in_En hown B.1 B.2.1 2 (wa_2 κ τ) rfl 3 (by decide) (hts _ w_77) (fun _ h9 => h9) rfl d_En_brief_162 ?_
                    refine lv_iload_n hx hb d_En_brief_165 rfl (lv_at hl 4 rfl) ?_
                    refine ziald hx hb B 6 0 (wa_6 κ τ) rfl k rfl (by omega) (by decide) d_En_brief_166 ?_
                    refine lv_ishl hx hb d_En_brief_167 ?_
                    refine lv_ixor hx hb d_En_brief_168 ?_
                    refine zput (ci := 0) (v := .int ((τ.1 6 (tn (τ.1 9 k))) ^^^ (1 <<< ((τ.1 11 k) &&& 31)))) (ty := .int) (C := "UnitThreads$Unit") (T := T_Un) (N := 8) hx hb hts in_Un ty_Un tyok_Un nm_Un hown B (43 + (tn (τ.1 9 k))) (wa_u κ τ hu_3) rfl 6 (by decide) (hts _ w_47) (fun _ h9 => h9) rfl (by decide +kernel) rfl rfl (Nat.le_of_ble_eq_true rfl) (wq_6 κ τ hu_3 ((τ.1 6 (tn (τ.1 9 k))) ^^^ (1 <<< ((τ.1 11 k) &&& 31)))) d_En_brief_169 (fun H locs B => ?_)
                    have B : BA κ A s.heap s (zi τ 6 (tn (τ.1 9 k)) ((τ.1 6 (tn (τ.1 9 k))) ^^^ (1 <<< ((τ.1 11 k) &&& 31)))) H locs := B
                    refine lv_iinc (v := nI (k + 1)) (lv' := [(2, .int (nI (k + 1))), (4, .int (0)), (3, .ref (aA κ (64 + (tn (τ.1 9 k))))), (0, .ref (aA κ 2)), (1, .ref (aA κ 1))]) hx hb d_En_brief_172 hl (k := 4) rfl (zinc _) (by decide) rfl (fun ls hl => ?_)
                    refine lv_goto (tgt := 37) hx hb d_En_brief_175 (by decide) ?_
                    exact ih (k + 1) (zi τ 6 (tn (τ.1 9 k)) ((τ.1 6 (tn (τ.1 9 k))) ^^^ (1 <<< ((τ.1 11 k) &&& 31)))) (by omega) (by rw [hst]; simp [zit, fx_brief1, c_2, c_4, c_5, c_6, c_9, c_10]) hE hU _ _ B ls (lv_sub hl [3, 4, 0] rfl)
              · exact absurd c_8 (by decide)
          · refine lv_iload hx hb d_En_brief_84 (lv_at hl 0 rfl) ?_
            refine lv_if_eq (tgt := 97) hx hb d_En_brief_86 (by decide) (fun c_11 => ?_) (fun c_11 => ?_)
            · refine lv_aload_n hx hb d_En_brief_97 rfl (lv_at hl 2 rfl) ?_
              refine va_get (D := κ.1) (ci := 1) (v := .ref (aA κ 3)) (C := "UnitThreads$Entries") (T := T_En) (N := 6) hx hb hts in_En hown B.1 B.2.1 2 (wa_2 κ τ) rfl 0 (by decide) (hts _ w_74) (fun _ h9 => h9) rfl d_En_brief_98 ?_
              refine lv_iload_n hx hb d_En_brief_101 rfl (lv_at hl 4 rfl) ?_
              refine ziald hx hb B 3 0 (wa_3 κ τ) rfl k rfl (by omega) (by decide) d_En_brief_102 ?_
              refine lv_iconst (v := 1) hx hb d_En_brief_103 (by decide) ?_
              refine lv_icmp_ne (tgt := 132) hx hb d_En_brief_104 (by decide) (fun c_12 => ?_) (fun c_12 => ?_)
              · refine lv_aload_n hx hb d_En_brief_132 rfl (lv_at hl 2 rfl) ?_
                refine va_get (D := κ.1) (ci := 1) (v := .ref (aA κ 3)) (C := "UnitThreads$Entries") (T := T_En) (N := 6) hx hb hts in_En hown B.1 B.2.1 2 (wa_2 κ τ) rfl 0 (by decide) (hts _ w_74) (fun _ h9 => h9) rfl d_En_brief_133 ?_
                refine lv_iload_n hx hb d_En_brief_136 rfl (lv_at hl 4 rfl) ?_
                refine ziald hx hb B 3 0 (wa_3 κ τ) rfl k rfl (by omega) (by decide) d_En_brief_137 ?_
                refine lv_iconst (v := 1) hx hb d_En_brief_138 (by decide) ?_
                refine lv_icmp_ne (tgt := 172) hx hb d_En_brief_139 (by decide) (fun c_13 => ?_) (fun c_13 => ?_)
                · refine lv_iinc (v := nI (k + 1)) (lv' := [(2, .int (nI (k + 1))), (4, .int (0)), (3, .ref (aA κ (64 + (tn (τ.1 9 k))))), (0, .ref (aA κ 2)), (1, .ref (aA κ 1))]) hx hb d_En_brief_172 hl (k := 4) rfl (zinc _) (by decide) rfl (fun ls hl => ?_)
                  refine lv_goto (tgt := 37) hx hb d_En_brief_175 (by decide) ?_
                  exact ih (k + 1) τ (by omega) (by rw [hst]; simp [zit, fx_brief1, c_2, c_4, c_5, c_12, c_13]) hE hU _ _ B ls (lv_sub hl [3, 4, 0] rfl)
                · exact absurd c_13 (c_12)
              · exact absurd c_12 (fun h => absurd (c_5.symm.trans h) (by decide))
            · exact absurd c_11 (by decide)
        · refine lv_iconst (v := 1) hx hb d_En_brief_67 (by decide) ?_
          refine lv_goto (tgt := 72) hx hb d_En_brief_68 (by decide) ?_
          refine lv_istore (lv' := [(4, .int (1)), (3, .ref (aA κ (64 + (tn (τ.1 9 k))))), (0, .ref (aA κ 2)), (1, .ref (aA κ 1)), (2, .int (nI k))]) hx hb d_En_brief_72 hl (by decide) rfl (fun ls hl => ?_)
          refine lv_aload_n hx hb d_En_brief_74 rfl (lv_at hl 2 rfl) ?_
          refine va_get (D := κ.1) (ci := 1) (v := .ref (aA κ 3)) (C := "UnitThreads$Entries") (T := T_En) (N := 6) hx hb hts in_En hown B.1 B.2.1 2 (wa_2 κ τ) rfl 0 (by decide) (hts _ w_74) (fun _ h9 => h9) rfl d_En_brief_75 ?_
          refine lv_iload_n hx hb d_En_brief_78 rfl (lv_at hl 4 rfl) ?_
          refine ziald hx hb B 3 0 (wa_3 κ τ) rfl k rfl (by omega) (by decide) d_En_brief_79 ?_
          refine lv_iconst (v := 2) hx hb d_En_brief_80 (by decide) ?_
          refine lv_icmp_ne (tgt := 97) hx hb d_En_brief_81 (by decide) (fun c_14 => ?_) (fun c_14 => ?_)
          · refine lv_aload_n hx hb d_En_brief_97 rfl (lv_at hl 2 rfl) ?_
            refine va_get (D := κ.1) (ci := 1) (v := .ref (aA κ 3)) (C := "UnitThreads$Entries") (T := T_En) (N := 6) hx hb hts in_En hown B.1 B.2.1 2 (wa_2 κ τ) rfl 0 (by decide) (hts _ w_74) (fun _ h9 => h9) rfl d_En_brief_98 ?_
            refine lv_iload_n hx hb d_En_brief_101 rfl (lv_at hl 4 rfl) ?_
            refine ziald hx hb B 3 0 (wa_3 κ τ) rfl k rfl (by omega) (by decide) d_En_brief_102 ?_
            refine lv_iconst (v := 1) hx hb d_En_brief_103 (by decide) ?_
            refine lv_icmp_ne (tgt := 132) hx hb d_En_brief_104 (by decide) (fun c_15 => ?_) (fun c_15 => ?_)
            · refine lv_aload_n hx hb d_En_brief_132 rfl (lv_at hl 2 rfl) ?_
              refine va_get (D := κ.1) (ci := 1) (v := .ref (aA κ 3)) (C := "UnitThreads$Entries") (T := T_En) (N := 6) hx hb hts in_En hown B.1 B.2.1 2 (wa_2 κ τ) rfl 0 (by decide) (hts _ w_74) (fun _ h9 => h9) rfl d_En_brief_133 ?_
              refine lv_iload_n hx hb d_En_brief_136 rfl (lv_at hl 4 rfl) ?_
              refine ziald hx hb B 3 0 (wa_3 κ τ) rfl k rfl (by omega) (by decide) d_En_brief_137 ?_
              refine lv_iconst (v := 1) hx hb d_En_brief_138 (by decide) ?_
              refine lv_icmp_ne (tgt := 172) hx hb d_En_brief_139 (by decide) (fun c_16 => ?_) (fun c_16 => ?_)
              · refine lv_iinc (v := nI (k + 1)) (lv' := [(2, .int (nI (k + 1))), (4, .int (1)), (3, .ref (aA κ (64 + (tn (τ.1 9 k))))), (0, .ref (aA κ 2)), (1, .ref (aA κ 1))]) hx hb d_En_brief_172 hl (k := 4) rfl (zinc _) (by decide) rfl (fun ls hl => ?_)
                refine lv_goto (tgt := 37) hx hb d_En_brief_175 (by decide) ?_
                exact ih (k + 1) τ (by omega) (by rw [hst]; simp [zit, fx_brief1, c_2, c_4, c_14, c_15, c_16]) hE hU _ _ B ls (lv_sub hl [3, 4, 0] rfl)
              · exact absurd c_16 (c_15)
            · refine lv_iload hx hb d_En_brief_107 (lv_at hl 0 rfl) ?_
              refine lv_if_eq (tgt := 132) hx hb d_En_brief_109 (by decide) (fun c_17 => ?_) (fun c_17 => ?_)
              · exact absurd c_17 (by decide)
              · refine lv_aload_n hx hb d_En_brief_112 rfl (lv_at hl 1 rfl) ?_
                refine lv_dup hx hb d_En_brief_113 rfl ?_
                refine va_get (D := κ.1) (ci := 0) (v := .int (τ.1 5 (tn (τ.1 9 k)))) (C := "UnitThreads$Unit") (T := T_Un) (N := 8) hx hb hts in_Un hown B.1 B.2.1 (43 + (tn (τ.1 9 k))) (wa_u κ τ hu_3) rfl 5 (by decide) (hts _ w_45) (fun _ h9 => h9) rfl d_En_brief_114 ?_
                refine lv_iconst (v := 1) hx hb d_En_brief_117 (by decide) ?_
                refine lv_aload_n hx hb d_En_brief_118 rfl (lv_at hl 2 rfl) ?_
                refine va_get (D := κ.1) (ci := 1) (v := .ref (aA κ 6)) (C := "UnitThreads$Entries") (T := T_En) (N := 6) hx hb hts in_En hown B.1 B.2.1 2 (wa_2 κ τ) rfl 3 (by decide) (hts _ w_77) (fun _ h9 => h9) rfl d_En_brief_119 ?_
                refine lv_iload_n hx hb d_En_brief_122 rfl (lv_at hl 4 rfl) ?_
                refine ziald hx hb B 6 0 (wa_6 κ τ) rfl k rfl (by omega) (by decide) d_En_brief_123 ?_
                refine lv_ishl hx hb d_En_brief_124 ?_
                refine lv_ior hx hb d_En_brief_125 ?_
                refine zput (ci := 0) (v := .int ((τ.1 5 (tn (τ.1 9 k))) ||| (1 <<< ((τ.1 11 k) &&& 31)))) (ty := .int) (C := "UnitThreads$Unit") (T := T_Un) (N := 8) hx hb hts in_Un ty_Un tyok_Un nm_Un hown B (43 + (tn (τ.1 9 k))) (wa_u κ τ hu_3) rfl 5 (by decide) (hts _ w_45) (fun _ h9 => h9) rfl (by decide +kernel) rfl rfl (Nat.le_of_ble_eq_true rfl) (wq_5 κ τ hu_3 ((τ.1 5 (tn (τ.1 9 k))) ||| (1 <<< ((τ.1 11 k) &&& 31)))) d_En_brief_126 (fun H locs B => ?_)
                have B : BA κ A s.heap s (zi τ 5 (tn (τ.1 9 k)) ((τ.1 5 (tn (τ.1 9 k))) ||| (1 <<< ((τ.1 11 k) &&& 31)))) H locs := B
                refine lv_goto (tgt := 172) hx hb d_En_brief_129 (by decide) ?_
                refine lv_iinc (v := nI (k + 1)) (lv' := [(2, .int (nI (k + 1))), (4, .int (1)), (3, .ref (aA κ (64 + (tn (τ.1 9 k))))), (0, .ref (aA κ 2)), (1, .ref (aA κ 1))]) hx hb d_En_brief_172 hl (k := 4) rfl (zinc _) (by decide) rfl (fun ls hl => ?_)
                refine lv_goto (tgt := 37) hx hb d_En_brief_175 (by decide) ?_
                exact ih (k + 1) (zi τ 5 (tn (τ.1 9 k)) ((τ.1 5 (tn (τ.1 9 k))) ||| (1 <<< ((τ.1 11 k) &&& 31)))) (by omega) (by rw [hst]; simp [zit, fx_brief1, c_2, c_4, c_14, c_15]) hE hU _ _ B ls (lv_sub hl [3, 4, 0] rfl)
          · refine lv_iload hx hb d_En_brief_84 (lv_at hl 0 rfl) ?_
            refine lv_if_eq (tgt := 97) hx hb d_En_brief_86 (by decide) (fun c_18 => ?_) (fun c_18 => ?_)
            · exact absurd c_18 (by decide)
            · refine lv_aload_n hx hb d_En_brief_89 rfl (lv_at hl 1 rfl) ?_
              refine lv_iload_n hx hb d_En_brief_90 rfl (lv_at hl 4 rfl) ?_
              refine zput (ci := 0) (v := .int (nI k)) (ty := .int) (C := "UnitThreads$Unit") (T := T_Un) (N := 8) hx hb hts in_Un ty_Un tyok_Un nm_Un hown B (43 + (tn (τ.1 9 k))) (wa_u κ τ hu_3) rfl 4 (by decide) (hts _ w_42) (fun _ h9 => h9) rfl (by decide +kernel) rfl rfl (Nat.le_of_ble_eq_true rfl) (wq_4 κ τ hu_3 (nI k)) d_En_brief_91 (fun H locs B => ?_)
              have B : BA κ A s.heap s (zi τ 4 (tn (τ.1 9 k)) (nI k)) H locs := B
              refine lv_goto (tgt := 172) hx hb d_En_brief_94 (by decide) ?_
              refine lv_iinc (v := nI (k + 1)) (lv' := [(2, .int (nI (k + 1))), (4, .int (1)), (3, .ref (aA κ (64 + (tn (τ.1 9 k))))), (0, .ref (aA κ 2)), (1, .ref (aA κ 1))]) hx hb d_En_brief_172 hl (k := 4) rfl (zinc _) (by decide) rfl (fun ls hl => ?_)
              refine lv_goto (tgt := 37) hx hb d_En_brief_175 (by decide) ?_
              exact ih (k + 1) (zi τ 4 (tn (τ.1 9 k)) (nI k)) (by omega) (by rw [hst]; simp [zit, fx_brief1, c_2, c_4, c_14]) hE hU _ _ B ls (lv_sub hl [3, 4, 0] rfl)
  have L_2 : ∀ (j : Nat) (k : Nat) (τ : zS), k + j = nA κ → (fx_brief (nA κ) E σ = zit fx_brief1 E 0 (zit fx_brief0 j k τ)) → (τ.1 12 0 = nI E) → (∀ e, e < E → zin (τ.1 9 e) (nA κ)) → ∀ (H : Heap) (locs : List Loc), BA κ A s.heap s τ H locs → ∀ (ls : Array Slot), lv_has ls 5 [(0, .ref (aA κ 2)), (1, .ref (aA κ 1)), (2, .int (nI k))] → W p l e (headSpec (zws y_En_brief prog_3_method_5_code 5 none) ({ frames := 0, cells := 0, slots := 0, locals := 0 })).room s m [.ref (aA κ 2), .ref (aA κ 1)].toArray below meth c H locs 0 0 (MQ below (va_Qv (fun σ' => σ' = fx_brief (nA κ) E σ) (zQ κ.1 vwCl (tysA κ) (wA κ) A) A) [.ref (aA κ 2), .ref (aA κ 1)].toArray s 0 0 A) (F0 m 2 ls []) := by
    intro j
    induction j with
    | zero =>
      intro k τ hj hst hE hU H locs B ls hl
      refine lv_iload_n hx hb d_En_brief_2 rfl (lv_at hl 2 rfl) ?_
      refine lv_aload_n hx hb d_En_brief_3 rfl (lv_at hl 1 rfl) ?_
      refine zalen hx hb B 1 2 (wa_1 κ τ) rfl d_En_brief_4 ?_
      refine lv_icmp_ge (tgt := 35) hx hb d_En_brief_5 (by decide) (fun c_19 => ?_) (fun c_19 => ?_)
      · have c_19 := (nI_leI (a := nA κ) (b := k) (by omega) (by omega)).mp c_19
        refine lv_iconst (v := nI 0) hx hb d_En_brief_35 (by decide) ?_
        refine lv_istore_n (lv' := [(2, .int (nI 0)), (0, .ref (aA κ 2)), (1, .ref (aA κ 1))]) hx hb d_En_brief_36 rfl hl (by decide) rfl (fun ls hl => ?_)
        exact L_37 E 0 τ (by omega) hst hE hU _ _ B ls (lv_sub hl [1, 2, 0] rfl)
      · have c_19 := (not_congr (nI_leI (a := nA κ) (b := k) (by omega) (by omega))).mp c_19
        exact absurd c_19 (by omega)
    | succ j ih =>
      intro k τ hj hst hE hU H locs B ls hl
      refine lv_iload_n hx hb d_En_brief_2 rfl (lv_at hl 2 rfl) ?_
      refine lv_aload_n hx hb d_En_brief_3 rfl (lv_at hl 1 rfl) ?_
      refine zalen hx hb B 1 2 (wa_1 κ τ) rfl d_En_brief_4 ?_
      refine lv_icmp_ge (tgt := 35) hx hb d_En_brief_5 (by decide) (fun c_20 => ?_) (fun c_20 => ?_)
      · have c_20 := (nI_leI (a := nA κ) (b := k) (by omega) (by omega)).mp c_20
        exact absurd c_20 (by omega)
      · have c_20 := (not_congr (nI_leI (a := nA κ) (b := k) (by omega) (by omega))).mp c_20
        refine lv_aload_n hx hb d_En_brief_8 rfl (lv_at hl 1 rfl) ?_
        refine lv_iload_n hx hb d_En_brief_9 rfl (lv_at hl 2 rfl) ?_
        have hu_21 : k < nA κ := (by omega)
        refine zaald hx hb B 1 2 (wa_1 κ τ) rfl k rfl hu_21 (by omega) rfl d_En_brief_10 ?_
        refine lv_iconst (v := (-1)) hx hb d_En_brief_11 (by decide) ?_
        refine zput (ci := 0) (v := .int ((-1))) (ty := .int) (C := "UnitThreads$Unit") (T := T_Un) (N := 8) hx hb hts in_Un ty_Un tyok_Un nm_Un hown B (43 + k) (wa_u κ τ hu_21) rfl 4 (by decide) (hts _ w_42) (fun _ h9 => h9) rfl (by decide +kernel) rfl rfl (Nat.le_of_ble_eq_true rfl) (wq_4 κ τ hu_21 (-1)) d_En_brief_12 (fun H locs B => ?_)
        have B : BA κ A s.heap s (zi τ 4 k (-1)) H locs := B
        refine lv_aload_n hx hb d_En_brief_15 rfl (lv_at hl 1 rfl) ?_
        refine lv_iload_n hx hb d_En_brief_16 rfl (lv_at hl 2 rfl) ?_
        have hu_22 : k < nA κ := (by omega)
        refine zaald hx hb B 1 2 (wa_1 κ (zi τ 4 k (-1))) rfl k rfl hu_22 (by omega) rfl d_En_brief_17 ?_
        refine lv_iconst (v := 0) hx hb d_En_brief_18 (by decide) ?_
        refine zput (ci := 0) (v := .int (0)) (ty := .int) (C := "UnitThreads$Unit") (T := T_Un) (N := 8) hx hb hts in_Un ty_Un tyok_Un nm_Un hown B (43 + k) (wa_u κ (zi τ 4 k (-1)) hu_22) rfl 5 (by decide) (hts _ w_45) (fun _ h9 => h9) rfl (by decide +kernel) rfl rfl (Nat.le_of_ble_eq_true rfl) (wq_5 κ (zi τ 4 k (-1)) hu_22 0) d_En_brief_19 (fun H locs B => ?_)
        have B : BA κ A s.heap s (zi (zi τ 4 k (-1)) 5 k 0) H locs := B
        refine lv_aload_n hx hb d_En_brief_22 rfl (lv_at hl 1 rfl) ?_
        refine lv_iload_n hx hb d_En_brief_23 rfl (lv_at hl 2 rfl) ?_
        have hu_23 : k < nA κ := (by omega)
        refine zaald hx hb B 1 2 (wa_1 κ (zi (zi τ 4 k (-1)) 5 k 0)) rfl k rfl hu_23 (by omega) rfl d_En_brief_24 ?_
        refine lv_iconst (v := 0) hx hb d_En_brief_25 (by decide) ?_
        refine zput (ci := 0) (v := .int (0)) (ty := .int) (C := "UnitThreads$Unit") (T := T_Un) (N := 8) hx hb hts in_Un ty_Un tyok_Un nm_Un hown B (43 + k) (wa_u κ (zi (zi τ 4 k (-1)) 5 k 0) hu_23) rfl 6 (by decide) (hts _ w_47) (fun _ h9 => h9) rfl (by decide +kernel) rfl rfl (Nat.le_of_ble_eq_true rfl) (wq_6 κ (zi (zi τ 4 k (-1)) 5 k 0) hu_23 0) d_En_brief_26 (fun H locs B => ?_)
        have B : BA κ A s.heap s (zi (zi (zi τ 4 k (-1)) 5 k 0) 6 k 0) H locs := B
        refine lv_iinc (v := nI (k + 1)) (lv' := [(2, .int (nI (k + 1))), (0, .ref (aA κ 2)), (1, .ref (aA κ 1))]) hx hb d_En_brief_29 hl (k := 2) rfl (zinc _) (by decide) rfl (fun ls hl => ?_)
        refine lv_goto (tgt := 2) hx hb d_En_brief_32 (by decide) ?_
        exact ih (k + 1) (zi (zi (zi τ 4 k (-1)) 5 k 0) 6 k 0) (by omega) hst hE hU _ _ B ls (lv_sub hl [1, 2, 0] rfl)
  refine lv_iconst (v := nI 0) hx hb d_En_brief_0 (by decide) ?_
  refine lv_istore_n (lv' := [(2, .int (nI 0)), (0, .ref (aA κ 2)), (1, .ref (aA κ 1))]) hx hb d_En_brief_1 rfl hl (by decide) rfl (fun ls hl => ?_)
  exact L_2 (nA κ) 0 σ (by omega) rfl hE hU _ _ B ls (lv_sub hl [1, 2, 0] rfl)
set_option maxHeartbeats 4000000 in
set_option maxRecDepth 100000 in
theorem c_En_doSteps (l : Launch) (κ : KA) (σ : zS) (hn : nA κ ≤ 8) (E : Nat) (hE : σ.1 12 0 = nI E) (hE3 : E ≤ 300) (hU : ∀ e, e < E → zin (σ.1 9 e) (nA κ)) (hT : ∀ e, e < E → σ.1 8 e = 0 → zin (σ.1 11 e) (nA κ * 4)) : zMv l y_En_doSteps (zws y_En_doSteps prog_3_method_6_code 5 none) ({ frames := 0, cells := 0, slots := 0, locals := 0 }) κ.1 vwCl (tysA κ) nwA (wA κ) σ [.ref (aA κ 2), .ref (aA κ 1), .ref (aA κ 15)] (fun σ' => σ' = fx_doSteps E σ) := by
  refine zintro (cc := prog_3_method_6_code) (maxL := 5) (ret := none) (by decide) rfl (Nat.le_of_ble_eq_true rfl) ?_
  intro p e s m below meth c ls hx hb hr hml hts hown hlocks hl B
  have hl : lv_has ls 5 [(0, .ref (aA κ 2)), (1, .ref (aA κ 1)), (2, .ref (aA κ 15))] := hl
  have B : BA κ (va_A (wA κ σ) s.heap.size) s.heap s σ s.heap [] := B
  have hr : meth.sig.returnType = none := hr
  have hown : s.vm.findClass "UnitThreads$Entries" = some m.cls := hown
  show W p l e (headSpec (zws y_En_doSteps prog_3_method_6_code 5 none) ({ frames := 0, cells := 0, slots := 0, locals := 0 })).room s m [.ref (aA κ 2), .ref (aA κ 1), .ref (aA κ 15)].toArray below meth c s.heap [] 0 0 (MQ below (va_Qv (fun σ' => σ' = fx_doSteps E σ) (zQ κ.1 vwCl (tysA κ) (wA κ) (va_A (wA κ σ) s.heap.size)) (va_A (wA κ σ) s.heap.size)) [.ref (aA κ 2), .ref (aA κ 1), .ref (aA κ 15)].toArray s 0 0 (va_A (wA κ σ) s.heap.size)) (F0 m 0 ls [])
  generalize va_A (wA κ σ) s.heap.size = A at B ⊢
  have hts : ∀ w ∈ zW, w.before [.ref (aA κ 2), .ref (aA κ 1), .ref (aA κ 15)].toArray s = true := fun w h => hts w (List.mem_cons_of_mem _ h)
  have L_2 : ∀ (j : Nat) (k : Nat) (τ : zS), k + j = E → (fx_doSteps E σ = zit fx_steps1 j k τ) → (τ.1 12 0 = nI E) → (∀ e, e < E → zin (τ.1 9 e) (nA κ)) → (∀ e, e < E → τ.1 8 e = 0 → zin (τ.1 11 e) (nA κ * 4)) → ∀ (H : Heap) (locs : List Loc), BA κ A s.heap s τ H locs → ∀ (ls : Array Slot), lv_has ls 5 [(0, .ref (aA κ 2)), (1, .ref (aA κ 1)), (2, .ref (aA κ 15)), (3, .int (nI k))] → W p l e (headSpec (zws y_En_doSteps prog_3_method_6_code 5 none) ({ frames := 0, cells := 0, slots := 0, locals := 0 })).room s m [.ref (aA κ 2), .ref (aA κ 1), .ref (aA κ 15)].toArray below meth c H locs 0 0 (MQ below (va_Qv (fun σ' => σ' = fx_doSteps E σ) (zQ κ.1 vwCl (tysA κ) (wA κ) A) A) [.ref (aA κ 2), .ref (aA κ 1), .ref (aA κ 15)].toArray s 0 0 A) (F0 m 2 ls []) := by
    intro j
    induction j with
    | zero =>
      intro k τ hj hst hE hU hT H locs B ls hl
      refine lv_iload_n hx hb d_En_doSteps_2 rfl (lv_at hl 3 rfl) ?_
      refine lv_aload_n hx hb d_En_doSteps_3 rfl (lv_at hl 0 rfl) ?_
      refine va_get (D := κ.1) (ci := 1) (v := .int (τ.1 12 0)) (C := "UnitThreads$Entries") (T := T_En) (N := 6) hx hb hts in_En hown B.1 B.2.1 2 (wa_2 κ τ) rfl 5 (by decide) (hts _ w_79) (fun _ h9 => h9) rfl d_En_doSteps_4 ?_
      refine zrwi (y := nI E) (hE) ?_
      refine lv_icmp_ge (tgt := 71) hx hb d_En_doSteps_7 (by decide) (fun c_1 => ?_) (fun c_1 => ?_)
      · have c_1 := (nI_leI (a := E) (b := k) (by omega) (by omega)).mp c_1
        exact zret_v hx hb hr hlocks B (hst.symm) d_En_doSteps_71
      · have c_1 := (not_congr (nI_leI (a := E) (b := k) (by omega) (by omega))).mp c_1
        exact absurd c_1 (by omega)
    | succ j ih =>
      intro k τ hj hst hE hU hT H locs B ls hl
      refine lv_iload_n hx hb d_En_doSteps_2 rfl (lv_at hl 3 rfl) ?_
      refine lv_aload_n hx hb d_En_doSteps_3 rfl (lv_at hl 0 rfl) ?_
      refine va_get (D := κ.1) (ci := 1) (v := .int (τ.1 12 0)) (C := "UnitThreads$Entries") (T := T_En) (N := 6) hx hb hts in_En hown B.1 B.2.1 2 (wa_2 κ τ) rfl 5 (by decide) (hts _ w_79) (fun _ h9 => h9) rfl d_En_doSteps_4 ?_
      refine zrwi (y := nI E) (hE) ?_
      refine lv_icmp_ge (tgt := 71) hx hb d_En_doSteps_7 (by decide) (fun c_2 => ?_) (fun c_2 => ?_)
      · have c_2 := (nI_leI (a := E) (b := k) (by omega) (by omega)).mp c_2
        exact absurd c_2 (by omega)
      · have c_2 := (not_congr (nI_leI (a := E) (b := k) (by omega) (by omega))).mp c_2
        refine lv_aload_n hx hb d_En_doSteps_10 rfl (lv_at hl 1 rfl) ?_
        refine lv_aload_n hx hb d_En_doSteps_11 rfl (lv_at hl 0 rfl) ?_
        refine va_get (D := κ.1) (ci := 1) (v := .ref (aA κ 4)) (C := "UnitThreads$Entries") (T := T_En) (N := 6) hx hb hts in_En hown B.1 B.2.1 2 (wa_2 κ τ) rfl 1 (by decide) (hts _ w_75) (fun _ h9 => h9) rfl d_En_doSteps_12 ?_
        refine lv_iload_n hx hb d_En_doSteps_15 rfl (lv_at hl 3 rfl) ?_
        refine ziald hx hb B 4 0 (wa_4 κ τ) rfl k rfl (by omega) (by decide) d_En_doSteps_16 ?_
        have hu_3 : tn (τ.1 9 k) < nA κ := (hU k (by omega)).2
        refine zaald hx hb B 1 2 (wa_1 κ τ) rfl (tn (τ.1 9 k)) ((hU k (by omega)).1) hu_3 (by omega) rfl d_En_doSteps_17 ?_
        refine lv_astore (lv' := [(4, .ref (aA κ (64 + (tn (τ.1 9 k))))), (0, .ref (aA κ 2)), (1, .ref (aA κ 1)), (2, .ref (aA κ 15)), (3, .int (nI k))]) hx hb d_En_doSteps_18 hl (by decide) rfl (fun ls hl => ?_)
        refine lv_aload_n hx hb d_En_doSteps_20 rfl (lv_at hl 1 rfl) ?_
        refine va_get (D := κ.1) (ci := 1) (v := .ref (aA κ 3)) (C := "UnitThreads$Entries") (T := T_En) (N := 6) hx hb hts in_En hown B.1 B.2.1 2 (wa_2 κ τ) rfl 0 (by decide) (hts _ w_74) (fun _ h9 => h9) rfl d_En_doSteps_21 ?_
        refine lv_iload_n hx hb d_En_doSteps_24 rfl (lv_at hl 4 rfl) ?_
        refine ziald hx hb B 3 0 (wa_3 κ τ) rfl k rfl (by omega) (by decide) d_En_doSteps_25 ?_
        refine lv_if_ne (tgt := 65) hx hb d_En_doSteps_26 (by decide) (fun c_4 => ?_) (fun c_4 => ?_)
        · refine lv_iinc (v := nI (k + 1)) (lv' := [(3, .int (nI (k + 1))), (4, .ref (aA κ (64 + (tn (τ.1 9 k))))), (0, .ref (aA κ 2)), (1, .ref (aA κ 1)), (2, .ref (aA κ 15))]) hx hb d_En_doSteps_65 hl (k := 4) rfl (zinc _) (by decide) rfl (fun ls hl => ?_)
          refine lv_goto (tgt := 2) hx hb d_En_doSteps_68 (by decide) ?_
          exact ih (k + 1) τ (by omega) (by rw [hst]; simp [zit, fx_steps1, c_2, c_4]) hE hU hT _ _ B ls (lv_sub hl [2, 3, 4, 0] rfl)
        · refine lv_aload hx hb d_En_doSteps_29 (lv_at hl 0 rfl) ?_
          refine va_get (D := κ.1) (ci := 0) (v := .int (τ.1 7 (tn (τ.1 9 k)))) (C := "UnitThreads$Unit") (T := T_Un) (N := 8) hx hb hts in_Un hown B.1 B.2.1 (43 + (tn (τ.1 9 k))) (wa_u κ τ hu_3) rfl 7 (by decide) (hts _ w_49) (fun _ h9 => h9) rfl d_En_doSteps_31 ?_
          refine lv_if_ne (tgt := 65) hx hb d_En_doSteps_34 (by decide) (fun c_5 => ?_) (fun c_5 => ?_)
          · refine lv_iinc (v := nI (k + 1)) (lv' := [(3, .int (nI (k + 1))), (4, .ref (aA κ (64 + (tn (τ.1 9 k))))), (0, .ref (aA κ 2)), (1, .ref (aA κ 1)), (2, .ref (aA κ 15))]) hx hb d_En_doSteps_65 hl (k := 4) rfl (zinc _) (by decide) rfl (fun ls hl => ?_)
            refine lv_goto (tgt := 2) hx hb d_En_doSteps_68 (by decide) ?_
            exact ih (k + 1) τ (by omega) (by rw [hst]; simp [zit, fx_steps1, c_2, c_4, c_5]) hE hU hT _ _ B ls (lv_sub hl [2, 3, 4, 0] rfl)
          · refine lv_aload_n hx hb d_En_doSteps_37 rfl (lv_at hl 1 rfl) ?_
            refine va_get (D := κ.1) (ci := 1) (v := .ref (aA κ 5)) (C := "UnitThreads$Entries") (T := T_En) (N := 6) hx hb hts in_En hown B.1 B.2.1 2 (wa_2 κ τ) rfl 2 (by decide) (hts _ w_76) (fun _ h9 => h9) rfl d_En_doSteps_38 ?_
            refine lv_iload_n hx hb d_En_doSteps_41 rfl (lv_at hl 4 rfl) ?_
            refine ziald hx hb B 5 0 (wa_5 κ τ) rfl k rfl (by omega) (by decide) d_En_doSteps_42 ?_
            refine lv_aload hx hb d_En_doSteps_43 (lv_at hl 0 rfl) ?_
            refine va_get (D := κ.1) (ci := 0) (v := .int (τ.1 0 (tn (τ.1 9 k)))) (C := "UnitThreads$Unit") (T := T_Un) (N := 8) hx hb hts in_Un hown B.1 B.2.1 (43 + (tn (τ.1 9 k))) (wa_u κ τ hu_3) rfl 0 (by decide) (hts _ w_33) (fun _ h9 => h9) rfl d_En_doSteps_45 ?_
            refine lv_icmp_ne (tgt := 65) hx hb d_En_doSteps_48 (by decide) (fun c_6 => ?_) (fun c_6 => ?_)
            · refine lv_iinc (v := nI (k + 1)) (lv' := [(3, .int (nI (k + 1))), (4, .ref (aA κ (64 + (tn (τ.1 9 k))))), (0, .ref (aA κ 2)), (1, .ref (aA κ 1)), (2, .ref (aA κ 15))]) hx hb d_En_doSteps_65 hl (k := 4) rfl (zinc _) (by decide) rfl (fun ls hl => ?_)
              refine lv_goto (tgt := 2) hx hb d_En_doSteps_68 (by decide) ?_
              exact ih (k + 1) τ (by omega) (by rw [hst]; simp [zit, fx_steps1, c_2, c_4, c_5, c_6]) hE hU hT _ _ B ls (lv_sub hl [2, 3, 4, 0] rfl)
            · refine lv_aload_n hx hb d_En_doSteps_51 rfl (lv_at hl 3 rfl) ?_
              refine lv_aload_n hx hb d_En_doSteps_52 rfl (lv_at hl 1 rfl) ?_
              refine va_get (D := κ.1) (ci := 1) (v := .ref (aA κ 6)) (C := "UnitThreads$Entries") (T := T_En) (N := 6) hx hb hts in_En hown B.1 B.2.1 2 (wa_2 κ τ) rfl 3 (by decide) (hts _ w_77) (fun _ h9 => h9) rfl d_En_doSteps_53 ?_
              refine lv_iload_n hx hb d_En_doSteps_56 rfl (lv_at hl 4 rfl) ?_
              refine ziald hx hb B 6 0 (wa_6 κ τ) rfl k rfl (by omega) (by decide) d_En_doSteps_57 ?_
              refine lv_aload_n hx hb d_En_doSteps_58 rfl (lv_at hl 1 rfl) ?_
              refine va_get (D := κ.1) (ci := 1) (v := .ref (aA κ 7)) (C := "UnitThreads$Entries") (T := T_En) (N := 6) hx hb hts in_En hown B.1 B.2.1 2 (wa_2 κ τ) rfl 4 (by decide) (hts _ w_78) (fun _ h9 => h9) rfl d_En_doSteps_59 ?_
              refine lv_iload_n hx hb d_En_doSteps_62 rfl (lv_at hl 4 rfl) ?_
              refine zlald hx hb B 7 1 (wa_7 κ τ) rfl k rfl (by omega) (by decide) d_En_doSteps_63 ?_
              refine zlast hx hb B 15 1 (wa_15 κ τ) rfl (tn (τ.1 11 k)) ((hT k (by omega) c_4).1) ((hT k (by omega) c_4).2) (by omega) (ws_15 κ τ (tn (τ.1 11 k)) (τ.2 0 k)) d_En_doSteps_64 (fun H locs B => ?_)
              have B : BA κ A s.heap s (zl τ 2 (tn (τ.1 11 k)) (τ.2 0 k)) H locs := B
              refine lv_iinc (v := nI (k + 1)) (lv' := [(3, .int (nI (k + 1))), (4, .ref (aA κ (64 + (tn (τ.1 9 k))))), (0, .ref (aA κ 2)), (1, .ref (aA κ 1)), (2, .ref (aA κ 15))]) hx hb d_En_doSteps_65 hl (k := 4) rfl (zinc _) (by decide) rfl (fun ls hl => ?_)
              refine lv_goto (tgt := 2) hx hb d_En_doSteps_68 (by decide) ?_
              exact ih (k + 1) (zl τ 2 (tn (τ.1 11 k)) (τ.2 0 k)) (by omega) (by rw [hst]; simp [zit, fx_steps1, c_2, c_4, c_5, c_6]) hE hU hT _ _ B ls (lv_sub hl [2, 3, 4, 0] rfl)
  refine lv_iconst (v := nI 0) hx hb d_En_doSteps_0 (by decide) ?_
  refine lv_istore_n (lv' := [(3, .int (nI 0)), (0, .ref (aA κ 2)), (1, .ref (aA κ 1)), (2, .ref (aA κ 15))]) hx hb d_En_doSteps_1 rfl hl (by decide) rfl (fun ls hl => ?_)
  exact L_2 E 0 σ (by omega) rfl hE hU hT _ _ B ls (lv_sub hl [1, 2, 3, 0] rfl)
