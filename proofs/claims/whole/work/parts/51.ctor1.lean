set_option maxHeartbeats 4000000 in
set_option maxRecDepth 100000 in
/-- Unit(): the fields -/
theorem c_Un_init (l : Launch) (κ : KA) (h : Nat)  : zMc (S := Unit) l y_Un_init (zws y_Un_init prog_6_method_1_code 1 none) ({ frames := 1, cells := 0, slots := 0, locals := 21 }) κ.1 vwCl (tysA κ) [] [(h, .inr (0, [.int 0, .int 0, .int 0, .int 0, .int 0, .int 0, .int 0, .int 0]))] [.ref h] (fun _ => True) (fun _ => [(h, .inr (0, [.int 0, .int (-1), .int 0, .int (-1), .int (-1), .int 0, .int 0, .int (-1)]))]) 0 0 := by
  refine zintroC (cc := prog_6_method_1_code) (maxL := 1) (ret := none) (by decide) rfl (Nat.le_of_ble_eq_true rfl) ?_
  intro p e s m below meth c ls hx hb hr hml hts hown hlocks hin hl B
  have hl : lv_has ls 1 [(0, .ref h)] := hl
  have hr : meth.sig.returnType = none := hr
  have hin : meth.name = "<init>" := hin
  have hown : s.vm.findClass "UnitThreads$Unit" = some m.cls := hown
  have hts : ∀ w ∈ zW, w.before [.ref h].toArray s = true := fun w h => hts w (List.mem_cons_of_mem _ h)
  generalize va_A [(h, .inr (0, [.int 0, .int 0, .int 0, .int 0, .int 0, .int 0, .int 0, .int 0]))] s.heap.size = A at B ⊢
  have B : zB κ.1 vwCl (tysA κ) [] (zk ([(h, .inr (0, [.int 0, .int 0, .int 0, .int 0, .int 0, .int 0, .int 0, .int 0]))] ++ [])) A s.heap s zz s.heap [] := B
  refine lv_aload_n hx hb d_Un_init_0 rfl (lv_at hl 0 rfl) ?_
  refine W.objInit hx hb hown (hts _ w_31) (hts _ w_17) (hts _ w_18) rfl (by rw [hml]; exact hl.1) rfl d_Un_init_1 (Nat.le_of_ble_eq_true rfl) (Nat.le_of_ble_eq_true rfl) ?_
  refine W.eq (g2 := F0 m 4 ls []) rfl ?_
  refine lv_aload_n hx hb d_Un_init_4 rfl (lv_at hl 0 rfl) ?_
  refine lv_iconst (v := 0) hx hb d_Un_init_5 (by decide) ?_
  refine zcput (pl := []) (C := "UnitThreads$Unit") (T := T_Un) (N := 8) (ty := .int) hx hb hts in_Un ty_Un tyok_Un nm_Un hown B rfl 0 (by decide) (hts _ w_32) (fun _ h9 => h9) rfl (by decide +kernel) rfl rfl (Nat.le_of_ble_eq_true rfl) d_Un_init_6 (fun H locs B => ?_)
  have B : zB κ.1 vwCl (tysA κ) [] (zk ([(h, .inr (0, [.int 0, .int 0, .int 0, .int 0, .int 0, .int 0, .int 0, .int 0]))] ++ [])) A s.heap s zz H locs := B
  refine lv_aload_n hx hb d_Un_init_9 rfl (lv_at hl 0 rfl) ?_
  refine lv_iconst (v := -1) hx hb d_Un_init_10 (by decide) ?_
  refine zcput (pl := []) (C := "UnitThreads$Unit") (T := T_Un) (N := 8) (ty := .int) hx hb hts in_Un ty_Un tyok_Un nm_Un hown B rfl 1 (by decide) (hts _ w_35) (fun _ h9 => h9) rfl (by decide +kernel) rfl rfl (Nat.le_of_ble_eq_true rfl) d_Un_init_11 (fun H locs B => ?_)
  have B : zB κ.1 vwCl (tysA κ) [] (zk ([(h, .inr (0, [.int 0, .int (-1), .int 0, .int 0, .int 0, .int 0, .int 0, .int 0]))] ++ [])) A s.heap s zz H locs := B
  refine lv_aload_n hx hb d_Un_init_14 rfl (lv_at hl 0 rfl) ?_
  refine lv_iconst (v := 0) hx hb d_Un_init_15 (by decide) ?_
  refine zcput (pl := []) (C := "UnitThreads$Unit") (T := T_Un) (N := 8) (ty := .int) hx hb hts in_Un ty_Un tyok_Un nm_Un hown B rfl 2 (by decide) (hts _ w_37) (fun _ h9 => h9) rfl (by decide +kernel) rfl rfl (Nat.le_of_ble_eq_true rfl) d_Un_init_16 (fun H locs B => ?_)
  have B : zB κ.1 vwCl (tysA κ) [] (zk ([(h, .inr (0, [.int 0, .int (-1), .int 0, .int 0, .int 0, .int 0, .int 0, .int 0]))] ++ [])) A s.heap s zz H locs := B
  refine lv_aload_n hx hb d_Un_init_19 rfl (lv_at hl 0 rfl) ?_
  refine lv_iconst (v := -1) hx hb d_Un_init_20 (by decide) ?_
  refine zcput (pl := []) (C := "UnitThreads$Unit") (T := T_Un) (N := 8) (ty := .int) hx hb hts in_Un ty_Un tyok_Un nm_Un hown B rfl 3 (by decide) (hts _ w_39) (fun _ h9 => h9) rfl (by decide +kernel) rfl rfl (Nat.le_of_ble_eq_true rfl) d_Un_init_21 (fun H locs B => ?_)
  have B : zB κ.1 vwCl (tysA κ) [] (zk ([(h, .inr (0, [.int 0, .int (-1), .int 0, .int (-1), .int 0, .int 0, .int 0, .int 0]))] ++ [])) A s.heap s zz H locs := B
  refine lv_aload_n hx hb d_Un_init_24 rfl (lv_at hl 0 rfl) ?_
  refine lv_iconst (v := -1) hx hb d_Un_init_25 (by decide) ?_
  refine zcput (pl := []) (C := "UnitThreads$Unit") (T := T_Un) (N := 8) (ty := .int) hx hb hts in_Un ty_Un tyok_Un nm_Un hown B rfl 4 (by decide) (hts _ w_41) (fun _ h9 => h9) rfl (by decide +kernel) rfl rfl (Nat.le_of_ble_eq_true rfl) d_Un_init_26 (fun H locs B => ?_)
  have B : zB κ.1 vwCl (tysA κ) [] (zk ([(h, .inr (0, [.int 0, .int (-1), .int 0, .int (-1), .int (-1), .int 0, .int 0, .int 0]))] ++ [])) A s.heap s zz H locs := B
  refine lv_aload_n hx hb d_Un_init_29 rfl (lv_at hl 0 rfl) ?_
  refine lv_iconst (v := 0) hx hb d_Un_init_30 (by decide) ?_
  refine zcput (pl := []) (C := "UnitThreads$Unit") (T := T_Un) (N := 8) (ty := .int) hx hb hts in_Un ty_Un tyok_Un nm_Un hown B rfl 5 (by decide) (hts _ w_44) (fun _ h9 => h9) rfl (by decide +kernel) rfl rfl (Nat.le_of_ble_eq_true rfl) d_Un_init_31 (fun H locs B => ?_)
  have B : zB κ.1 vwCl (tysA κ) [] (zk ([(h, .inr (0, [.int 0, .int (-1), .int 0, .int (-1), .int (-1), .int 0, .int 0, .int 0]))] ++ [])) A s.heap s zz H locs := B
  refine lv_aload_n hx hb d_Un_init_34 rfl (lv_at hl 0 rfl) ?_
  refine lv_iconst (v := 0) hx hb d_Un_init_35 (by decide) ?_
  refine zcput (pl := []) (C := "UnitThreads$Unit") (T := T_Un) (N := 8) (ty := .int) hx hb hts in_Un ty_Un tyok_Un nm_Un hown B rfl 6 (by decide) (hts _ w_46) (fun _ h9 => h9) rfl (by decide +kernel) rfl rfl (Nat.le_of_ble_eq_true rfl) d_Un_init_36 (fun H locs B => ?_)
  have B : zB κ.1 vwCl (tysA κ) [] (zk ([(h, .inr (0, [.int 0, .int (-1), .int 0, .int (-1), .int (-1), .int 0, .int 0, .int 0]))] ++ [])) A s.heap s zz H locs := B
  refine lv_aload_n hx hb d_Un_init_39 rfl (lv_at hl 0 rfl) ?_
  refine lv_iconst (v := -1) hx hb d_Un_init_40 (by decide) ?_
  refine zcput (pl := []) (C := "UnitThreads$Unit") (T := T_Un) (N := 8) (ty := .int) hx hb hts in_Un ty_Un tyok_Un nm_Un hown B rfl 7 (by decide) (hts _ w_48) (fun _ h9 => h9) rfl (by decide +kernel) rfl rfl (Nat.le_of_ble_eq_true rfl) d_Un_init_41 (fun H locs B => ?_)
  have B : zB κ.1 vwCl (tysA κ) [] (zk ([(h, .inr (0, [.int 0, .int (-1), .int 0, .int (-1), .int (-1), .int 0, .int 0, .int (-1)]))] ++ [])) A s.heap s zz H locs := B
  exact zretC hx hb hr hlocks () trivial B d_Un_init_44
set_option maxHeartbeats 4000000 in
set_option maxRecDepth 100000 in
/-- Entries(): five arrays -/
theorem c_En_init (l : Launch) (κ : KA) (h : Nat)  : zMc (S := Nat → Nat) l y_En_init (zws y_En_init prog_3_method_1_code 1 none) ({ frames := 1, cells := 5, slots := 1500, locals := 21 }) κ.1 vwCl (tysA κ) [] [(h, .inr (1, [.null, .null, .null, .null, .null, .int 0]))] [.ref h] (fun _ => True) (fun u => [(h, .inr (1, [.ref (u 0), .ref (u 1), .ref (u 2), .ref (u 3), .ref (u 4), .int 0])), (u 0, .inl (cI κ, 300, .inl (fun _ => 0))), (u 1, .inl (cI κ, 300, .inl (fun _ => 0))), (u 2, .inl (cI κ, 300, .inl (fun _ => 0))), (u 3, .inl (cI κ, 300, .inl (fun _ => 0))), (u 4, .inl (cJ κ, 300, .inr (.inl (fun _ => 0))))]) 5 1500 := by
  refine zintroC (cc := prog_3_method_1_code) (maxL := 1) (ret := none) (by decide) rfl (Nat.le_of_ble_eq_true rfl) ?_
  intro p e s m below meth c ls hx hb hr hml hts hown hlocks hin hl B
  have hl : lv_has ls 1 [(0, .ref h)] := hl
  have hr : meth.sig.returnType = none := hr
  have hin : meth.name = "<init>" := hin
  have hown : s.vm.findClass "UnitThreads$Entries" = some m.cls := hown
  have hts : ∀ w ∈ zW, w.before [.ref h].toArray s = true := fun w h => hts w (List.mem_cons_of_mem _ h)
  generalize va_A [(h, .inr (1, [.null, .null, .null, .null, .null, .int 0]))] s.heap.size = A at B ⊢
  have B : zB κ.1 vwCl (tysA κ) [] (zk ([(h, .inr (1, [.null, .null, .null, .null, .null, .int 0]))] ++ [])) A s.heap s zz s.heap [] := B
  refine lv_aload_n hx hb d_En_init_0 rfl (lv_at hl 0 rfl) ?_
  refine W.objInit hx hb hown (hts _ w_73) (hts _ w_17) (hts _ w_18) rfl (by rw [hml]; exact hl.1) rfl d_En_init_1 (Nat.le_of_ble_eq_true rfl) (Nat.le_of_ble_eq_true rfl) ?_
  refine W.eq (g2 := F0 m 4 ls []) rfl ?_
  refine lv_aload_n hx hb d_En_init_4 rfl (lv_at hl 0 rfl) ?_
  refine lv_sipush (v := nI 300) hx hb d_En_init_5 (by decide) ?_
  refine zcnaF (pl := []) (C := "UnitThreads$Entries") (T := T_En) (N := 6) (atype := .int) (ty := .int) (tyf := (.array .int)) hx hb (hts _ w_94) rfl 0 rfl B (300) (a0 := (300, .inl (fun _ => 0))) (fun _ => rfl) rfl (by decide) (by decide) (Nat.le_of_ble_eq_true rfl) (Nat.le_of_ble_eq_true rfl) d_En_init_8 hts in_En ty_En tyok_En nm_En hown rfl 0 (by decide) (hts _ w_74) (fun _ h9 => h9) rfl hin rfl (by decide +kernel) (fun _ => rfl) (fun _ => rfl) (Nat.le_of_ble_eq_true rfl) d_En_init_10 (fun q1 H locs B => ?_)
  have B : zB κ.1 vwCl (tysA κ) [] (zk ([(h, .inr (1, [.ref q1, .null, .null, .null, .null, .int 0])), (q1, .inl (cI κ, 300, .inl (fun _ => 0)))] ++ [])) A s.heap s zz H locs := B
  refine W.widen (k := 1) (n := 300) (by omega) (by omega) ?_
  refine lv_aload_n hx hb d_En_init_13 rfl (lv_at hl 0 rfl) ?_
  refine lv_sipush (v := nI 300) hx hb d_En_init_14 (by decide) ?_
  refine zcnaF (pl := []) (C := "UnitThreads$Entries") (T := T_En) (N := 6) (atype := .int) (ty := .int) (tyf := (.array .int)) hx hb (hts _ w_94) rfl 0 rfl B (300) (a0 := (300, .inl (fun _ => 0))) (fun _ => rfl) rfl (by decide) (by decide) (Nat.le_of_ble_eq_true rfl) (Nat.le_of_ble_eq_true rfl) d_En_init_17 hts in_En ty_En tyok_En nm_En hown rfl 1 (by decide) (hts _ w_75) (fun _ h9 => h9) rfl hin rfl (by decide +kernel) (fun _ => rfl) (fun _ => rfl) (Nat.le_of_ble_eq_true rfl) d_En_init_19 (fun q2 H locs B => ?_)
  have B : zB κ.1 vwCl (tysA κ) [] (zk ([(h, .inr (1, [.ref q1, .ref q2, .null, .null, .null, .int 0])), (q1, .inl (cI κ, 300, .inl (fun _ => 0))), (q2, .inl (cI κ, 300, .inl (fun _ => 0)))] ++ [])) A s.heap s zz H locs := B
  refine W.widen (k := 2) (n := 600) (by omega) (by omega) ?_
  refine lv_aload_n hx hb d_En_init_22 rfl (lv_at hl 0 rfl) ?_
  refine lv_sipush (v := nI 300) hx hb d_En_init_23 (by decide) ?_
  refine zcnaF (pl := []) (C := "UnitThreads$Entries") (T := T_En) (N := 6) (atype := .int) (ty := .int) (tyf := (.array .int)) hx hb (hts _ w_94) rfl 0 rfl B (300) (a0 := (300, .inl (fun _ => 0))) (fun _ => rfl) rfl (by decide) (by decide) (Nat.le_of_ble_eq_true rfl) (Nat.le_of_ble_eq_true rfl) d_En_init_26 hts in_En ty_En tyok_En nm_En hown rfl 2 (by decide) (hts _ w_76) (fun _ h9 => h9) rfl hin rfl (by decide +kernel) (fun _ => rfl) (fun _ => rfl) (Nat.le_of_ble_eq_true rfl) d_En_init_28 (fun q3 H locs B => ?_)
  have B : zB κ.1 vwCl (tysA κ) [] (zk ([(h, .inr (1, [.ref q1, .ref q2, .ref q3, .null, .null, .int 0])), (q1, .inl (cI κ, 300, .inl (fun _ => 0))), (q2, .inl (cI κ, 300, .inl (fun _ => 0))), (q3, .inl (cI κ, 300, .inl (fun _ => 0)))] ++ [])) A s.heap s zz H locs := B
  refine W.widen (k := 3) (n := 900) (by omega) (by omega) ?_
  refine lv_aload_n hx hb d_En_init_31 rfl (lv_at hl 0 rfl) ?_
  refine lv_sipush (v := nI 300) hx hb d_En_init_32 (by decide) ?_
  refine zcnaF (pl := []) (C := "UnitThreads$Entries") (T := T_En) (N := 6) (atype := .int) (ty := .int) (tyf := (.array .int)) hx hb (hts _ w_94) rfl 0 rfl B (300) (a0 := (300, .inl (fun _ => 0))) (fun _ => rfl) rfl (by decide) (by decide) (Nat.le_of_ble_eq_true rfl) (Nat.le_of_ble_eq_true rfl) d_En_init_35 hts in_En ty_En tyok_En nm_En hown rfl 3 (by decide) (hts _ w_77) (fun _ h9 => h9) rfl hin rfl (by decide +kernel) (fun _ => rfl) (fun _ => rfl) (Nat.le_of_ble_eq_true rfl) d_En_init_37 (fun q4 H locs B => ?_)
  have B : zB κ.1 vwCl (tysA κ) [] (zk ([(h, .inr (1, [.ref q1, .ref q2, .ref q3, .ref q4, .null, .int 0])), (q1, .inl (cI κ, 300, .inl (fun _ => 0))), (q2, .inl (cI κ, 300, .inl (fun _ => 0))), (q3, .inl (cI κ, 300, .inl (fun _ => 0))), (q4, .inl (cI κ, 300, .inl (fun _ => 0)))] ++ [])) A s.heap s zz H locs := B
  refine W.widen (k := 4) (n := 1200) (by omega) (by omega) ?_
  refine lv_aload_n hx hb d_En_init_40 rfl (lv_at hl 0 rfl) ?_
  refine lv_sipush (v := nI 300) hx hb d_En_init_41 (by decide) ?_
  refine zcnaF (pl := []) (C := "UnitThreads$Entries") (T := T_En) (N := 6) (atype := .long) (ty := .long) (tyf := (.array .long)) hx hb (hts _ w_95) rfl 1 rfl B (300) (a0 := (300, .inr (.inl (fun _ => 0)))) (fun _ => rfl) rfl (by decide) (by decide) (Nat.le_of_ble_eq_true rfl) (Nat.le_of_ble_eq_true rfl) d_En_init_44 hts in_En ty_En tyok_En nm_En hown rfl 4 (by decide) (hts _ w_78) (fun _ h9 => h9) rfl hin rfl (by decide +kernel) (fun _ => rfl) (fun _ => rfl) (Nat.le_of_ble_eq_true rfl) d_En_init_46 (fun q5 H locs B => ?_)
  have B : zB κ.1 vwCl (tysA κ) [] (zk ([(h, .inr (1, [.ref q1, .ref q2, .ref q3, .ref q4, .ref q5, .int 0])), (q1, .inl (cI κ, 300, .inl (fun _ => 0))), (q2, .inl (cI κ, 300, .inl (fun _ => 0))), (q3, .inl (cI κ, 300, .inl (fun _ => 0))), (q4, .inl (cI κ, 300, .inl (fun _ => 0))), (q5, .inl (cJ κ, 300, .inr (.inl (fun _ => 0))))] ++ [])) A s.heap s zz H locs := B
  refine W.widen (k := 5) (n := 1500) (by omega) (by omega) ?_
  refine lv_aload_n hx hb d_En_init_49 rfl (lv_at hl 0 rfl) ?_
  refine lv_iconst (v := 0) hx hb d_En_init_50 (by decide) ?_
  refine zcput (pl := []) (C := "UnitThreads$Entries") (T := T_En) (N := 6) (ty := .int) hx hb hts in_En ty_En tyok_En nm_En hown B rfl 5 (by decide) (hts _ w_79) (fun _ h9 => h9) rfl (by decide +kernel) rfl rfl (Nat.le_of_ble_eq_true rfl) d_En_init_51 (fun H locs B => ?_)
  have B : zB κ.1 vwCl (tysA κ) [] (zk ([(h, .inr (1, [.ref q1, .ref q2, .ref q3, .ref q4, .ref q5, .int 0])), (q1, .inl (cI κ, 300, .inl (fun _ => 0))), (q2, .inl (cI κ, 300, .inl (fun _ => 0))), (q3, .inl (cI κ, 300, .inl (fun _ => 0))), (q4, .inl (cI κ, 300, .inl (fun _ => 0))), (q5, .inl (cJ κ, 300, .inr (.inl (fun _ => 0))))] ++ [])) A s.heap s zz H locs := B
  exact zretC hx hb hr hlocks (fun i => match i with | 0 => q1 | 1 => q2 | 2 => q3 | 3 => q4 | _ => q5) trivial B d_En_init_54
set_option maxHeartbeats 4000000 in
set_option maxRecDepth 100000 in
/-- Order(size) -/
theorem c_Or_init (l : Launch) (κ : KA) (h : Nat) (hn : nA κ ≤ 8) : zMc (S := Nat) l y_Or_init (zws y_Or_init prog_4_method_1_code 2 none) ({ frames := 1, cells := 1, slots := 8, locals := 21 }) κ.1 vwCl (tysA κ) [] [(h, .inr (2, [.null, .int 0, .long 0]))] [.ref h, .int (nI (nA κ))] (fun _ => True) (fun u => [(h, .inr (2, [.ref u, .int 0, .long 0])), (u, .inl (cI κ, nA κ, .inl (fun _ => 0)))]) 1 8 := by
  refine zintroC (cc := prog_4_method_1_code) (maxL := 2) (ret := none) (by decide) rfl (Nat.le_of_ble_eq_true rfl) ?_
  intro p e s m below meth c ls hx hb hr hml hts hown hlocks hin hl B
  have hl : lv_has ls 2 [(0, .ref h), (1, .int (nI (nA κ)))] := hl
  have hr : meth.sig.returnType = none := hr
  have hin : meth.name = "<init>" := hin
  have hown : s.vm.findClass "UnitThreads$Order" = some m.cls := hown
  have hts : ∀ w ∈ zW, w.before [.ref h, .int (nI (nA κ))].toArray s = true := fun w h => hts w (List.mem_cons_of_mem _ h)
  generalize va_A [(h, .inr (2, [.null, .int 0, .long 0]))] s.heap.size = A at B ⊢
  have B : zB κ.1 vwCl (tysA κ) [] (zk ([(h, .inr (2, [.null, .int 0, .long 0]))] ++ [])) A s.heap s zz s.heap [] := B
  refine lv_aload_n hx hb d_Or_init_0 rfl (lv_at hl 0 rfl) ?_
  refine W.objInit hx hb hown (hts _ w_101) (hts _ w_17) (hts _ w_18) rfl (by rw [hml]; exact hl.1) rfl d_Or_init_1 (Nat.le_of_ble_eq_true rfl) (Nat.le_of_ble_eq_true rfl) ?_
  refine W.eq (g2 := F0 m 4 ls []) rfl ?_
  refine lv_aload_n hx hb d_Or_init_4 rfl (lv_at hl 0 rfl) ?_
  refine lv_iconst (v := 0) hx hb d_Or_init_5 (by decide) ?_
  refine zcput (pl := []) (C := "UnitThreads$Order") (T := T_Or) (N := 3) (ty := .int) hx hb hts in_Or ty_Or tyok_Or nm_Or hown B rfl 1 (by decide) (hts _ w_104) (fun _ h9 => h9) rfl (by decide +kernel) rfl rfl (Nat.le_of_ble_eq_true rfl) d_Or_init_6 (fun H locs B => ?_)
  have B : zB κ.1 vwCl (tysA κ) [] (zk ([(h, .inr (2, [.null, .int 0, .long 0]))] ++ [])) A s.heap s zz H locs := B
  refine lv_aload_n hx hb d_Or_init_9 rfl (lv_at hl 0 rfl) ?_
  refine lv_lconst (v := 0) hx hb d_Or_init_10 (by decide) ?_
  refine zcput (pl := []) (C := "UnitThreads$Order") (T := T_Or) (N := 3) (ty := .long) hx hb hts in_Or ty_Or tyok_Or nm_Or hown B rfl 2 (by decide) (hts _ w_106) (fun _ h9 => h9) rfl (by decide +kernel) rfl rfl (Nat.le_of_ble_eq_true rfl) d_Or_init_11 (fun H locs B => ?_)
  have B : zB κ.1 vwCl (tysA κ) [] (zk ([(h, .inr (2, [.null, .int 0, .long 0]))] ++ [])) A s.heap s zz H locs := B
  refine lv_aload_n hx hb d_Or_init_14 rfl (lv_at hl 0 rfl) ?_
  refine lv_iload_n hx hb d_Or_init_15 rfl (lv_at hl 1 rfl) ?_
  refine zcnaF (pl := []) (C := "UnitThreads$Order") (T := T_Or) (N := 3) (atype := .int) (ty := .int) (tyf := (.array .int)) hx hb (hts _ w_94) rfl 0 rfl B (nA κ) (a0 := (nA κ, .inl (fun _ => 0))) (fun _ => rfl) rfl (by omega) (by show nA κ * 4 ≤ 536870912; omega) (Nat.le_of_ble_eq_true rfl) (by show 0 + nA κ ≤ 8; omega) d_Or_init_16 hts in_Or ty_Or tyok_Or nm_Or hown rfl 0 (by decide) (hts _ w_102) (fun _ h9 => h9) rfl hin rfl (by decide +kernel) (fun _ => rfl) (fun _ => rfl) (Nat.le_of_ble_eq_true rfl) d_Or_init_18 (fun q1 H locs B => ?_)
  have B : zB κ.1 vwCl (tysA κ) [] (zk ([(h, .inr (2, [.ref q1, .int 0, .long 0])), (q1, .inl (cI κ, nA κ, .inl (fun _ => 0)))] ++ [])) A s.heap s zz H locs := B
  refine W.widen (k := 1) (n := 8) (by omega) (by omega) ?_
  exact zretC hx hb hr hlocks q1 trivial B d_Or_init_21
set_option maxHeartbeats 4000000 in
set_option maxRecDepth 100000 in
/-- Turns(size) -/
theorem c_Tu_init (l : Launch) (κ : KA) (h : Nat) (hn : nA κ ≤ 8) : zMc (S := Nat → Nat) l y_Tu_init (zws y_Tu_init prog_5_method_1_code 3 none) ({ frames := 1, cells := 3, slots := 1536, locals := 21 }) κ.1 vwCl (tysA κ) [] [(h, .inr (3, [.null, .null, .null, .int 0]))] [.ref h, .int (nI (nA κ))] (fun _ => True) (fun u => [(h, .inr (3, [.ref (u 0), .ref (u 1), .ref (u 2), .int 0])), (u 0, .inl (cI κ, nA κ * 64, .inl (fun _ => 0))), (u 1, .inl (cI κ, nA κ * 64, .inl (fun _ => 0))), (u 2, .inl (cI κ, nA κ * 64, .inl (fun _ => 0)))]) 3 1536 := by
  refine zintroC (cc := prog_5_method_1_code) (maxL := 3) (ret := none) (by decide) rfl (Nat.le_of_ble_eq_true rfl) ?_
  intro p e s m below meth c ls hx hb hr hml hts hown hlocks hin hl B
  have hl : lv_has ls 3 [(0, .ref h), (1, .int (nI (nA κ)))] := hl
  have hr : meth.sig.returnType = none := hr
  have hin : meth.name = "<init>" := hin
  have hown : s.vm.findClass "UnitThreads$Turns" = some m.cls := hown
  have hts : ∀ w ∈ zW, w.before [.ref h, .int (nI (nA κ))].toArray s = true := fun w h => hts w (List.mem_cons_of_mem _ h)
  generalize va_A [(h, .inr (3, [.null, .null, .null, .int 0]))] s.heap.size = A at B ⊢
  have B : zB κ.1 vwCl (tysA κ) [] (zk ([(h, .inr (3, [.null, .null, .null, .int 0]))] ++ [])) A s.heap s zz s.heap [] := B
  refine lv_aload_n hx hb d_Tu_init_0 rfl (lv_at hl 0 rfl) ?_
  refine W.objInit hx hb hown (hts _ w_120) (hts _ w_17) (hts _ w_18) rfl (by rw [hml]; exact hl.1) rfl d_Tu_init_1 (Nat.le_of_ble_eq_true rfl) (Nat.le_of_ble_eq_true rfl) ?_
  refine W.eq (g2 := F0 m 4 ls []) rfl ?_
  refine lv_aload_n hx hb d_Tu_init_4 rfl (lv_at hl 0 rfl) ?_
  refine lv_iconst (v := 0) hx hb d_Tu_init_5 (by decide) ?_
  refine zcput (pl := []) (C := "UnitThreads$Turns") (T := T_Tu) (N := 4) (ty := .int) hx hb hts in_Tu ty_Tu tyok_Tu nm_Tu hown B rfl 3 (by decide) (hts _ w_124) (fun _ h9 => h9) rfl (by decide +kernel) rfl rfl (Nat.le_of_ble_eq_true rfl) d_Tu_init_6 (fun H locs B => ?_)
  have B : zB κ.1 vwCl (tysA κ) [] (zk ([(h, .inr (3, [.null, .null, .null, .int 0]))] ++ [])) A s.heap s zz H locs := B
  refine lv_iload_n hx hb d_Tu_init_9 rfl (lv_at hl 1 rfl) ?_
  refine lv_bipush (v := nI 64) hx hb d_Tu_init_10 (by decide) ?_
  refine lv_imul hx hb d_Tu_init_12 ?_
  refine zrwi (pk_mul (nA κ) 64) ?_
  refine lv_istore_n (lv' := [(2, .int (nI (nA κ * 64))), (0, .ref h), (1, .int (nI (nA κ)))]) hx hb d_Tu_init_13 rfl hl (by decide) rfl (fun ls hl => ?_)
  refine lv_aload_n hx hb d_Tu_init_14 rfl (lv_at hl 1 rfl) ?_
  refine lv_iload_n hx hb d_Tu_init_15 rfl (lv_at hl 0 rfl) ?_
  refine zcnaF (pl := []) (C := "UnitThreads$Turns") (T := T_Tu) (N := 4) (atype := .int) (ty := .int) (tyf := (.array .int)) hx hb (hts _ w_94) rfl 0 rfl B (nA κ * 64) (a0 := (nA κ * 64, .inl (fun _ => 0))) (fun _ => rfl) rfl (by omega) (by show nA κ * 64 * 4 ≤ 536870912; omega) (Nat.le_of_ble_eq_true rfl) (by show 0 + nA κ * 64 ≤ 1536; omega) d_Tu_init_16 hts in_Tu ty_Tu tyok_Tu nm_Tu hown rfl 0 (by decide) (hts _ w_121) (fun _ h9 => h9) rfl hin rfl (by decide +kernel) (fun _ => rfl) (fun _ => rfl) (Nat.le_of_ble_eq_true rfl) d_Tu_init_18 (fun q1 H locs B => ?_)
  have B : zB κ.1 vwCl (tysA κ) [] (zk ([(h, .inr (3, [.ref q1, .null, .null, .int 0])), (q1, .inl (cI κ, nA κ * 64, .inl (fun _ => 0)))] ++ [])) A s.heap s zz H locs := B
  refine W.widen (k := 1) (n := 512) (by omega) (by omega) ?_
  refine lv_aload_n hx hb d_Tu_init_21 rfl (lv_at hl 1 rfl) ?_
  refine lv_iload_n hx hb d_Tu_init_22 rfl (lv_at hl 0 rfl) ?_
  refine zcnaF (pl := []) (C := "UnitThreads$Turns") (T := T_Tu) (N := 4) (atype := .int) (ty := .int) (tyf := (.array .int)) hx hb (hts _ w_94) rfl 0 rfl B (nA κ * 64) (a0 := (nA κ * 64, .inl (fun _ => 0))) (fun _ => rfl) rfl (by omega) (by show nA κ * 64 * 4 ≤ 536870912; omega) (Nat.le_of_ble_eq_true rfl) (by show 512 + nA κ * 64 ≤ 1536; omega) d_Tu_init_23 hts in_Tu ty_Tu tyok_Tu nm_Tu hown rfl 1 (by decide) (hts _ w_122) (fun _ h9 => h9) rfl hin rfl (by decide +kernel) (fun _ => rfl) (fun _ => rfl) (Nat.le_of_ble_eq_true rfl) d_Tu_init_25 (fun q2 H locs B => ?_)
  have B : zB κ.1 vwCl (tysA κ) [] (zk ([(h, .inr (3, [.ref q1, .ref q2, .null, .int 0])), (q1, .inl (cI κ, nA κ * 64, .inl (fun _ => 0))), (q2, .inl (cI κ, nA κ * 64, .inl (fun _ => 0)))] ++ [])) A s.heap s zz H locs := B
  refine W.widen (k := 2) (n := 1024) (by omega) (by omega) ?_
  refine lv_aload_n hx hb d_Tu_init_28 rfl (lv_at hl 1 rfl) ?_
  refine lv_iload_n hx hb d_Tu_init_29 rfl (lv_at hl 0 rfl) ?_
  refine zcnaF (pl := []) (C := "UnitThreads$Turns") (T := T_Tu) (N := 4) (atype := .int) (ty := .int) (tyf := (.array .int)) hx hb (hts _ w_94) rfl 0 rfl B (nA κ * 64) (a0 := (nA κ * 64, .inl (fun _ => 0))) (fun _ => rfl) rfl (by omega) (by show nA κ * 64 * 4 ≤ 536870912; omega) (Nat.le_of_ble_eq_true rfl) (by show 1024 + nA κ * 64 ≤ 1536; omega) d_Tu_init_30 hts in_Tu ty_Tu tyok_Tu nm_Tu hown rfl 2 (by decide) (hts _ w_123) (fun _ h9 => h9) rfl hin rfl (by decide +kernel) (fun _ => rfl) (fun _ => rfl) (Nat.le_of_ble_eq_true rfl) d_Tu_init_32 (fun q3 H locs B => ?_)
  have B : zB κ.1 vwCl (tysA κ) [] (zk ([(h, .inr (3, [.ref q1, .ref q2, .ref q3, .int 0])), (q1, .inl (cI κ, nA κ * 64, .inl (fun _ => 0))), (q2, .inl (cI κ, nA κ * 64, .inl (fun _ => 0))), (q3, .inl (cI κ, nA κ * 64, .inl (fun _ => 0)))] ++ [])) A s.heap s zz H locs := B
  refine W.widen (k := 3) (n := 1536) (by omega) (by omega) ?_
  exact zretC hx hb hr hlocks (fun i => match i with | 0 => q1 | 1 => q2 | _ => q3) trivial B d_Tu_init_35
def w17 (κ : KA) (a17 : Nat) (σ : zS) : va_W := [(a17, .inl (cI κ, 16, .inl (σ.1 19)))]
abbrev B17 (κ : KA) (a17 : Nat) (A : Nat → Prop) (H0 : Heap) (s : State) (σ : zS) (H : Heap) (locs : List Loc) : Prop := zB κ.1 vwCl (tysA κ) [] (w17 κ a17) A H0 s σ H locs
set_option maxHeartbeats 4000000 in
set_option maxRecDepth 100000 in
theorem c_Ar_fill0 (l : Launch) (κ : KA) (a17 : Nat) (σ : zS) : zMv l y_Ar_fill (zws y_Ar_fill prog_11_method_103_code 4 none) ({ frames := 0, cells := 0, slots := 0, locals := 0 }) κ.1 vwCl (tysA κ) [] (w17 κ a17) σ [.ref (a17), .int ((-1))] (fun σ' => σ' = zit fx_fill1 16 0 σ) := by
  refine zintro (cc := prog_11_method_103_code) (maxL := 4) (ret := none) (by decide) rfl (Nat.le_of_ble_eq_true rfl) ?_
  intro p e s m below meth c ls hx hb hr hml hts hown hlocks hl B
  have hl : lv_has ls 4 [(0, .ref (a17)), (1, .int ((-1)))] := hl
  have B : B17 κ a17 (va_A (w17 κ a17 σ) s.heap.size) s.heap s σ s.heap [] := B
  have hr : meth.sig.returnType = none := hr
  have hown : s.vm.findClass "java/util/Arrays" = some m.cls := hown
  show W p l e (headSpec (zws y_Ar_fill prog_11_method_103_code 4 none) ({ frames := 0, cells := 0, slots := 0, locals := 0 })).room s m [.ref (a17), .int ((-1))].toArray below meth c s.heap [] 0 0 (MQ below (va_Qv (fun σ' => σ' = zit fx_fill1 16 0 σ) (zQ κ.1 vwCl (tysA κ) (w17 κ a17) (va_A (w17 κ a17 σ) s.heap.size)) (va_A (w17 κ a17 σ) s.heap.size)) [.ref (a17), .int ((-1))].toArray s 0 0 (va_A (w17 κ a17 σ) s.heap.size)) (F0 m 0 ls [])
  generalize va_A (w17 κ a17 σ) s.heap.size = A at B ⊢
  have hts : ∀ w ∈ zW, w.before [.ref (a17), .int ((-1))].toArray s = true := fun w h => hts w (List.mem_cons_of_mem _ h)
  have L_5 : ∀ (j : Nat) (k : Nat) (τ : zS), k + j = 16 → (zit fx_fill1 16 0 σ = zit fx_fill1 j k τ) → ∀ (H : Heap) (locs : List Loc), B17 κ a17 A s.heap s τ H locs → ∀ (ls : Array Slot), lv_has ls 4 [(0, .ref (a17)), (1, .int ((-1))), (2, .int (nI k)), (3, .int (nI 16))] → W p l e (headSpec (zws y_Ar_fill prog_11_method_103_code 4 none) ({ frames := 0, cells := 0, slots := 0, locals := 0 })).room s m [.ref (a17), .int ((-1))].toArray below meth c H locs 0 0 (MQ below (va_Qv (fun σ' => σ' = zit fx_fill1 16 0 σ) (zQ κ.1 vwCl (tysA κ) (w17 κ a17) A) A) [.ref (a17), .int ((-1))].toArray s 0 0 A) (F0 m 5 ls []) := by
    intro j
    induction j with
    | zero =>
      intro k τ hj hst H locs B ls hl
      refine lv_iload_n hx hb d_Ar_fill_5 rfl (lv_at hl 2 rfl) ?_
      refine lv_iload_n hx hb d_Ar_fill_6 rfl (lv_at hl 3 rfl) ?_
      refine lv_icmp_ge (tgt := 20) hx hb d_Ar_fill_7 (by decide) (fun c_1 => ?_) (fun c_1 => ?_)
      · have c_1 := (nI_leI (a := 16) (b := k) (by omega) (by omega)).mp c_1
        exact zret_v hx hb hr hlocks B (hst.symm) d_Ar_fill_20
      · have c_1 := (not_congr (nI_leI (a := 16) (b := k) (by omega) (by omega))).mp c_1
        exact absurd c_1 (by omega)
    | succ j ih =>
      intro k τ hj hst H locs B ls hl
      refine lv_iload_n hx hb d_Ar_fill_5 rfl (lv_at hl 2 rfl) ?_
      refine lv_iload_n hx hb d_Ar_fill_6 rfl (lv_at hl 3 rfl) ?_
      refine lv_icmp_ge (tgt := 20) hx hb d_Ar_fill_7 (by decide) (fun c_2 => ?_) (fun c_2 => ?_)
      · have c_2 := (nI_leI (a := 16) (b := k) (by omega) (by omega)).mp c_2
        exact absurd c_2 (by omega)
      · have c_2 := (not_congr (nI_leI (a := 16) (b := k) (by omega) (by omega))).mp c_2
        refine lv_aload_n hx hb d_Ar_fill_10 rfl (lv_at hl 0 rfl) ?_
        refine lv_iload_n hx hb d_Ar_fill_11 rfl (lv_at hl 2 rfl) ?_
        refine lv_iload_n hx hb d_Ar_fill_12 rfl (lv_at hl 1 rfl) ?_
        refine ziast (N := 16) (f := 19) (cA := cI κ) hx hb B 0 0 rfl rfl k rfl (by omega) (by decide) rfl d_Ar_fill_13 (fun H locs B => ?_)
        have B : B17 κ a17 A s.heap s (zi τ 19 k (-1)) H locs := B
        refine lv_iinc (v := nI (k + 1)) (lv' := [(2, .int (nI (k + 1))), (0, .ref (a17)), (1, .int ((-1))), (3, .int (nI 16))]) hx hb d_Ar_fill_14 hl (k := 2) rfl (zinc _) (by decide) rfl (fun ls hl => ?_)
        refine lv_goto (tgt := 5) hx hb d_Ar_fill_17 (by decide) ?_
        exact ih (k + 1) (zi τ 19 k (-1)) (by omega) hst _ _ B ls (lv_sub hl [1, 2, 0, 3] rfl)
  refine lv_iconst (v := nI 0) hx hb d_Ar_fill_0 (by decide) ?_
  refine lv_istore_n (lv' := [(2, .int (nI 0)), (0, .ref (a17)), (1, .int ((-1)))]) hx hb d_Ar_fill_1 rfl hl (by decide) rfl (fun ls hl => ?_)
  refine lv_aload_n hx hb d_Ar_fill_2 rfl (lv_at hl 1 rfl) ?_
  refine zalen hx hb B 0 0 (cA := cI κ) (x := (16, .inl (σ.1 19))) rfl rfl d_Ar_fill_3 ?_
  refine lv_istore_n (lv' := [(3, .int (nI 16)), (2, .int (nI 0)), (0, .ref (a17)), (1, .int ((-1)))]) hx hb d_Ar_fill_4 rfl hl (by decide) rfl (fun ls hl => ?_)
  exact L_5 16 0 σ (by omega) rfl _ _ B ls (lv_sub hl [2, 3, 1, 0] rfl)
theorem fill_m1 (σ : zS) {w : Nat} (hw : w < 16) : (zit fx_fill1 16 0 σ).1 19 w = -1 := by
  have key : ∀ w, w < 16 → (zit fx_fill1 16 0 σ).1 19 w = -1 := by
    refine zit_inv (step := fx_fill1) (e := 16) (fun k τ => ∀ w, w < k → τ.1 19 w = -1) ?_ 16 0 σ (by omega) (fun w h => absurd h (Nat.not_lt_zero w))
    intro k τ hk hP w hw
    unfold fx_fill1
    by_cases q : w = k
    · subst q; rw [zi_eq]
    · rw [zi_ni _ _ q]; exact hP w (by omega)
  exact key w hw
set_option maxHeartbeats 4000000 in
set_option maxRecDepth 100000 in
/-- Board(size) -/
theorem c_Bo_init (l : Launch) (κ : KA) (h : Nat) (hn : nA κ ≤ 8) : zMc (S := (Nat → Nat) × (Nat → Int32)) l y_Bo_init (zws y_Bo_init prog_2_method_1_code 3 none) ({ frames := 1, cells := 5, slots := 3152, locals := 23 }) κ.1 vwCl (tysA κ) [] [(h, .inr (4, [.null, .null, .null, .null, .null, .int 0]))] [.ref h, .int (nI (nA κ))] (fun u => ∀ w, w < 16 → u.2 w = -1) (fun u => [(h, .inr (4, [.ref (u.1 0), .ref (u.1 1), .ref (u.1 2), .ref (u.1 3), .ref (u.1 4), .int 0])), (u.1 4, .inl (cI κ, 1024, .inl (fun _ => 0))), (u.1 0, .inl (cJ κ, nA κ * 4, .inr (.inl (fun _ => 0)))), (u.1 1, .inl (cJ κ, nA κ * 4, .inr (.inl (fun _ => 0)))), (u.1 3, .inl (cJ κ, 64 * (nA κ * 4), .inr (.inl (fun _ => 0)))), (u.1 2, .inl (cI κ, 16, .inl u.2))]) 5 3152 := by
  refine zintroC (cc := prog_2_method_1_code) (maxL := 3) (ret := none) (by decide) rfl (Nat.le_of_ble_eq_true rfl) ?_
  intro p e s m below meth c ls hx hb hr hml hts hown hlocks hin hl B
  have hl : lv_has ls 3 [(0, .ref h), (1, .int (nI (nA κ)))] := hl
  have hr : meth.sig.returnType = none := hr
  have hin : meth.name = "<init>" := hin
  have hown : s.vm.findClass "UnitThreads$Board" = some m.cls := hown
  have hts : ∀ w ∈ zW, w.before [.ref h, .int (nI (nA κ))].toArray s = true := fun w h => hts w (List.mem_cons_of_mem _ h)
  generalize va_A [(h, .inr (4, [.null, .null, .null, .null, .null, .int 0]))] s.heap.size = A at B ⊢
  have B : zB κ.1 vwCl (tysA κ) [] (zk ([(h, .inr (4, [.null, .null, .null, .null, .null, .int 0]))] ++ [])) A s.heap s zz s.heap [] := B
  refine lv_aload_n hx hb d_Bo_init_0 rfl (lv_at hl 0 rfl) ?_
  refine W.objInit hx hb hown (hts _ w_140) (hts _ w_17) (hts _ w_18) rfl (by rw [hml]; exact hl.1) rfl d_Bo_init_1 (Nat.le_of_ble_eq_true rfl) (Nat.le_of_ble_eq_true rfl) ?_
  refine W.eq (g2 := F0 m 4 ls []) rfl ?_
  refine lv_aload_n hx hb d_Bo_init_4 rfl (lv_at hl 0 rfl) ?_
  refine lv_bipush (v := nI 16) hx hb d_Bo_init_5 (by decide) ?_
  refine zcnaF (pl := []) (C := "UnitThreads$Board") (T := T_Bo) (N := 6) (atype := .int) (ty := .int) (tyf := (.array .int)) hx hb (hts _ w_94) rfl 0 rfl B (16) (a0 := (16, .inl (fun _ => 0))) (fun _ => rfl) rfl (by decide) (by decide) (Nat.le_of_ble_eq_true rfl) (Nat.le_of_ble_eq_true rfl) d_Bo_init_7 hts in_Bo ty_Bo tyok_Bo nm_Bo hown rfl 2 (by decide) (hts _ w_148) (fun _ h9 => h9) rfl hin rfl (by decide +kernel) (fun _ => rfl) (fun _ => rfl) (Nat.le_of_ble_eq_true rfl) d_Bo_init_9 (fun q1 H locs B => ?_)
  have B : zB κ.1 vwCl (tysA κ) [] (zk ([(h, .inr (4, [.null, .null, .ref q1, .null, .null, .int 0])), (q1, .inl (cI κ, 16, .inl (fun _ => 0)))] ++ [])) A s.heap s zz H locs := B
  refine W.widen (k := 1) (n := 16) (by omega) (by omega) ?_
  refine lv_aload_n hx hb d_Bo_init_12 rfl (lv_at hl 0 rfl) ?_
  refine lv_sipush (v := nI 1024) hx hb d_Bo_init_13 (by decide) ?_
  refine zcnaF (pl := []) (C := "UnitThreads$Board") (T := T_Bo) (N := 6) (atype := .int) (ty := .int) (tyf := (.array .int)) hx hb (hts _ w_94) rfl 0 rfl B (1024) (a0 := (1024, .inl (fun _ => 0))) (fun _ => rfl) rfl (by decide) (by decide) (Nat.le_of_ble_eq_true rfl) (Nat.le_of_ble_eq_true rfl) d_Bo_init_16 hts in_Bo ty_Bo tyok_Bo nm_Bo hown rfl 4 (by decide) (hts _ w_151) (fun _ h9 => h9) rfl hin rfl (by decide +kernel) (fun _ => rfl) (fun _ => rfl) (Nat.le_of_ble_eq_true rfl) d_Bo_init_18 (fun q2 H locs B => ?_)
  have B : zB κ.1 vwCl (tysA κ) [] (zk ([(h, .inr (4, [.null, .null, .ref q1, .null, .ref q2, .int 0])), (q1, .inl (cI κ, 16, .inl (fun _ => 0))), (q2, .inl (cI κ, 1024, .inl (fun _ => 0)))] ++ [])) A s.heap s zz H locs := B
  refine W.widen (k := 2) (n := 1040) (by omega) (by omega) ?_
  refine lv_aload_n hx hb d_Bo_init_21 rfl (lv_at hl 0 rfl) ?_
  refine lv_iconst (v := 0) hx hb d_Bo_init_22 (by decide) ?_
  refine zcput (pl := []) (C := "UnitThreads$Board") (T := T_Bo) (N := 6) (ty := .int) hx hb hts in_Bo ty_Bo tyok_Bo nm_Bo hown B rfl 5 (by decide) (hts _ w_152) (fun _ h9 => h9) rfl (by decide +kernel) rfl rfl (Nat.le_of_ble_eq_true rfl) d_Bo_init_23 (fun H locs B => ?_)
  have B : zB κ.1 vwCl (tysA κ) [] (zk ([(h, .inr (4, [.null, .null, .ref q1, .null, .ref q2, .int 0])), (q1, .inl (cI κ, 16, .inl (fun _ => 0))), (q2, .inl (cI κ, 1024, .inl (fun _ => 0)))] ++ [])) A s.heap s zz H locs := B
  refine lv_iload_n hx hb d_Bo_init_26 rfl (lv_at hl 1 rfl) ?_
  refine lv_iconst (v := nI 4) hx hb d_Bo_init_27 (by decide) ?_
  refine lv_imul hx hb d_Bo_init_28 ?_
  refine zrwi (pk_mul (nA κ) 4) ?_
  refine lv_istore_n (lv' := [(2, .int (nI (nA κ * 4))), (0, .ref h), (1, .int (nI (nA κ)))]) hx hb d_Bo_init_29 rfl hl (by decide) rfl (fun ls hl => ?_)
  refine lv_aload_n hx hb d_Bo_init_30 rfl (lv_at hl 1 rfl) ?_
  refine lv_iload_n hx hb d_Bo_init_31 rfl (lv_at hl 0 rfl) ?_
  refine zcnaF (pl := []) (C := "UnitThreads$Board") (T := T_Bo) (N := 6) (atype := .long) (ty := .long) (tyf := (.array .long)) hx hb (hts _ w_95) rfl 1 rfl B (nA κ * 4) (a0 := (nA κ * 4, .inr (.inl (fun _ => 0)))) (fun _ => rfl) rfl (by omega) (by show nA κ * 4 * 8 ≤ 536870912; omega) (Nat.le_of_ble_eq_true rfl) (by show 1040 + nA κ * 4 ≤ 3152; omega) d_Bo_init_32 hts in_Bo ty_Bo tyok_Bo nm_Bo hown rfl 0 (by decide) (hts _ w_144) (fun _ h9 => h9) rfl hin rfl (by decide +kernel) (fun _ => rfl) (fun _ => rfl) (Nat.le_of_ble_eq_true rfl) d_Bo_init_34 (fun q3 H locs B => ?_)
  have B : zB κ.1 vwCl (tysA κ) [] (zk ([(h, .inr (4, [.ref q3, .null, .ref q1, .null, .ref q2, .int 0])), (q1, .inl (cI κ, 16, .inl (fun _ => 0))), (q2, .inl (cI κ, 1024, .inl (fun _ => 0))), (q3, .inl (cJ κ, nA κ * 4, .inr (.inl (fun _ => 0))))] ++ [])) A s.heap s zz H locs := B
  refine W.widen (k := 3) (n := 1072) (by omega) (by omega) ?_
  refine lv_aload_n hx hb d_Bo_init_37 rfl (lv_at hl 1 rfl) ?_
  refine lv_iload_n hx hb d_Bo_init_38 rfl (lv_at hl 0 rfl) ?_
  refine zcnaF (pl := []) (C := "UnitThreads$Board") (T := T_Bo) (N := 6) (atype := .long) (ty := .long) (tyf := (.array .long)) hx hb (hts _ w_95) rfl 1 rfl B (nA κ * 4) (a0 := (nA κ * 4, .inr (.inl (fun _ => 0)))) (fun _ => rfl) rfl (by omega) (by show nA κ * 4 * 8 ≤ 536870912; omega) (Nat.le_of_ble_eq_true rfl) (by show 1072 + nA κ * 4 ≤ 3152; omega) d_Bo_init_39 hts in_Bo ty_Bo tyok_Bo nm_Bo hown rfl 1 (by decide) (hts _ w_146) (fun _ h9 => h9) rfl hin rfl (by decide +kernel) (fun _ => rfl) (fun _ => rfl) (Nat.le_of_ble_eq_true rfl) d_Bo_init_41 (fun q4 H locs B => ?_)
  have B : zB κ.1 vwCl (tysA κ) [] (zk ([(h, .inr (4, [.ref q3, .ref q4, .ref q1, .null, .ref q2, .int 0])), (q1, .inl (cI κ, 16, .inl (fun _ => 0))), (q2, .inl (cI κ, 1024, .inl (fun _ => 0))), (q3, .inl (cJ κ, nA κ * 4, .inr (.inl (fun _ => 0)))), (q4, .inl (cJ κ, nA κ * 4, .inr (.inl (fun _ => 0))))] ++ [])) A s.heap s zz H locs := B
  refine W.widen (k := 4) (n := 1104) (by omega) (by omega) ?_
  refine lv_aload_n hx hb d_Bo_init_44 rfl (lv_at hl 1 rfl) ?_
  refine lv_bipush (v := nI 64) hx hb d_Bo_init_45 (by decide) ?_
  refine lv_iload_n hx hb d_Bo_init_47 rfl (lv_at hl 0 rfl) ?_
  refine lv_imul hx hb d_Bo_init_48 ?_
  refine zrwi (pk_mul 64 (nA κ * 4)) ?_
  refine zcnaF (pl := []) (C := "UnitThreads$Board") (T := T_Bo) (N := 6) (atype := .long) (ty := .long) (tyf := (.array .long)) hx hb (hts _ w_95) rfl 1 rfl B (64 * (nA κ * 4)) (a0 := (64 * (nA κ * 4), .inr (.inl (fun _ => 0)))) (fun _ => rfl) rfl (by omega) (by show 64 * (nA κ * 4) * 8 ≤ 536870912; omega) (Nat.le_of_ble_eq_true rfl) (by show 1104 + 64 * (nA κ * 4) ≤ 3152; omega) d_Bo_init_49 hts in_Bo ty_Bo tyok_Bo nm_Bo hown rfl 3 (by decide) (hts _ w_150) (fun _ h9 => h9) rfl hin rfl (by decide +kernel) (fun _ => rfl) (fun _ => rfl) (Nat.le_of_ble_eq_true rfl) d_Bo_init_51 (fun q5 H locs B => ?_)
  have B : zB κ.1 vwCl (tysA κ) [] (zk ([(h, .inr (4, [.ref q3, .ref q4, .ref q1, .ref q5, .ref q2, .int 0])), (q1, .inl (cI κ, 16, .inl (fun _ => 0))), (q2, .inl (cI κ, 1024, .inl (fun _ => 0))), (q3, .inl (cJ κ, nA κ * 4, .inr (.inl (fun _ => 0)))), (q4, .inl (cJ κ, nA κ * 4, .inr (.inl (fun _ => 0)))), (q5, .inl (cJ κ, 64 * (nA κ * 4), .inr (.inl (fun _ => 0))))] ++ [])) A s.heap s zz H locs := B
  refine W.widen (k := 5) (n := 3152) (by omega) (by omega) ?_
  refine lv_aload_n hx hb d_Bo_init_54 rfl (lv_at hl 1 rfl) ?_
  refine va_get (D := κ.1) (ci := 4) (v := .ref q1) (C := "UnitThreads$Board") (T := T_Bo) (N := 6) hx hb hts in_Bo hown B.1 B.2.1 0 rfl rfl 2 (by decide) (hts _ w_148) (fun _ h9 => h9) rfl d_Bo_init_55 ?_
  refine lv_iconst (v := -1) hx hb d_Bo_init_58 (by decide) ?_
  refine zcSc (w := w17 κ q1) (σ := zz) (pl := []) (wr := [(h, .inr (4, [.ref q3, .ref q4, .ref q1, .ref q5, .ref q2, .int 0])), (q2, .inl (cI κ, 1024, .inl (fun _ => 0))), (q3, .inl (cJ κ, nA κ * 4, .inr (.inl (fun _ => 0)))), (q4, .inl (cJ κ, nA κ * 4, .inr (.inl (fun _ => 0)))), (q5, .inl (cJ κ, 64 * (nA κ * 4), .inr (.inl (fun _ => 0))))]) (As := [.ref q1, .int (-1)]) (rest := []) ⟨hx, hb, hml, hown, hts⟩ (c_Ar_fill0 l κ q1 zz) (va_cwS 2 hts (zgoodT w_141 w_142 w_8 w_143) rfl rfl rfl (by decide +kernel) ⟨Nat.le_of_ble_eq_true rfl, Nat.le_of_ble_eq_true rfl⟩) B [1] [0, 2, 3, 4, 5] rfl rfl rfl rfl (by decide) rfl hl.1 rfl (Nat.le_of_ble_eq_true rfl) d_Bo_init_59 ⟨Nat.le_of_ble_eq_true rfl, Nat.le_of_ble_eq_true rfl⟩ (fun σ2 H locs hp B => ?_)
  exact zretC hx hb hr hlocks ((fun i => match i with | 0 => q3 | 1 => q4 | 2 => q1 | 3 => q5 | _ => q2), σ2.1 19) (by rw [hp]; exact fun w hw => fill_m1 zz hw) B d_Bo_init_62
