set_option maxHeartbeats 4000000 in
set_option maxRecDepth 100000 in
theorem c_Ut_takeTurns (l : Launch) (κ : KA) (σ : zS) (hn : nA κ ≤ 8) (N : Nat) (hN : σ.1 14 0 = nI N) (hNn : N ≤ nA κ) (hO : ∀ i, i < N → zin (σ.1 13 i) (nA κ)) : zMv l y_Ut_takeTurns (zws y_Ut_takeTurns prog_1_method_25_code 3 none) ({ frames := 0, cells := 0, slots := 0, locals := 0 }) κ.1 vwCl (tysA κ) nwA (wA κ) σ [.ref (aA κ 0)] (fun σ' => σ' = fx_takeTurns (nA κ) N σ) := by
  refine zintro (cc := prog_1_method_25_code) (maxL := 3) (ret := none) (by decide) rfl (Nat.le_of_ble_eq_true rfl) ?_
  intro p e s m below meth c ls hx hb hr hml hts hown hlocks hl B
  have hl : lv_has ls 3 [(0, .ref (aA κ 0))] := hl
  have B : BA κ (va_A (wA κ σ) s.heap.size) s.heap s σ s.heap [] := B
  have hr : meth.sig.returnType = none := hr
  have hown : s.vm.findClass "UnitThreads" = some m.cls := hown
  show W p l e (headSpec (zws y_Ut_takeTurns prog_1_method_25_code 3 none) ({ frames := 0, cells := 0, slots := 0, locals := 0 })).room s m [.ref (aA κ 0)].toArray below meth c s.heap [] 0 0 (MQ below (va_Qv (fun σ' => σ' = fx_takeTurns (nA κ) N σ) (zQ κ.1 vwCl (tysA κ) (wA κ) (va_A (wA κ σ) s.heap.size)) (va_A (wA κ σ) s.heap.size)) [.ref (aA κ 0)].toArray s 0 0 (va_A (wA κ σ) s.heap.size)) (F0 m 0 ls [])
  generalize va_A (wA κ σ) s.heap.size = A at B ⊢
  have hts : ∀ w ∈ zW, w.before [.ref (aA κ 0)].toArray s = true := fun w h => hts w (List.mem_cons_of_mem _ h)
  have L_29 : ∀ (j : Nat) (k : Nat) (τ : zS), (k + j = N) → (fx_takeTurns (nA κ) N σ = zit fx_turn1 j k τ) → (τ.1 14 0 = nI N) → (∀ i, i < N → zin (τ.1 13 i) (nA κ)) → ∀ (H : Heap) (locs : List Loc), BA κ A s.heap s τ H locs → ∀ (ls : Array Slot), lv_has ls 3 [(0, .ref (aA κ 0)), (1, .int (nI k))] → W p l e (headSpec (zws y_Ut_takeTurns prog_1_method_25_code 3 none) ({ frames := 0, cells := 0, slots := 0, locals := 0 })).room s m [.ref (aA κ 0)].toArray below meth c H locs 0 0 (MQ below (va_Qv (fun σ' => σ' = fx_takeTurns (nA κ) N σ) (zQ κ.1 vwCl (tysA κ) (wA κ) A) A) [.ref (aA κ 0)].toArray s 0 0 A) (F0 m 29 ls []) := by
    intro j
    induction j with
    | zero =>
      intro k τ hj hst hN hO H locs B ls hl
      refine lv_iload_n hx hb d_Ut_takeTurns_29 rfl (lv_at hl 1 rfl) ?_
      refine lv_aload_n hx hb d_Ut_takeTurns_30 rfl (lv_at hl 0 rfl) ?_
      refine va_get (D := κ.1) (ci := 5) (v := .ref (aA κ 8)) (C := "UnitThreads") (T := T_Ut) (N := 7) hx hb hts in_Ut hown B.1 B.2.1 0 (wa_0 κ τ) rfl 2 (by decide) (hts _ w_169) (fun _ h9 => h9) rfl d_Ut_takeTurns_31 ?_
      refine va_get (D := κ.1) (ci := 2) (v := .int (τ.1 14 0)) (C := "UnitThreads$Order") (T := T_Or) (N := 3) hx hb hts in_Or hown B.1 B.2.1 8 (wa_8 κ τ) rfl 1 (by decide) (hts _ w_105) (fun _ h9 => h9) rfl d_Ut_takeTurns_34 ?_
      refine zrwi (y := nI N) (hN) ?_
      refine lv_icmp_ge (tgt := 78) hx hb d_Ut_takeTurns_37 (by decide) (fun c_1 => ?_) (fun c_1 => ?_)
      · have c_1 := (nI_leI (a := N) (b := k) (by omega) (by omega)).mp c_1
        exact zret_v hx hb hr hlocks B (hst.symm) d_Ut_takeTurns_78
      · have c_1 := (not_congr (nI_leI (a := N) (b := k) (by omega) (by omega))).mp c_1
        exact absurd c_1 (by omega)
    | succ j ih =>
      intro k τ hj hst hN hO H locs B ls hl
      refine lv_iload_n hx hb d_Ut_takeTurns_29 rfl (lv_at hl 1 rfl) ?_
      refine lv_aload_n hx hb d_Ut_takeTurns_30 rfl (lv_at hl 0 rfl) ?_
      refine va_get (D := κ.1) (ci := 5) (v := .ref (aA κ 8)) (C := "UnitThreads") (T := T_Ut) (N := 7) hx hb hts in_Ut hown B.1 B.2.1 0 (wa_0 κ τ) rfl 2 (by decide) (hts _ w_169) (fun _ h9 => h9) rfl d_Ut_takeTurns_31 ?_
      refine va_get (D := κ.1) (ci := 2) (v := .int (τ.1 14 0)) (C := "UnitThreads$Order") (T := T_Or) (N := 3) hx hb hts in_Or hown B.1 B.2.1 8 (wa_8 κ τ) rfl 1 (by decide) (hts _ w_105) (fun _ h9 => h9) rfl d_Ut_takeTurns_34 ?_
      refine zrwi (y := nI N) (hN) ?_
      refine lv_icmp_ge (tgt := 78) hx hb d_Ut_takeTurns_37 (by decide) (fun c_2 => ?_) (fun c_2 => ?_)
      · have c_2 := (nI_leI (a := N) (b := k) (by omega) (by omega)).mp c_2
        exact absurd c_2 (by omega)
      · have c_2 := (not_congr (nI_leI (a := N) (b := k) (by omega) (by omega))).mp c_2
        refine lv_aload_n hx hb d_Ut_takeTurns_40 rfl (lv_at hl 0 rfl) ?_
        refine va_get (D := κ.1) (ci := 5) (v := .ref (aA κ 1)) (C := "UnitThreads") (T := T_Ut) (N := 7) hx hb hts in_Ut hown B.1 B.2.1 0 (wa_0 κ τ) rfl 0 (by decide) (hts _ w_167) (fun _ h9 => h9) rfl d_Ut_takeTurns_41 ?_
        refine lv_aload_n hx hb d_Ut_takeTurns_44 rfl (lv_at hl 0 rfl) ?_
        refine va_get (D := κ.1) (ci := 5) (v := .ref (aA κ 8)) (C := "UnitThreads") (T := T_Ut) (N := 7) hx hb hts in_Ut hown B.1 B.2.1 0 (wa_0 κ τ) rfl 2 (by decide) (hts _ w_169) (fun _ h9 => h9) rfl d_Ut_takeTurns_45 ?_
        refine va_get (D := κ.1) (ci := 2) (v := .ref (aA κ 9)) (C := "UnitThreads$Order") (T := T_Or) (N := 3) hx hb hts in_Or hown B.1 B.2.1 8 (wa_8 κ τ) rfl 0 (by decide) (hts _ w_103) (fun _ h9 => h9) rfl d_Ut_takeTurns_48 ?_
        refine lv_iload_n hx hb d_Ut_takeTurns_51 rfl (lv_at hl 1 rfl) ?_
        refine ziald hx hb B 9 0 (wa_9 κ τ) rfl k rfl (by omega) (by omega) d_Ut_takeTurns_52 ?_
        have hu_3 : tn (τ.1 13 k) < nA κ := (hO k (by omega)).2
        refine zaald hx hb B 1 2 (wa_1 κ τ) rfl (tn (τ.1 13 k)) ((hO k (by omega)).1) hu_3 (by omega) rfl d_Ut_takeTurns_53 ?_
        refine lv_astore_n (lv' := [(2, .ref (aA κ (64 + (tn (τ.1 13 k))))), (0, .ref (aA κ 0)), (1, .int (nI k))]) hx hb d_Ut_takeTurns_54 rfl hl (by decide) rfl (fun ls hl => ?_)
        refine lv_aload_n hx hb d_Ut_takeTurns_55 rfl (lv_at hl 0 rfl) ?_
        refine lv_aload_n hx hb d_Ut_takeTurns_56 rfl (lv_at hl 0 rfl) ?_
        refine va_get (D := κ.1) (ci := 0) (v := .int (τ.1 4 (tn (τ.1 13 k)))) (C := "UnitThreads$Unit") (T := T_Un) (N := 8) hx hb hts in_Un hown B.1 B.2.1 (43 + (tn (τ.1 13 k))) (wa_u κ τ hu_3) rfl 4 (by decide) (hts _ w_43) (fun _ h9 => h9) rfl d_Ut_takeTurns_57 ?_
        refine lv_iconst (v := (-1)) hx hb d_Ut_takeTurns_60 (by decide) ?_
        refine lv_icmp_ne (tgt := 68) hx hb d_Ut_takeTurns_61 (by decide) (fun c_4 => ?_) (fun c_4 => ?_)
        · refine lv_iconst (v := 2) hx hb d_Ut_takeTurns_68 (by decide) ?_
          refine zput (ci := 0) (v := .int (2)) (ty := .int) (C := "UnitThreads$Unit") (T := T_Un) (N := 8) hx hb hts in_Un ty_Un tyok_Un nm_Un hown B (43 + (tn (τ.1 13 k))) (wa_u κ τ hu_3) rfl 7 (by decide) (hts _ w_50) (fun _ h9 => h9) rfl (by decide +kernel) rfl rfl (Nat.le_of_ble_eq_true rfl) (wq_7 κ τ hu_3 2) d_Ut_takeTurns_69 (fun H locs B => ?_)
          have B : BA κ A s.heap s (zi τ 7 (tn (τ.1 13 k)) 2) H locs := B
          refine lv_iinc (v := nI (k + 1)) (lv' := [(1, .int (nI (k + 1))), (2, .ref (aA κ (64 + (tn (τ.1 13 k))))), (0, .ref (aA κ 0))]) hx hb d_Ut_takeTurns_72 hl (k := 2) rfl (zinc _) (by decide) rfl (fun ls hl => ?_)
          refine lv_goto (tgt := 29) hx hb d_Ut_takeTurns_75 (by decide) ?_
          exact ih (k + 1) (zi τ 7 (tn (τ.1 13 k)) 2) (by omega) (by rw [hst]; simp [zit, fx_turn1, c_2, c_4]) hN hO _ _ B ls (lv_sub hl [2, 0] rfl)
        · refine lv_iconst (v := 1) hx hb d_Ut_takeTurns_64 (by decide) ?_
          refine lv_goto (tgt := 69) hx hb d_Ut_takeTurns_65 (by decide) ?_
          refine zput (ci := 0) (v := .int (1)) (ty := .int) (C := "UnitThreads$Unit") (T := T_Un) (N := 8) hx hb hts in_Un ty_Un tyok_Un nm_Un hown B (43 + (tn (τ.1 13 k))) (wa_u κ τ hu_3) rfl 7 (by decide) (hts _ w_50) (fun _ h9 => h9) rfl (by decide +kernel) rfl rfl (Nat.le_of_ble_eq_true rfl) (wq_7 κ τ hu_3 1) d_Ut_takeTurns_69 (fun H locs B => ?_)
          have B : BA κ A s.heap s (zi τ 7 (tn (τ.1 13 k)) 1) H locs := B
          refine lv_iinc (v := nI (k + 1)) (lv' := [(1, .int (nI (k + 1))), (2, .ref (aA κ (64 + (tn (τ.1 13 k))))), (0, .ref (aA κ 0))]) hx hb d_Ut_takeTurns_72 hl (k := 2) rfl (zinc _) (by decide) rfl (fun ls hl => ?_)
          refine lv_goto (tgt := 29) hx hb d_Ut_takeTurns_75 (by decide) ?_
          exact ih (k + 1) (zi τ 7 (tn (τ.1 13 k)) 1) (by omega) (by rw [hst]; simp [zit, fx_turn1, c_2, c_4]) hN hO _ _ B ls (lv_sub hl [2, 0] rfl)
  have L_2 : ∀ (j : Nat) (k : Nat) (τ : zS), (k + j = nA κ) → (fx_takeTurns (nA κ) N σ = zit fx_turn1 N 0 (zit fx_turn0 j k τ)) → (τ.1 14 0 = nI N) → (∀ i, i < N → zin (τ.1 13 i) (nA κ)) → ∀ (H : Heap) (locs : List Loc), BA κ A s.heap s τ H locs → ∀ (ls : Array Slot), lv_has ls 3 [(0, .ref (aA κ 0)), (1, .int (nI k))] → W p l e (headSpec (zws y_Ut_takeTurns prog_1_method_25_code 3 none) ({ frames := 0, cells := 0, slots := 0, locals := 0 })).room s m [.ref (aA κ 0)].toArray below meth c H locs 0 0 (MQ below (va_Qv (fun σ' => σ' = fx_takeTurns (nA κ) N σ) (zQ κ.1 vwCl (tysA κ) (wA κ) A) A) [.ref (aA κ 0)].toArray s 0 0 A) (F0 m 2 ls []) := by
    intro j
    induction j with
    | zero =>
      intro k τ hj hst hN hO H locs B ls hl
      refine lv_iload_n hx hb d_Ut_takeTurns_2 rfl (lv_at hl 1 rfl) ?_
      refine lv_aload_n hx hb d_Ut_takeTurns_3 rfl (lv_at hl 0 rfl) ?_
      refine va_get (D := κ.1) (ci := 5) (v := .ref (aA κ 1)) (C := "UnitThreads") (T := T_Ut) (N := 7) hx hb hts in_Ut hown B.1 B.2.1 0 (wa_0 κ τ) rfl 0 (by decide) (hts _ w_167) (fun _ h9 => h9) rfl d_Ut_takeTurns_4 ?_
      refine zalen hx hb B 1 2 (wa_1 κ τ) rfl d_Ut_takeTurns_7 ?_
      refine lv_icmp_ge (tgt := 27) hx hb d_Ut_takeTurns_8 (by decide) (fun c_5 => ?_) (fun c_5 => ?_)
      · have c_5 := (nI_leI (a := nA κ) (b := k) (by omega) (by omega)).mp c_5
        refine lv_iconst (v := nI 0) hx hb d_Ut_takeTurns_27 (by decide) ?_
        refine lv_istore_n (lv' := [(1, .int (nI 0)), (0, .ref (aA κ 0))]) hx hb d_Ut_takeTurns_28 rfl hl (by decide) rfl (fun ls hl => ?_)
        exact L_29 N 0 τ (by omega) hst hN hO _ _ B ls (lv_sub hl [1, 0] rfl)
      · have c_5 := (not_congr (nI_leI (a := nA κ) (b := k) (by omega) (by omega))).mp c_5
        exact absurd c_5 (by omega)
    | succ j ih =>
      intro k τ hj hst hN hO H locs B ls hl
      refine lv_iload_n hx hb d_Ut_takeTurns_2 rfl (lv_at hl 1 rfl) ?_
      refine lv_aload_n hx hb d_Ut_takeTurns_3 rfl (lv_at hl 0 rfl) ?_
      refine va_get (D := κ.1) (ci := 5) (v := .ref (aA κ 1)) (C := "UnitThreads") (T := T_Ut) (N := 7) hx hb hts in_Ut hown B.1 B.2.1 0 (wa_0 κ τ) rfl 0 (by decide) (hts _ w_167) (fun _ h9 => h9) rfl d_Ut_takeTurns_4 ?_
      refine zalen hx hb B 1 2 (wa_1 κ τ) rfl d_Ut_takeTurns_7 ?_
      refine lv_icmp_ge (tgt := 27) hx hb d_Ut_takeTurns_8 (by decide) (fun c_6 => ?_) (fun c_6 => ?_)
      · have c_6 := (nI_leI (a := nA κ) (b := k) (by omega) (by omega)).mp c_6
        exact absurd c_6 (by omega)
      · have c_6 := (not_congr (nI_leI (a := nA κ) (b := k) (by omega) (by omega))).mp c_6
        refine lv_aload_n hx hb d_Ut_takeTurns_11 rfl (lv_at hl 0 rfl) ?_
        refine va_get (D := κ.1) (ci := 5) (v := .ref (aA κ 1)) (C := "UnitThreads") (T := T_Ut) (N := 7) hx hb hts in_Ut hown B.1 B.2.1 0 (wa_0 κ τ) rfl 0 (by decide) (hts _ w_167) (fun _ h9 => h9) rfl d_Ut_takeTurns_12 ?_
        refine lv_iload_n hx hb d_Ut_takeTurns_15 rfl (lv_at hl 1 rfl) ?_
        have hu_7 : k < nA κ := (by omega)
        refine zaald hx hb B 1 2 (wa_1 κ τ) rfl k rfl hu_7 (by omega) rfl d_Ut_takeTurns_16 ?_
        refine lv_iconst (v := (-1)) hx hb d_Ut_takeTurns_17 (by decide) ?_
        refine zput (ci := 0) (v := .int ((-1))) (ty := .int) (C := "UnitThreads$Unit") (T := T_Un) (N := 8) hx hb hts in_Un ty_Un tyok_Un nm_Un hown B (43 + k) (wa_u κ τ hu_7) rfl 7 (by decide) (hts _ w_50) (fun _ h9 => h9) rfl (by decide +kernel) rfl rfl (Nat.le_of_ble_eq_true rfl) (wq_7 κ τ hu_7 (-1)) d_Ut_takeTurns_18 (fun H locs B => ?_)
        have B : BA κ A s.heap s (zi τ 7 k (-1)) H locs := B
        refine lv_iinc (v := nI (k + 1)) (lv' := [(1, .int (nI (k + 1))), (0, .ref (aA κ 0))]) hx hb d_Ut_takeTurns_21 hl (k := 1) rfl (zinc _) (by decide) rfl (fun ls hl => ?_)
        refine lv_goto (tgt := 2) hx hb d_Ut_takeTurns_24 (by decide) ?_
        exact ih (k + 1) (zi τ 7 k (-1)) (by omega) hst hN hO _ _ B ls (lv_sub hl [1, 0] rfl)
  refine lv_iconst (v := nI 0) hx hb d_Ut_takeTurns_0 (by decide) ?_
  refine lv_istore_n (lv' := [(1, .int (nI 0)), (0, .ref (aA κ 0))]) hx hb d_Ut_takeTurns_1 rfl hl (by decide) rfl (fun ls hl => ?_)
  exact L_2 (nA κ) 0 σ (by omega) rfl hN hO _ _ B ls (lv_sub hl [1, 0] rfl)
set_option maxHeartbeats 4000000 in
set_option maxRecDepth 100000 in
theorem c_Ut_holdThrowers (l : Launch) (κ : KA) (σ : zS) (p1 : Int32) (hn : nA κ ≤ 8) (E : Nat) (hE : σ.1 12 0 = nI E) (hE3 : E ≤ 300) (hT : ∀ u, u < nA κ → σ.1 7 u = 2 → zin (σ.1 4 u) E) : zMv l y_Ut_holdThrowers (zws y_Ut_holdThrowers prog_1_method_26_code 4 none) ({ frames := 1, cells := 0, slots := 0, locals := 23 }) κ.1 vwCl (tysA κ) nwA (wA κ) σ [.ref (aA κ 0), .int (p1)] (fun σ' => σ' = fx_hold (nA κ) p1 σ) := by
  refine zintro (cc := prog_1_method_26_code) (maxL := 4) (ret := none) (by decide) rfl (Nat.le_of_ble_eq_true rfl) ?_
  intro p e s m below meth c ls hx hb hr hml hts hown hlocks hl B
  have hl : lv_has ls 4 [(0, .ref (aA κ 0)), (1, .int (p1))] := hl
  have B : BA κ (va_A (wA κ σ) s.heap.size) s.heap s σ s.heap [] := B
  have hr : meth.sig.returnType = none := hr
  have hown : s.vm.findClass "UnitThreads" = some m.cls := hown
  show W p l e (headSpec (zws y_Ut_holdThrowers prog_1_method_26_code 4 none) ({ frames := 1, cells := 0, slots := 0, locals := 23 })).room s m [.ref (aA κ 0), .int (p1)].toArray below meth c s.heap [] 0 0 (MQ below (va_Qv (fun σ' => σ' = fx_hold (nA κ) p1 σ) (zQ κ.1 vwCl (tysA κ) (wA κ) (va_A (wA κ σ) s.heap.size)) (va_A (wA κ σ) s.heap.size)) [.ref (aA κ 0), .int (p1)].toArray s 0 0 (va_A (wA κ σ) s.heap.size)) (F0 m 0 ls [])
  generalize va_A (wA κ σ) s.heap.size = A at B ⊢
  have hts : ∀ w ∈ zW, w.before [.ref (aA κ 0), .int (p1)].toArray s = true := fun w h => hts w (List.mem_cons_of_mem _ h)
  have L_2 : ∀ (j : Nat) (k : Nat) (τ : zS), (k + j = nA κ) → (fx_hold (nA κ) p1 σ = zit (fx_hold1 p1) j k τ) → (τ.1 12 0 = nI E) → (∀ u, u < nA κ → τ.1 7 u = 2 → zin (τ.1 4 u) E) → ∀ (H : Heap) (locs : List Loc), BA κ A s.heap s τ H locs → ∀ (ls : Array Slot), lv_has ls 4 [(0, .ref (aA κ 0)), (1, .int (p1)), (2, .int (nI k))] → W p l e (headSpec (zws y_Ut_holdThrowers prog_1_method_26_code 4 none) ({ frames := 1, cells := 0, slots := 0, locals := 23 })).room s m [.ref (aA κ 0), .int (p1)].toArray below meth c H locs 0 0 (MQ below (va_Qv (fun σ' => σ' = fx_hold (nA κ) p1 σ) (zQ κ.1 vwCl (tysA κ) (wA κ) A) A) [.ref (aA κ 0), .int (p1)].toArray s 0 0 A) (F0 m 2 ls []) := by
    intro j
    induction j with
    | zero =>
      intro k τ hj hst hE hT H locs B ls hl
      refine lv_iload_n hx hb d_Ut_holdThrowers_2 rfl (lv_at hl 2 rfl) ?_
      refine lv_aload_n hx hb d_Ut_holdThrowers_3 rfl (lv_at hl 0 rfl) ?_
      refine va_get (D := κ.1) (ci := 5) (v := .ref (aA κ 1)) (C := "UnitThreads") (T := T_Ut) (N := 7) hx hb hts in_Ut hown B.1 B.2.1 0 (wa_0 κ τ) rfl 0 (by decide) (hts _ w_167) (fun _ h9 => h9) rfl d_Ut_holdThrowers_4 ?_
      refine zalen hx hb B 1 2 (wa_1 κ τ) rfl d_Ut_holdThrowers_7 ?_
      refine lv_icmp_ge (tgt := 61) hx hb d_Ut_holdThrowers_8 (by decide) (fun c_1 => ?_) (fun c_1 => ?_)
      · have c_1 := (nI_leI (a := nA κ) (b := k) (by omega) (by omega)).mp c_1
        exact zret_v hx hb hr hlocks B (hst.symm) d_Ut_holdThrowers_61
      · have c_1 := (not_congr (nI_leI (a := nA κ) (b := k) (by omega) (by omega))).mp c_1
        exact absurd c_1 (by omega)
    | succ j ih =>
      intro k τ hj hst hE hT H locs B ls hl
      refine lv_iload_n hx hb d_Ut_holdThrowers_2 rfl (lv_at hl 2 rfl) ?_
      refine lv_aload_n hx hb d_Ut_holdThrowers_3 rfl (lv_at hl 0 rfl) ?_
      refine va_get (D := κ.1) (ci := 5) (v := .ref (aA κ 1)) (C := "UnitThreads") (T := T_Ut) (N := 7) hx hb hts in_Ut hown B.1 B.2.1 0 (wa_0 κ τ) rfl 0 (by decide) (hts _ w_167) (fun _ h9 => h9) rfl d_Ut_holdThrowers_4 ?_
      refine zalen hx hb B 1 2 (wa_1 κ τ) rfl d_Ut_holdThrowers_7 ?_
      refine lv_icmp_ge (tgt := 61) hx hb d_Ut_holdThrowers_8 (by decide) (fun c_2 => ?_) (fun c_2 => ?_)
      · have c_2 := (nI_leI (a := nA κ) (b := k) (by omega) (by omega)).mp c_2
        exact absurd c_2 (by omega)
      · have c_2 := (not_congr (nI_leI (a := nA κ) (b := k) (by omega) (by omega))).mp c_2
        refine lv_aload_n hx hb d_Ut_holdThrowers_11 rfl (lv_at hl 0 rfl) ?_
        refine va_get (D := κ.1) (ci := 5) (v := .ref (aA κ 1)) (C := "UnitThreads") (T := T_Ut) (N := 7) hx hb hts in_Ut hown B.1 B.2.1 0 (wa_0 κ τ) rfl 0 (by decide) (hts _ w_167) (fun _ h9 => h9) rfl d_Ut_holdThrowers_12 ?_
        refine lv_iload_n hx hb d_Ut_holdThrowers_15 rfl (lv_at hl 2 rfl) ?_
        have hu_3 : k < nA κ := (by omega)
        refine zaald hx hb B 1 2 (wa_1 κ τ) rfl k rfl hu_3 (by omega) rfl d_Ut_holdThrowers_16 ?_
        refine lv_astore_n (lv' := [(3, .ref (aA κ (64 + k))), (0, .ref (aA κ 0)), (1, .int (p1)), (2, .int (nI k))]) hx hb d_Ut_holdThrowers_17 rfl hl (by decide) rfl (fun ls hl => ?_)
        refine lv_aload_n hx hb d_Ut_holdThrowers_18 rfl (lv_at hl 0 rfl) ?_
        refine va_get (D := κ.1) (ci := 0) (v := .int (τ.1 7 k)) (C := "UnitThreads$Unit") (T := T_Un) (N := 8) hx hb hts in_Un hown B.1 B.2.1 (43 + k) (wa_u κ τ hu_3) rfl 7 (by decide) (hts _ w_50) (fun _ h9 => h9) rfl d_Ut_holdThrowers_19 ?_
        refine lv_iconst (v := 2) hx hb d_Ut_holdThrowers_22 (by decide) ?_
        refine lv_icmp_ne (tgt := 55) hx hb d_Ut_holdThrowers_23 (by decide) (fun c_4 => ?_) (fun c_4 => ?_)
        · refine lv_iinc (v := nI (k + 1)) (lv' := [(2, .int (nI (k + 1))), (3, .ref (aA κ (64 + k))), (0, .ref (aA κ 0)), (1, .int (p1))]) hx hb d_Ut_holdThrowers_55 hl (k := 3) rfl (zinc _) (by decide) rfl (fun ls hl => ?_)
          refine lv_goto (tgt := 2) hx hb d_Ut_holdThrowers_58 (by decide) ?_
          exact ih (k + 1) τ (by omega) (by rw [hst]; simp [zit, fx_hold1, c_2, c_4]) hE hT _ _ B ls (lv_sub hl [2, 3, 0] rfl)
        · refine lv_aload_n hx hb d_Ut_holdThrowers_26 rfl (lv_at hl 1 rfl) ?_
          refine va_get (D := κ.1) (ci := 5) (v := .ref (aA κ 2)) (C := "UnitThreads") (T := T_Ut) (N := 7) hx hb hts in_Ut hown B.1 B.2.1 0 (wa_0 κ τ) rfl 1 (by decide) (hts _ w_168) (fun _ h9 => h9) rfl d_Ut_holdThrowers_27 ?_
          refine lv_aload_n hx hb d_Ut_holdThrowers_30 rfl (lv_at hl 0 rfl) ?_
          refine va_get (D := κ.1) (ci := 0) (v := .int (τ.1 4 k)) (C := "UnitThreads$Unit") (T := T_Un) (N := 8) hx hb hts in_Un hown B.1 B.2.1 (43 + k) (wa_u κ τ hu_3) rfl 4 (by decide) (hts _ w_43) (fun _ h9 => h9) rfl d_Ut_holdThrowers_31 ?_
          refine zrwi (y := nI (tn (τ.1 4 k))) ((hT k (by omega) c_4).1) ?_
          refine zcV_v (As := [.int (nI (tn (τ.1 4 k)))]) (rest := []) ⟨hx, hb, hml, hown, hts⟩ (c_En_markThrown l κ τ (tn (τ.1 4 k)) E hE hE3 (hT k (by omega) c_4).2) (cwV 1 hts (zgoodV w_293 w_294 w_295 w_4 w_296) rfl rfl rfl (by decide +kernel) ⟨Nat.le_of_ble_eq_true rfl, Nat.le_of_ble_eq_true rfl⟩) B (zrecv B (ci := 1) rfl (wa_2 κ τ)) rfl hl.1 rfl (Nat.le_of_ble_eq_true rfl) d_Ut_holdThrowers_34 ⟨Nat.zero_le _, Nat.zero_le _⟩ (fun σ' H locs hp B => ?_)
          rw [hp] at B
          have B : BA κ A s.heap s (zi τ 8 (tn (τ.1 4 k)) 3) H locs := B
          refine lv_aload_n hx hb d_Ut_holdThrowers_37 rfl (lv_at hl 0 rfl) ?_
          refine lv_iconst (v := 2) hx hb d_Ut_holdThrowers_38 (by decide) ?_
          refine zput (ci := 0) (v := .int (2)) (ty := .int) (C := "UnitThreads$Unit") (T := T_Un) (N := 8) hx hb hts in_Un ty_Un tyok_Un nm_Un hown B (43 + k) (wa_u κ (zi τ 8 (tn (τ.1 4 k)) 3) hu_3) rfl 2 (by decide) (hts _ w_38) (fun _ h9 => h9) rfl (by decide +kernel) rfl rfl (Nat.le_of_ble_eq_true rfl) (wq_2 κ (zi τ 8 (tn (τ.1 4 k)) 3) hu_3 2) d_Ut_holdThrowers_39 (fun H locs B => ?_)
          have B : BA κ A s.heap s (zi (zi τ 8 (tn (τ.1 4 k)) 3) 2 k 2) H locs := B
          refine lv_aload_n hx hb d_Ut_holdThrowers_42 rfl (lv_at hl 0 rfl) ?_
          refine lv_iload_n hx hb d_Ut_holdThrowers_43 rfl (lv_at hl 2 rfl) ?_
          refine zput (ci := 0) (v := .int (p1)) (ty := .int) (C := "UnitThreads$Unit") (T := T_Un) (N := 8) hx hb hts in_Un ty_Un tyok_Un nm_Un hown B (43 + k) (wa_u κ (zi (zi τ 8 (tn (τ.1 4 k)) 3) 2 k 2) hu_3) rfl 3 (by decide) (hts _ w_40) (fun _ h9 => h9) rfl (by decide +kernel) rfl rfl (Nat.le_of_ble_eq_true rfl) (wq_3 κ (zi (zi τ 8 (tn (τ.1 4 k)) 3) 2 k 2) hu_3 p1) d_Ut_holdThrowers_44 (fun H locs B => ?_)
          have B : BA κ A s.heap s (zi (zi (zi τ 8 (tn (τ.1 4 k)) 3) 2 k 2) 3 k p1) H locs := B
          refine lv_aload_n hx hb d_Ut_holdThrowers_47 rfl (lv_at hl 1 rfl) ?_
          refine va_get (D := κ.1) (ci := 5) (v := .ref (aA κ 14)) (C := "UnitThreads") (T := T_Ut) (N := 7) hx hb hts in_Ut hown B.1 B.2.1 0 (wa_0 κ (zi (zi (zi τ 8 (tn (τ.1 4 k)) 3) 2 k 2) 3 k p1)) rfl 4 (by decide) (hts _ w_171) (fun _ h9 => h9) rfl d_Ut_holdThrowers_48 ?_
          refine lv_iload_n hx hb d_Ut_holdThrowers_51 rfl (lv_at hl 3 rfl) ?_
          refine zcV_v (As := [.int (nI k)]) (rest := []) ⟨hx, hb, hml, hown, hts⟩ (c_Bo_makeSafe l κ (zi (zi (zi τ 8 (tn (τ.1 4 k)) 3) 2 k 2) 3 k p1) k (by omega) hn) (cwV 1 hts (zgoodV w_297 w_298 w_299 w_7 w_300) rfl rfl rfl (by decide +kernel) ⟨Nat.le_of_ble_eq_true rfl, Nat.le_of_ble_eq_true rfl⟩) B (zrecv B (ci := 4) rfl (wa_14 κ (zi (zi (zi τ 8 (tn (τ.1 4 k)) 3) 2 k 2) 3 k p1))) rfl hl.1 rfl (Nat.le_of_ble_eq_true rfl) d_Ut_holdThrowers_52 ⟨Nat.zero_le _, Nat.zero_le _⟩ (fun σ' H locs hp B => ?_)
          rw [hp] at B
          have B : BA κ A s.heap s (fx_makeSafe (zi (zi (zi τ 8 (tn (τ.1 4 k)) 3) 2 k 2) 3 k p1) k) H locs := B
          refine lv_iinc (v := nI (k + 1)) (lv' := [(2, .int (nI (k + 1))), (3, .ref (aA κ (64 + k))), (0, .ref (aA κ 0)), (1, .int (p1))]) hx hb d_Ut_holdThrowers_55 hl (k := 3) rfl (zinc _) (by decide) rfl (fun ls hl => ?_)
          refine lv_goto (tgt := 2) hx hb d_Ut_holdThrowers_58 (by decide) ?_
          exact ih (k + 1) (fx_makeSafe (zi (zi (zi τ 8 (tn (τ.1 4 k)) 3) 2 k 2) 3 k p1) k) (by omega) (by rw [hst]; simp [zit, fx_hold1, c_2, c_4]) (by rw [fx_makeSafe_1]; exact hE) (by rw [fx_makeSafe_1]; exact hT) _ _ B ls (lv_sub hl [2, 3, 0] rfl)
  refine lv_iconst (v := nI 0) hx hb d_Ut_holdThrowers_0 (by decide) ?_
  refine lv_istore_n (lv' := [(2, .int (nI 0)), (0, .ref (aA κ 0)), (1, .int (p1))]) hx hb d_Ut_holdThrowers_1 rfl hl (by decide) rfl (fun ls hl => ?_)
  exact L_2 (nA κ) 0 σ (by omega) rfl hE hT _ _ B ls (lv_sub hl [1, 2, 0] rfl)
set_option maxHeartbeats 4000000 in
set_option maxRecDepth 100000 in
theorem c_Ut_leastAsker (l : Launch) (κ : KA) (σ : zS) (p1 : Int32) (hn : nA κ ≤ 8) : zMi l y_Ut_leastAsker (zws y_Ut_leastAsker prog_1_method_28_code 3 (some .int)) ({ frames := 1, cells := 0, slots := 0, locals := 21 }) κ.1 vwCl (tysA κ) nwA (wA κ) σ [.ref (aA κ 0), .int (p1)] (fun r σ' => r = fx_least σ p1 (nA κ) 0 ∧ σ' = σ) := by
  refine zintro (cc := prog_1_method_28_code) (maxL := 3) (ret := (some .int)) (by decide) rfl (Nat.le_of_ble_eq_true rfl) ?_
  intro p e s m below meth c ls hx hb hr hml hts hown hlocks hl B
  have hl : lv_has ls 3 [(0, .ref (aA κ 0)), (1, .int (p1))] := hl
  have B : BA κ (va_A (wA κ σ) s.heap.size) s.heap s σ s.heap [] := B
  have hr : meth.sig.returnType = (some .int) := hr
  have hown : s.vm.findClass "UnitThreads" = some m.cls := hown
  show W p l e (headSpec (zws y_Ut_leastAsker prog_1_method_28_code 3 (some .int)) ({ frames := 1, cells := 0, slots := 0, locals := 21 })).room s m [.ref (aA κ 0), .int (p1)].toArray below meth c s.heap [] 0 0 (MQ below (va_Qi (fun r σ' => r = fx_least σ p1 (nA κ) 0 ∧ σ' = σ) (zQ κ.1 vwCl (tysA κ) (wA κ) (va_A (wA κ σ) s.heap.size)) (va_A (wA κ σ) s.heap.size)) [.ref (aA κ 0), .int (p1)].toArray s 0 0 (va_A (wA κ σ) s.heap.size)) (F0 m 0 ls [])
  generalize va_A (wA κ σ) s.heap.size = A at B ⊢
  have hts : ∀ w ∈ zW, w.before [.ref (aA κ 0), .int (p1)].toArray s = true := fun w h => hts w (List.mem_cons_of_mem _ h)
  have L_2 : ∀ (j : Nat) (k : Nat), (k + j = nA κ) → (fx_least σ p1 (nA κ) 0 = fx_least σ p1 j k) → ∀ (H : Heap) (locs : List Loc), BA κ A s.heap s σ H locs → ∀ (ls : Array Slot), lv_has ls 3 [(0, .ref (aA κ 0)), (1, .int (p1)), (2, .int (nI k))] → W p l e (headSpec (zws y_Ut_leastAsker prog_1_method_28_code 3 (some .int)) ({ frames := 1, cells := 0, slots := 0, locals := 21 })).room s m [.ref (aA κ 0), .int (p1)].toArray below meth c H locs 0 0 (MQ below (va_Qi (fun r σ' => r = fx_least σ p1 (nA κ) 0 ∧ σ' = σ) (zQ κ.1 vwCl (tysA κ) (wA κ) A) A) [.ref (aA κ 0), .int (p1)].toArray s 0 0 A) (F0 m 2 ls []) := by
    intro j
    induction j with
    | zero =>
      intro k hj hst H locs B ls hl
      refine lv_iload_n hx hb d_Ut_leastAsker_2 rfl (lv_at hl 2 rfl) ?_
      refine lv_aload_n hx hb d_Ut_leastAsker_3 rfl (lv_at hl 0 rfl) ?_
      refine va_get (D := κ.1) (ci := 5) (v := .ref (aA κ 1)) (C := "UnitThreads") (T := T_Ut) (N := 7) hx hb hts in_Ut hown B.1 B.2.1 0 (wa_0 κ σ) rfl 0 (by decide) (hts _ w_167) (fun _ h9 => h9) rfl d_Ut_leastAsker_4 ?_
      refine zalen hx hb B 1 2 (wa_1 κ σ) rfl d_Ut_leastAsker_7 ?_
      refine lv_icmp_ge (tgt := 48) hx hb d_Ut_leastAsker_8 (by decide) (fun c_1 => ?_) (fun c_1 => ?_)
      · have c_1 := (nI_leI (a := nA κ) (b := k) (by omega) (by omega)).mp c_1
        refine lv_iconst (v := (-1)) hx hb d_Ut_leastAsker_48 (by decide) ?_
        exact zret_i hx hb hr hlocks B (⟨by rw [hst]; simp [fx_least, c_1], rfl⟩) d_Ut_leastAsker_49
      · have c_1 := (not_congr (nI_leI (a := nA κ) (b := k) (by omega) (by omega))).mp c_1
        exact absurd c_1 (by omega)
    | succ j ih =>
      intro k hj hst H locs B ls hl
      refine lv_iload_n hx hb d_Ut_leastAsker_2 rfl (lv_at hl 2 rfl) ?_
      refine lv_aload_n hx hb d_Ut_leastAsker_3 rfl (lv_at hl 0 rfl) ?_
      refine va_get (D := κ.1) (ci := 5) (v := .ref (aA κ 1)) (C := "UnitThreads") (T := T_Ut) (N := 7) hx hb hts in_Ut hown B.1 B.2.1 0 (wa_0 κ σ) rfl 0 (by decide) (hts _ w_167) (fun _ h9 => h9) rfl d_Ut_leastAsker_4 ?_
      refine zalen hx hb B 1 2 (wa_1 κ σ) rfl d_Ut_leastAsker_7 ?_
      refine lv_icmp_ge (tgt := 48) hx hb d_Ut_leastAsker_8 (by decide) (fun c_2 => ?_) (fun c_2 => ?_)
      · have c_2 := (nI_leI (a := nA κ) (b := k) (by omega) (by omega)).mp c_2
        exact absurd c_2 (by omega)
      · have c_2 := (not_congr (nI_leI (a := nA κ) (b := k) (by omega) (by omega))).mp c_2
        refine lv_aload_n hx hb d_Ut_leastAsker_11 rfl (lv_at hl 0 rfl) ?_
        refine va_get (D := κ.1) (ci := 5) (v := .ref (aA κ 1)) (C := "UnitThreads") (T := T_Ut) (N := 7) hx hb hts in_Ut hown B.1 B.2.1 0 (wa_0 κ σ) rfl 0 (by decide) (hts _ w_167) (fun _ h9 => h9) rfl d_Ut_leastAsker_12 ?_
        refine lv_iload_n hx hb d_Ut_leastAsker_15 rfl (lv_at hl 2 rfl) ?_
        have hu_3 : k < nA κ := (by omega)
        refine zaald hx hb B 1 2 (wa_1 κ σ) rfl k rfl hu_3 (by omega) rfl d_Ut_leastAsker_16 ?_
        refine va_get (D := κ.1) (ci := 0) (v := .int (σ.1 7 k)) (C := "UnitThreads$Unit") (T := T_Un) (N := 8) hx hb hts in_Un hown B.1 B.2.1 (43 + k) (wa_u κ σ hu_3) rfl 7 (by decide) (hts _ w_50) (fun _ h9 => h9) rfl d_Ut_leastAsker_17 ?_
        refine lv_iconst (v := 1) hx hb d_Ut_leastAsker_20 (by decide) ?_
        refine lv_icmp_ne (tgt := 42) hx hb d_Ut_leastAsker_21 (by decide) (fun c_4 => ?_) (fun c_4 => ?_)
        · refine lv_iinc (v := nI (k + 1)) (lv' := [(2, .int (nI (k + 1))), (0, .ref (aA κ 0)), (1, .int (p1))]) hx hb d_Ut_leastAsker_42 hl (k := 2) rfl (zinc _) (by decide) rfl (fun ls hl => ?_)
          refine lv_goto (tgt := 2) hx hb d_Ut_leastAsker_45 (by decide) ?_
          exact ih (k + 1) (by omega) (by rw [hst]; simp [fx_least, c_2, c_4]) _ _ B ls (lv_sub hl [1, 2, 0] rfl)
        · refine lv_aload_n hx hb d_Ut_leastAsker_24 rfl (lv_at hl 0 rfl) ?_
          refine va_get (D := κ.1) (ci := 5) (v := .ref (aA κ 1)) (C := "UnitThreads") (T := T_Ut) (N := 7) hx hb hts in_Ut hown B.1 B.2.1 0 (wa_0 κ σ) rfl 0 (by decide) (hts _ w_167) (fun _ h9 => h9) rfl d_Ut_leastAsker_25 ?_
          refine lv_iload_n hx hb d_Ut_leastAsker_28 rfl (lv_at hl 2 rfl) ?_
          have hu_5 : k < nA κ := (by omega)
          refine zaald hx hb B 1 2 (wa_1 κ σ) rfl k rfl hu_5 (by omega) rfl d_Ut_leastAsker_29 ?_
          refine zcV_i (As := []) (rest := []) ⟨hx, hb, hml, hown, hts⟩ (c_Un_asked l κ σ k hu_5 ) (cwV 0 hts (zgoodV w_309 w_310 w_311 w_3 w_312) rfl rfl rfl (by decide +kernel) ⟨Nat.le_of_ble_eq_true rfl, Nat.le_of_ble_eq_true rfl⟩) B (zrecv B (ci := 0) rfl (wa_u κ σ hu_5)) rfl hl.1 rfl (Nat.le_of_ble_eq_true rfl) d_Ut_leastAsker_30 ⟨Nat.zero_le _, Nat.zero_le _⟩ (fun r σ' H locs hp B => ?_)
          obtain ⟨rfl, hp⟩ := hp
          rw [hp] at B
          have B : BA κ A s.heap s σ H locs := B
          refine lv_iload_n hx hb d_Ut_leastAsker_33 rfl (lv_at hl 1 rfl) ?_
          refine zcS_i (As := [.int (fx_asked σ k), .int (p1)]) (rest := []) ⟨hx, hb, hml, hown, hts⟩ (c_Ut_hasWay l κ σ (fx_asked σ k) p1 ) (cwS 2 hts (zgoodS w_239 w_240 w_1 w_241) rfl rfl rfl (by decide +kernel) ⟨Nat.le_of_ble_eq_true rfl, Nat.le_of_ble_eq_true rfl⟩) B rfl hl.1 rfl (Nat.le_of_ble_eq_true rfl) d_Ut_leastAsker_34 ⟨Nat.zero_le _, Nat.zero_le _⟩ (fun r σ' H locs hp B => ?_)
          obtain ⟨rfl, hp⟩ := hp
          rw [hp] at B
          have B : BA κ A s.heap s σ H locs := B
          refine lv_if_eq (tgt := 42) hx hb d_Ut_leastAsker_37 (by decide) (fun c_6 => ?_) (fun c_6 => ?_)
          · have c_6 := zb_eq0.mp c_6
            refine lv_iinc (v := nI (k + 1)) (lv' := [(2, .int (nI (k + 1))), (0, .ref (aA κ 0)), (1, .int (p1))]) hx hb d_Ut_leastAsker_42 hl (k := 2) rfl (zinc _) (by decide) rfl (fun ls hl => ?_)
            refine lv_goto (tgt := 2) hx hb d_Ut_leastAsker_45 (by decide) ?_
            exact ih (k + 1) (by omega) (by rw [hst]; simp [fx_least, c_2, c_4, c_6]) _ _ B ls (lv_sub hl [1, 2, 0] rfl)
          · have c_6 := zb_ne0.mp c_6
            refine lv_iload_n hx hb d_Ut_leastAsker_40 rfl (lv_at hl 2 rfl) ?_
            exact zret_i hx hb hr hlocks B (⟨by rw [hst]; simp [fx_least, c_2, c_4, c_6], rfl⟩) d_Ut_leastAsker_41
  refine lv_iconst (v := nI 0) hx hb d_Ut_leastAsker_0 (by decide) ?_
  refine lv_istore_n (lv' := [(2, .int (nI 0)), (0, .ref (aA κ 0)), (1, .int (p1))]) hx hb d_Ut_leastAsker_1 rfl hl (by decide) rfl (fun ls hl => ?_)
  exact L_2 (nA κ) 0 (by omega) rfl _ _ B ls (lv_sub hl [1, 2, 0] rfl)
set_option maxHeartbeats 4000000 in
set_option maxRecDepth 100000 in
theorem c_Ut_grantWays (l : Launch) (κ : KA) (σ : zS) (p1 : Int32) (hn : nA κ ≤ 8) : zMv l y_Ut_grantWays (zws y_Ut_grantWays prog_1_method_27_code 3 none) ({ frames := 2, cells := 0, slots := 0, locals := 43 }) κ.1 vwCl (tysA κ) nwA (wA κ) σ [.ref (aA κ 0), .int (p1)] (fun σ' => σ' = fx_grant (nA κ) p1 σ) := by
  refine zintro (cc := prog_1_method_27_code) (maxL := 3) (ret := none) (by decide) rfl (Nat.le_of_ble_eq_true rfl) ?_
  intro p e s m below meth c ls hx hb hr hml hts hown hlocks hl B
  have hl : lv_has ls 3 [(0, .ref (aA κ 0)), (1, .int (p1))] := hl
  have B : BA κ (va_A (wA κ σ) s.heap.size) s.heap s σ s.heap [] := B
  have hr : meth.sig.returnType = none := hr
  have hown : s.vm.findClass "UnitThreads" = some m.cls := hown
  show W p l e (headSpec (zws y_Ut_grantWays prog_1_method_27_code 3 none) ({ frames := 2, cells := 0, slots := 0, locals := 43 })).room s m [.ref (aA κ 0), .int (p1)].toArray below meth c s.heap [] 0 0 (MQ below (va_Qv (fun σ' => σ' = fx_grant (nA κ) p1 σ) (zQ κ.1 vwCl (tysA κ) (wA κ) (va_A (wA κ σ) s.heap.size)) (va_A (wA κ σ) s.heap.size)) [.ref (aA κ 0), .int (p1)].toArray s 0 0 (va_A (wA κ σ) s.heap.size)) (F0 m 0 ls [])
  generalize va_A (wA κ σ) s.heap.size = A at B ⊢
  have hts : ∀ w ∈ zW, w.before [.ref (aA κ 0), .int (p1)].toArray s = true := fun w h => hts w (List.mem_cons_of_mem _ h)
  have L_2 : ∀ (j : Nat) (k : Nat) (τ : zS), (k + j = 16) → (fx_grant (nA κ) p1 σ = zit (fx_grant1 (nA κ) p1) j k τ) → ∀ (H : Heap) (locs : List Loc), BA κ A s.heap s τ H locs → ∀ (ls : Array Slot), lv_has ls 3 [(0, .ref (aA κ 0)), (1, .int (p1)), (2, .int (nI k))] → W p l e (headSpec (zws y_Ut_grantWays prog_1_method_27_code 3 none) ({ frames := 2, cells := 0, slots := 0, locals := 43 })).room s m [.ref (aA κ 0), .int (p1)].toArray below meth c H locs 0 0 (MQ below (va_Qv (fun σ' => σ' = fx_grant (nA κ) p1 σ) (zQ κ.1 vwCl (tysA κ) (wA κ) A) A) [.ref (aA κ 0), .int (p1)].toArray s 0 0 A) (F0 m 2 ls []) := by
    intro j
    induction j with
    | zero =>
      intro k τ hj hst H locs B ls hl
      refine lv_iload_n hx hb d_Ut_grantWays_2 rfl (lv_at hl 2 rfl) ?_
      refine lv_bipush (v := nI 16) hx hb d_Ut_grantWays_3 (by decide) ?_
      refine lv_icmp_ge (tgt := 49) hx hb d_Ut_grantWays_5 (by decide) (fun c_1 => ?_) (fun c_1 => ?_)
      · have c_1 := (nI_leI (a := 16) (b := k) (by omega) (by omega)).mp c_1
        exact zret_v hx hb hr hlocks B (hst.symm) d_Ut_grantWays_49
      · have c_1 := (not_congr (nI_leI (a := 16) (b := k) (by omega) (by omega))).mp c_1
        exact absurd c_1 (by omega)
    | succ j ih =>
      intro k τ hj hst H locs B ls hl
      refine lv_iload_n hx hb d_Ut_grantWays_2 rfl (lv_at hl 2 rfl) ?_
      refine lv_bipush (v := nI 16) hx hb d_Ut_grantWays_3 (by decide) ?_
      refine lv_icmp_ge (tgt := 49) hx hb d_Ut_grantWays_5 (by decide) (fun c_2 => ?_) (fun c_2 => ?_)
      · have c_2 := (nI_leI (a := 16) (b := k) (by omega) (by omega)).mp c_2
        exact absurd c_2 (by omega)
      · have c_2 := (not_congr (nI_leI (a := 16) (b := k) (by omega) (by omega))).mp c_2
        refine lv_aload_n hx hb d_Ut_grantWays_8 rfl (lv_at hl 0 rfl) ?_
        refine va_get (D := κ.1) (ci := 5) (v := .ref (aA κ 14)) (C := "UnitThreads") (T := T_Ut) (N := 7) hx hb hts in_Ut hown B.1 B.2.1 0 (wa_0 κ τ) rfl 4 (by decide) (hts _ w_171) (fun _ h9 => h9) rfl d_Ut_grantWays_9 ?_
        refine va_get (D := κ.1) (ci := 4) (v := .ref (aA κ 17)) (C := "UnitThreads$Board") (T := T_Bo) (N := 6) hx hb hts in_Bo hown B.1 B.2.1 14 (wa_14 κ τ) rfl 2 (by decide) (hts _ w_149) (fun _ h9 => h9) rfl d_Ut_grantWays_12 ?_
        refine lv_iload_n hx hb d_Ut_grantWays_15 rfl (lv_at hl 2 rfl) ?_
        refine ziald hx hb B 17 0 (wa_17 κ τ) rfl k rfl (by omega) (by decide) d_Ut_grantWays_16 ?_
        refine lv_iconst (v := (-1)) hx hb d_Ut_grantWays_17 (by decide) ?_
        refine lv_icmp_ne (tgt := 43) hx hb d_Ut_grantWays_18 (by decide) (fun c_3 => ?_) (fun c_3 => ?_)
        · refine lv_iinc (v := nI (k + 1)) (lv' := [(2, .int (nI (k + 1))), (0, .ref (aA κ 0)), (1, .int (p1))]) hx hb d_Ut_grantWays_43 hl (k := 2) rfl (zinc _) (by decide) rfl (fun ls hl => ?_)
          refine lv_goto (tgt := 2) hx hb d_Ut_grantWays_46 (by decide) ?_
          exact ih (k + 1) τ (by omega) (by rw [hst]; simp [zit, fx_grant1, c_2, c_3]) _ _ B ls (lv_sub hl [1, 2, 0] rfl)
        · refine lv_iload_n hx hb d_Ut_grantWays_21 rfl (lv_at hl 1 rfl) ?_
          refine lv_iload_n hx hb d_Ut_grantWays_22 rfl (lv_at hl 2 rfl) ?_
          refine zcS_i (As := [.int (p1), .int (nI k)]) (rest := []) ⟨hx, hb, hml, hown, hts⟩ (c_Ut_hasWay l κ τ p1 (nI k) ) (cwS 2 hts (zgoodS w_239 w_240 w_1 w_241) rfl rfl rfl (by decide +kernel) ⟨Nat.le_of_ble_eq_true rfl, Nat.le_of_ble_eq_true rfl⟩) B rfl hl.1 rfl (Nat.le_of_ble_eq_true rfl) d_Ut_grantWays_23 ⟨Nat.zero_le _, Nat.zero_le _⟩ (fun r σ' H locs hp B => ?_)
          obtain ⟨rfl, hp⟩ := hp
          rw [hp] at B
          have B : BA κ A s.heap s τ H locs := B
          refine lv_if_ne (tgt := 43) hx hb d_Ut_grantWays_26 (by decide) (fun c_4 => ?_) (fun c_4 => ?_)
          · have c_4 := zb_ne0.mp c_4
            refine lv_iinc (v := nI (k + 1)) (lv' := [(2, .int (nI (k + 1))), (0, .ref (aA κ 0)), (1, .int (p1))]) hx hb d_Ut_grantWays_43 hl (k := 2) rfl (zinc _) (by decide) rfl (fun ls hl => ?_)
            refine lv_goto (tgt := 2) hx hb d_Ut_grantWays_46 (by decide) ?_
            exact ih (k + 1) τ (by omega) (by rw [hst]; simp [zit, fx_grant1, c_2, c_3, c_4]) _ _ B ls (lv_sub hl [1, 2, 0] rfl)
          · have c_4 := zb_eq0.mp c_4
            refine lv_aload_n hx hb d_Ut_grantWays_29 rfl (lv_at hl 0 rfl) ?_
            refine va_get (D := κ.1) (ci := 5) (v := .ref (aA κ 14)) (C := "UnitThreads") (T := T_Ut) (N := 7) hx hb hts in_Ut hown B.1 B.2.1 0 (wa_0 κ τ) rfl 4 (by decide) (hts _ w_171) (fun _ h9 => h9) rfl d_Ut_grantWays_30 ?_
            refine va_get (D := κ.1) (ci := 4) (v := .ref (aA κ 17)) (C := "UnitThreads$Board") (T := T_Bo) (N := 6) hx hb hts in_Bo hown B.1 B.2.1 14 (wa_14 κ τ) rfl 2 (by decide) (hts _ w_149) (fun _ h9 => h9) rfl d_Ut_grantWays_33 ?_
            refine lv_iload_n hx hb d_Ut_grantWays_36 rfl (lv_at hl 2 rfl) ?_
            refine lv_aload_n hx hb d_Ut_grantWays_37 rfl (lv_at hl 0 rfl) ?_
            refine lv_iload_n hx hb d_Ut_grantWays_38 rfl (lv_at hl 2 rfl) ?_
            refine zcV_i (As := [.int (nI k)]) (rest := [.int (nI k), .ref (aA κ 17)]) ⟨hx, hb, hml, hown, hts⟩ (c_Ut_leastAsker l κ τ (nI k) hn) (cwV 1 hts (zgoodV w_305 w_307 s_10 w_1 w_308) rfl rfl rfl (by decide +kernel) ⟨Nat.le_of_ble_eq_true rfl, Nat.le_of_ble_eq_true rfl⟩) B (zrecv B (ci := 5) rfl (wa_0 κ τ)) rfl hl.1 rfl (Nat.le_of_ble_eq_true rfl) d_Ut_grantWays_39 ⟨Nat.zero_le _, Nat.zero_le _⟩ (fun r σ' H locs hp B => ?_)
            obtain ⟨rfl, hp⟩ := hp
            rw [hp] at B
            have B : BA κ A s.heap s τ H locs := B
            refine ziast hx hb B 17 0 (wa_17 κ τ) rfl k rfl (by omega) (by decide) (ws_17 κ τ k (fx_least τ (nI k) (nA κ) 0)) d_Ut_grantWays_42 (fun H locs B => ?_)
            have B : BA κ A s.heap s (zi τ 19 k (fx_least τ (nI k) (nA κ) 0)) H locs := B
            refine lv_iinc (v := nI (k + 1)) (lv' := [(2, .int (nI (k + 1))), (0, .ref (aA κ 0)), (1, .int (p1))]) hx hb d_Ut_grantWays_43 hl (k := 2) rfl (zinc _) (by decide) rfl (fun ls hl => ?_)
            refine lv_goto (tgt := 2) hx hb d_Ut_grantWays_46 (by decide) ?_
            exact ih (k + 1) (zi τ 19 k (fx_least τ (nI k) (nA κ) 0)) (by omega) (by rw [hst]; simp [zit, fx_grant1, c_2, c_3, c_4]) _ _ B ls (lv_sub hl [1, 2, 0] rfl)
  refine lv_iconst (v := nI 0) hx hb d_Ut_grantWays_0 (by decide) ?_
  refine lv_istore_n (lv' := [(2, .int (nI 0)), (0, .ref (aA κ 0)), (1, .int (p1))]) hx hb d_Ut_grantWays_1 rfl hl (by decide) rfl (fun ls hl => ?_)
  exact L_2 16 0 σ (by omega) rfl _ _ B ls (lv_sub hl [1, 2, 0] rfl)
set_option maxHeartbeats 4000000 in
set_option maxRecDepth 100000 in
theorem c_Ut_settle (l : Launch) (κ : KA) (σ : zS) (hn : nA κ ≤ 8) (E : Nat) (hE : σ.1 12 0 = nI E) (hE3 : E ≤ 300) (hU : ∀ e, e < E → zin (σ.1 9 e) (nA κ)) (hT : ∀ e, e < E → σ.1 8 e = 0 → zin (σ.1 11 e) (nA κ * 4)) : zMv l y_Ut_settle (zws y_Ut_settle prog_1_method_29_code 3 none) ({ frames := 2, cells := 0, slots := 0, locals := 44 }) κ.1 vwCl (tysA κ) nwA (wA κ) σ [.ref (aA κ 0)] (fun σ' => σ' = fx_settle (nA κ) E σ) := by
  refine zintro (cc := prog_1_method_29_code) (maxL := 3) (ret := none) (by decide) rfl (Nat.le_of_ble_eq_true rfl) ?_
  intro p e s m below meth c ls hx hb hr hml hts hown hlocks hl B
  have hl : lv_has ls 3 [(0, .ref (aA κ 0))] := hl
  have B : BA κ (va_A (wA κ σ) s.heap.size) s.heap s σ s.heap [] := B
  have hr : meth.sig.returnType = none := hr
  have hown : s.vm.findClass "UnitThreads" = some m.cls := hown
  show W p l e (headSpec (zws y_Ut_settle prog_1_method_29_code 3 none) ({ frames := 2, cells := 0, slots := 0, locals := 44 })).room s m [.ref (aA κ 0)].toArray below meth c s.heap [] 0 0 (MQ below (va_Qv (fun σ' => σ' = fx_settle (nA κ) E σ) (zQ κ.1 vwCl (tysA κ) (wA κ) (va_A (wA κ σ) s.heap.size)) (va_A (wA κ σ) s.heap.size)) [.ref (aA κ 0)].toArray s 0 0 (va_A (wA κ σ) s.heap.size)) (F0 m 0 ls [])
  generalize va_A (wA κ σ) s.heap.size = A at B ⊢
  have hts : ∀ w ∈ zW, w.before [.ref (aA κ 0)].toArray s = true := fun w h => hts w (List.mem_cons_of_mem _ h)
  have L_80 : ∀ (j : Nat) (k : Nat) (τ : zS), (k + j = nA κ) → (fx_settle (nA κ) E σ = zit fx_set2 j k τ) → ∀ (H : Heap) (locs : List Loc), BA κ A s.heap s τ H locs → ∀ (ls : Array Slot), lv_has ls 3 [(0, .ref (aA κ 0)), (1, .int (nI k))] → W p l e (headSpec (zws y_Ut_settle prog_1_method_29_code 3 none) ({ frames := 2, cells := 0, slots := 0, locals := 44 })).room s m [.ref (aA κ 0)].toArray below meth c H locs 0 0 (MQ below (va_Qv (fun σ' => σ' = fx_settle (nA κ) E σ) (zQ κ.1 vwCl (tysA κ) (wA κ) A) A) [.ref (aA κ 0)].toArray s 0 0 A) (F0 m 80 ls []) := by
    intro j
    induction j with
    | zero =>
      intro k τ hj hst H locs B ls hl
      refine lv_iload_n hx hb d_Ut_settle_80 rfl (lv_at hl 1 rfl) ?_
      refine lv_aload_n hx hb d_Ut_settle_81 rfl (lv_at hl 0 rfl) ?_
      refine va_get (D := κ.1) (ci := 5) (v := .ref (aA κ 1)) (C := "UnitThreads") (T := T_Ut) (N := 7) hx hb hts in_Ut hown B.1 B.2.1 0 (wa_0 κ τ) rfl 0 (by decide) (hts _ w_167) (fun _ h9 => h9) rfl d_Ut_settle_82 ?_
      refine zalen hx hb B 1 2 (wa_1 κ τ) rfl d_Ut_settle_85 ?_
      refine lv_icmp_ge (tgt := 152) hx hb d_Ut_settle_86 (by decide) (fun c_1 => ?_) (fun c_1 => ?_)
      · have c_1 := (nI_leI (a := nA κ) (b := k) (by omega) (by omega)).mp c_1
        exact zret_v hx hb hr hlocks B (hst.symm) d_Ut_settle_152
      · have c_1 := (not_congr (nI_leI (a := nA κ) (b := k) (by omega) (by omega))).mp c_1
        exact absurd c_1 (by omega)
    | succ j ih =>
      intro k τ hj hst H locs B ls hl
      refine lv_iload_n hx hb d_Ut_settle_80 rfl (lv_at hl 1 rfl) ?_
      refine lv_aload_n hx hb d_Ut_settle_81 rfl (lv_at hl 0 rfl) ?_
      refine va_get (D := κ.1) (ci := 5) (v := .ref (aA κ 1)) (C := "UnitThreads") (T := T_Ut) (N := 7) hx hb hts in_Ut hown B.1 B.2.1 0 (wa_0 κ τ) rfl 0 (by decide) (hts _ w_167) (fun _ h9 => h9) rfl d_Ut_settle_82 ?_
      refine zalen hx hb B 1 2 (wa_1 κ τ) rfl d_Ut_settle_85 ?_
      refine lv_icmp_ge (tgt := 152) hx hb d_Ut_settle_86 (by decide) (fun c_2 => ?_) (fun c_2 => ?_)
      · have c_2 := (nI_leI (a := nA κ) (b := k) (by omega) (by omega)).mp c_2
        exact absurd c_2 (by omega)
      · have c_2 := (not_congr (nI_leI (a := nA κ) (b := k) (by omega) (by omega))).mp c_2
        refine lv_aload_n hx hb d_Ut_settle_89 rfl (lv_at hl 0 rfl) ?_
        refine va_get (D := κ.1) (ci := 5) (v := .ref (aA κ 1)) (C := "UnitThreads") (T := T_Ut) (N := 7) hx hb hts in_Ut hown B.1 B.2.1 0 (wa_0 κ τ) rfl 0 (by decide) (hts _ w_167) (fun _ h9 => h9) rfl d_Ut_settle_90 ?_
        refine lv_iload_n hx hb d_Ut_settle_93 rfl (lv_at hl 1 rfl) ?_
        have hu_3 : k < nA κ := (by omega)
        refine zaald hx hb B 1 2 (wa_1 κ τ) rfl k rfl hu_3 (by omega) rfl d_Ut_settle_94 ?_
        refine lv_astore_n (lv' := [(2, .ref (aA κ (64 + k))), (0, .ref (aA κ 0)), (1, .int (nI k))]) hx hb d_Ut_settle_95 rfl hl (by decide) rfl (fun ls hl => ?_)
        refine lv_aload_n hx hb d_Ut_settle_96 rfl (lv_at hl 0 rfl) ?_
        refine va_get (D := κ.1) (ci := 0) (v := .int (τ.1 7 k)) (C := "UnitThreads$Unit") (T := T_Un) (N := 8) hx hb hts in_Un hown B.1 B.2.1 (43 + k) (wa_u κ τ hu_3) rfl 7 (by decide) (hts _ w_50) (fun _ h9 => h9) rfl d_Ut_settle_97 ?_
        refine lv_if_ne (tgt := 133) hx hb d_Ut_settle_100 (by decide) (fun c_4 => ?_) (fun c_4 => ?_)
        · refine lv_aload_n hx hb d_Ut_settle_133 rfl (lv_at hl 0 rfl) ?_
          refine va_get (D := κ.1) (ci := 0) (v := .int (τ.1 7 k)) (C := "UnitThreads$Unit") (T := T_Un) (N := 8) hx hb hts in_Un hown B.1 B.2.1 (43 + k) (wa_u κ τ hu_3) rfl 7 (by decide) (hts _ w_50) (fun _ h9 => h9) rfl d_Ut_settle_134 ?_
          refine lv_iconst (v := 1) hx hb d_Ut_settle_137 (by decide) ?_
          refine lv_icmp_ne (tgt := 146) hx hb d_Ut_settle_138 (by decide) (fun c_5 => ?_) (fun c_5 => ?_)
          · refine lv_iinc (v := nI (k + 1)) (lv' := [(1, .int (nI (k + 1))), (2, .ref (aA κ (64 + k))), (0, .ref (aA κ 0))]) hx hb d_Ut_settle_146 hl (k := 2) rfl (zinc _) (by decide) rfl (fun ls hl => ?_)
            refine lv_goto (tgt := 80) hx hb d_Ut_settle_149 (by decide) ?_
            exact ih (k + 1) τ (by omega) (by rw [hst]; simp [zit, fx_set2, c_2, c_4, c_5]) _ _ B ls (lv_sub hl [2, 0] rfl)
          · refine lv_aload_n hx hb d_Ut_settle_141 rfl (lv_at hl 0 rfl) ?_
            refine lv_iconst (v := 1) hx hb d_Ut_settle_142 (by decide) ?_
            refine zput (ci := 0) (v := .int (1)) (ty := .int) (C := "UnitThreads$Unit") (T := T_Un) (N := 8) hx hb hts in_Un ty_Un tyok_Un nm_Un hown B (43 + k) (wa_u κ τ hu_3) rfl 2 (by decide) (hts _ w_38) (fun _ h9 => h9) rfl (by decide +kernel) rfl rfl (Nat.le_of_ble_eq_true rfl) (wq_2 κ τ hu_3 1) d_Ut_settle_143 (fun H locs B => ?_)
            have B : BA κ A s.heap s (zi τ 2 k 1) H locs := B
            refine lv_iinc (v := nI (k + 1)) (lv' := [(1, .int (nI (k + 1))), (2, .ref (aA κ (64 + k))), (0, .ref (aA κ 0))]) hx hb d_Ut_settle_146 hl (k := 2) rfl (zinc _) (by decide) rfl (fun ls hl => ?_)
            refine lv_goto (tgt := 80) hx hb d_Ut_settle_149 (by decide) ?_
            exact ih (k + 1) (zi τ 2 k 1) (by omega) (by rw [hst]; simp [zit, fx_set2, c_2, c_4, c_5]) _ _ B ls (lv_sub hl [2, 0] rfl)
        · refine lv_aload_n hx hb d_Ut_settle_103 rfl (lv_at hl 1 rfl) ?_
          refine va_get (D := κ.1) (ci := 5) (v := .ref (aA κ 14)) (C := "UnitThreads") (T := T_Ut) (N := 7) hx hb hts in_Ut hown B.1 B.2.1 0 (wa_0 κ τ) rfl 4 (by decide) (hts _ w_171) (fun _ h9 => h9) rfl d_Ut_settle_104 ?_
          refine lv_iload_n hx hb d_Ut_settle_107 rfl (lv_at hl 2 rfl) ?_
          refine lv_aload_n hx hb d_Ut_settle_108 rfl (lv_at hl 0 rfl) ?_
          refine zcV_i (As := []) (rest := [.int (nI k), .ref (aA κ 14)]) ⟨hx, hb, hml, hown, hts⟩ (c_Un_given l κ τ k hu_3 ) (cwV 0 hts (zgoodV w_326 w_327 w_328 w_3 w_329) rfl rfl rfl (by decide +kernel) ⟨Nat.le_of_ble_eq_true rfl, Nat.le_of_ble_eq_true rfl⟩) B (zrecv B (ci := 0) rfl (wa_u κ τ hu_3)) rfl hl.1 rfl (Nat.le_of_ble_eq_true rfl) d_Ut_settle_109 ⟨Nat.zero_le _, Nat.zero_le _⟩ (fun r σ' H locs hp B => ?_)
          obtain ⟨rfl, hp⟩ := hp
          rw [hp] at B
          have B : BA κ A s.heap s τ H locs := B
          refine zcV_v (As := [.int (nI k), .int (fx_given τ k)]) (rest := []) ⟨hx, hb, hml, hown, hts⟩ (c_Bo_giveBack l κ τ (nI k) (fx_given τ k) ) (cwV 2 hts (zgoodV w_330 w_331 w_332 w_7 w_333) rfl rfl rfl (by decide +kernel) ⟨Nat.le_of_ble_eq_true rfl, Nat.le_of_ble_eq_true rfl⟩) B (zrecv B (ci := 4) rfl (wa_14 κ τ)) rfl hl.1 rfl (Nat.le_of_ble_eq_true rfl) d_Ut_settle_112 ⟨Nat.zero_le _, Nat.zero_le _⟩ (fun σ' H locs hp B => ?_)
          rw [hp] at B
          have B : BA κ A s.heap s (fx_giveBack τ (nI k) (fx_given τ k)) H locs := B
          refine lv_aload_n hx hb d_Ut_settle_115 rfl (lv_at hl 0 rfl) ?_
          refine lv_dup hx hb d_Ut_settle_116 rfl ?_
          refine va_get (D := κ.1) (ci := 0) (v := .int ((fx_giveBack τ (nI k) (fx_given τ k)).1 0 k)) (C := "UnitThreads$Unit") (T := T_Un) (N := 8) hx hb hts in_Un hown B.1 B.2.1 (43 + k) (wa_u κ (fx_giveBack τ (nI k) (fx_given τ k)) hu_3) rfl 0 (by decide) (hts _ w_34) (fun _ h9 => h9) rfl d_Ut_settle_117 ?_
          refine lv_iconst (v := 1) hx hb d_Ut_settle_120 (by decide) ?_
          refine lv_iadd hx hb d_Ut_settle_121 ?_
          refine zput (ci := 0) (v := .int (((fx_giveBack τ (nI k) (fx_given τ k)).1 0 k) + 1)) (ty := .int) (C := "UnitThreads$Unit") (T := T_Un) (N := 8) hx hb hts in_Un ty_Un tyok_Un nm_Un hown B (43 + k) (wa_u κ (fx_giveBack τ (nI k) (fx_given τ k)) hu_3) rfl 0 (by decide) (hts _ w_34) (fun _ h9 => h9) rfl (by decide +kernel) rfl rfl (Nat.le_of_ble_eq_true rfl) (wq_0 κ (fx_giveBack τ (nI k) (fx_given τ k)) hu_3 (((fx_giveBack τ (nI k) (fx_given τ k)).1 0 k) + 1)) d_Ut_settle_122 (fun H locs B => ?_)
          have B : BA κ A s.heap s (zi (fx_giveBack τ (nI k) (fx_given τ k)) 0 k (((fx_giveBack τ (nI k) (fx_given τ k)).1 0 k) + 1)) H locs := B
          refine lv_aload_n hx hb d_Ut_settle_125 rfl (lv_at hl 0 rfl) ?_
          refine lv_iconst (v := 0) hx hb d_Ut_settle_126 (by decide) ?_
          refine zput (ci := 0) (v := .int (0)) (ty := .int) (C := "UnitThreads$Unit") (T := T_Un) (N := 8) hx hb hts in_Un ty_Un tyok_Un nm_Un hown B (43 + k) (wa_u κ (zi (fx_giveBack τ (nI k) (fx_given τ k)) 0 k (((fx_giveBack τ (nI k) (fx_given τ k)).1 0 k) + 1)) hu_3) rfl 2 (by decide) (hts _ w_38) (fun _ h9 => h9) rfl (by decide +kernel) rfl rfl (Nat.le_of_ble_eq_true rfl) (wq_2 κ (zi (fx_giveBack τ (nI k) (fx_given τ k)) 0 k (((fx_giveBack τ (nI k) (fx_given τ k)).1 0 k) + 1)) hu_3 0) d_Ut_settle_127 (fun H locs B => ?_)
          have B : BA κ A s.heap s (zi (zi (fx_giveBack τ (nI k) (fx_given τ k)) 0 k (((fx_giveBack τ (nI k) (fx_given τ k)).1 0 k) + 1)) 2 k 0) H locs := B
          refine lv_goto (tgt := 146) hx hb d_Ut_settle_130 (by decide) ?_
          refine lv_iinc (v := nI (k + 1)) (lv' := [(1, .int (nI (k + 1))), (2, .ref (aA κ (64 + k))), (0, .ref (aA κ 0))]) hx hb d_Ut_settle_146 hl (k := 2) rfl (zinc _) (by decide) rfl (fun ls hl => ?_)
          refine lv_goto (tgt := 80) hx hb d_Ut_settle_149 (by decide) ?_
          exact ih (k + 1) (zi (zi (fx_giveBack τ (nI k) (fx_given τ k)) 0 k (((fx_giveBack τ (nI k) (fx_given τ k)).1 0 k) + 1)) 2 k 0) (by omega) (by rw [hst]; simp [zit, fx_set2, c_2, c_4]) _ _ B ls (lv_sub hl [2, 0] rfl)
  have L_2 : ∀ (j : Nat) (k : Nat) (τ : zS), (k + j = nA κ) → (fx_settle (nA κ) E σ = zit fx_set2 (nA κ) 0 (fx_doSteps E (zit fx_set1 j k τ))) → (τ.1 12 0 = nI E) → (∀ e, e < E → zin (τ.1 9 e) (nA κ)) → (∀ e, e < E → τ.1 8 e = 0 → zin (τ.1 11 e) (nA κ * 4)) → ∀ (H : Heap) (locs : List Loc), BA κ A s.heap s τ H locs → ∀ (ls : Array Slot), lv_has ls 3 [(0, .ref (aA κ 0)), (1, .int (nI k))] → W p l e (headSpec (zws y_Ut_settle prog_1_method_29_code 3 none) ({ frames := 2, cells := 0, slots := 0, locals := 44 })).room s m [.ref (aA κ 0)].toArray below meth c H locs 0 0 (MQ below (va_Qv (fun σ' => σ' = fx_settle (nA κ) E σ) (zQ κ.1 vwCl (tysA κ) (wA κ) A) A) [.ref (aA κ 0)].toArray s 0 0 A) (F0 m 2 ls []) := by
    intro j
    induction j with
    | zero =>
      intro k τ hj hst hE hU hT H locs B ls hl
      refine lv_iload_n hx hb d_Ut_settle_2 rfl (lv_at hl 1 rfl) ?_
      refine lv_aload_n hx hb d_Ut_settle_3 rfl (lv_at hl 0 rfl) ?_
      refine va_get (D := κ.1) (ci := 5) (v := .ref (aA κ 1)) (C := "UnitThreads") (T := T_Ut) (N := 7) hx hb hts in_Ut hown B.1 B.2.1 0 (wa_0 κ τ) rfl 0 (by decide) (hts _ w_167) (fun _ h9 => h9) rfl d_Ut_settle_4 ?_
      refine zalen hx hb B 1 2 (wa_1 κ τ) rfl d_Ut_settle_7 ?_
      refine lv_icmp_ge (tgt := 60) hx hb d_Ut_settle_8 (by decide) (fun c_6 => ?_) (fun c_6 => ?_)
      · have c_6 := (nI_leI (a := nA κ) (b := k) (by omega) (by omega)).mp c_6
        refine lv_aload_n hx hb d_Ut_settle_60 rfl (lv_at hl 0 rfl) ?_
        refine va_get (D := κ.1) (ci := 5) (v := .ref (aA κ 2)) (C := "UnitThreads") (T := T_Ut) (N := 7) hx hb hts in_Ut hown B.1 B.2.1 0 (wa_0 κ τ) rfl 1 (by decide) (hts _ w_168) (fun _ h9 => h9) rfl d_Ut_settle_61 ?_
        refine lv_aload_n hx hb d_Ut_settle_64 rfl (lv_at hl 0 rfl) ?_
        refine va_get (D := κ.1) (ci := 5) (v := .ref (aA κ 1)) (C := "UnitThreads") (T := T_Ut) (N := 7) hx hb hts in_Ut hown B.1 B.2.1 0 (wa_0 κ τ) rfl 0 (by decide) (hts _ w_167) (fun _ h9 => h9) rfl d_Ut_settle_65 ?_
        refine lv_aload_n hx hb d_Ut_settle_68 rfl (lv_at hl 0 rfl) ?_
        refine va_get (D := κ.1) (ci := 5) (v := .ref (aA κ 14)) (C := "UnitThreads") (T := T_Ut) (N := 7) hx hb hts in_Ut hown B.1 B.2.1 0 (wa_0 κ τ) rfl 4 (by decide) (hts _ w_171) (fun _ h9 => h9) rfl d_Ut_settle_69 ?_
        refine va_get (D := κ.1) (ci := 4) (v := .ref (aA κ 15)) (C := "UnitThreads$Board") (T := T_Bo) (N := 6) hx hb hts in_Bo hown B.1 B.2.1 14 (wa_14 κ τ) rfl 0 (by decide) (hts _ w_145) (fun _ h9 => h9) rfl d_Ut_settle_72 ?_
        refine zcV_v (As := [.ref (aA κ 1), .ref (aA κ 15)]) (rest := []) ⟨hx, hb, hml, hown, hts⟩ (c_En_doSteps l κ τ  hn E hE hE3 hU hT) (cwV 2 hts (zgoodV w_322 w_323 w_324 w_4 w_325) rfl rfl rfl (by decide +kernel) ⟨Nat.le_of_ble_eq_true rfl, Nat.le_of_ble_eq_true rfl⟩) B (zrecv B (ci := 1) rfl (wa_2 κ τ)) rfl hl.1 rfl (Nat.le_of_ble_eq_true rfl) d_Ut_settle_75 ⟨Nat.zero_le _, Nat.zero_le _⟩ (fun σ' H locs hp B => ?_)
        rw [hp] at B
        have B : BA κ A s.heap s (fx_doSteps E τ) H locs := B
        refine lv_iconst (v := nI 0) hx hb d_Ut_settle_78 (by decide) ?_
        refine lv_istore_n (lv' := [(1, .int (nI 0)), (0, .ref (aA κ 0))]) hx hb d_Ut_settle_79 rfl hl (by decide) rfl (fun ls hl => ?_)
        exact L_80 (nA κ) 0 (fx_doSteps E τ) (by omega) hst _ _ B ls (lv_sub hl [1, 0] rfl)
      · have c_6 := (not_congr (nI_leI (a := nA κ) (b := k) (by omega) (by omega))).mp c_6
        exact absurd c_6 (by omega)
    | succ j ih =>
      intro k τ hj hst hE hU hT H locs B ls hl
      refine lv_iload_n hx hb d_Ut_settle_2 rfl (lv_at hl 1 rfl) ?_
      refine lv_aload_n hx hb d_Ut_settle_3 rfl (lv_at hl 0 rfl) ?_
      refine va_get (D := κ.1) (ci := 5) (v := .ref (aA κ 1)) (C := "UnitThreads") (T := T_Ut) (N := 7) hx hb hts in_Ut hown B.1 B.2.1 0 (wa_0 κ τ) rfl 0 (by decide) (hts _ w_167) (fun _ h9 => h9) rfl d_Ut_settle_4 ?_
      refine zalen hx hb B 1 2 (wa_1 κ τ) rfl d_Ut_settle_7 ?_
      refine lv_icmp_ge (tgt := 60) hx hb d_Ut_settle_8 (by decide) (fun c_7 => ?_) (fun c_7 => ?_)
      · have c_7 := (nI_leI (a := nA κ) (b := k) (by omega) (by omega)).mp c_7
        exact absurd c_7 (by omega)
      · have c_7 := (not_congr (nI_leI (a := nA κ) (b := k) (by omega) (by omega))).mp c_7
        refine lv_aload_n hx hb d_Ut_settle_11 rfl (lv_at hl 0 rfl) ?_
        refine va_get (D := κ.1) (ci := 5) (v := .ref (aA κ 1)) (C := "UnitThreads") (T := T_Ut) (N := 7) hx hb hts in_Ut hown B.1 B.2.1 0 (wa_0 κ τ) rfl 0 (by decide) (hts _ w_167) (fun _ h9 => h9) rfl d_Ut_settle_12 ?_
        refine lv_iload_n hx hb d_Ut_settle_15 rfl (lv_at hl 1 rfl) ?_
        have hu_8 : k < nA κ := (by omega)
        refine zaald hx hb B 1 2 (wa_1 κ τ) rfl k rfl hu_8 (by omega) rfl d_Ut_settle_16 ?_
        refine va_get (D := κ.1) (ci := 0) (v := .int (τ.1 7 k)) (C := "UnitThreads$Unit") (T := T_Un) (N := 8) hx hb hts in_Un hown B.1 B.2.1 (43 + k) (wa_u κ τ hu_8) rfl 7 (by decide) (hts _ w_50) (fun _ h9 => h9) rfl d_Ut_settle_17 ?_
        refine lv_iconst (v := 1) hx hb d_Ut_settle_20 (by decide) ?_
        refine lv_icmp_ne (tgt := 54) hx hb d_Ut_settle_21 (by decide) (fun c_9 => ?_) (fun c_9 => ?_)
        · refine lv_iinc (v := nI (k + 1)) (lv' := [(1, .int (nI (k + 1))), (0, .ref (aA κ 0))]) hx hb d_Ut_settle_54 hl (k := 1) rfl (zinc _) (by decide) rfl (fun ls hl => ?_)
          refine lv_goto (tgt := 2) hx hb d_Ut_settle_57 (by decide) ?_
          exact ih (k + 1) τ (by omega) (by rw [hst]; simp [zit, fx_set1, c_7, c_9]) hE hU hT _ _ B ls (lv_sub hl [1, 0] rfl)
        · refine lv_aload_n hx hb d_Ut_settle_24 rfl (lv_at hl 0 rfl) ?_
          refine va_get (D := κ.1) (ci := 5) (v := .ref (aA κ 14)) (C := "UnitThreads") (T := T_Ut) (N := 7) hx hb hts in_Ut hown B.1 B.2.1 0 (wa_0 κ τ) rfl 4 (by decide) (hts _ w_171) (fun _ h9 => h9) rfl d_Ut_settle_25 ?_
          refine lv_iload_n hx hb d_Ut_settle_28 rfl (lv_at hl 1 rfl) ?_
          refine lv_aload_n hx hb d_Ut_settle_29 rfl (lv_at hl 0 rfl) ?_
          refine va_get (D := κ.1) (ci := 5) (v := .ref (aA κ 1)) (C := "UnitThreads") (T := T_Ut) (N := 7) hx hb hts in_Ut hown B.1 B.2.1 0 (wa_0 κ τ) rfl 0 (by decide) (hts _ w_167) (fun _ h9 => h9) rfl d_Ut_settle_30 ?_
          refine lv_iload_n hx hb d_Ut_settle_33 rfl (lv_at hl 1 rfl) ?_
          have hu_10 : k < nA κ := (by omega)
          refine zaald hx hb B 1 2 (wa_1 κ τ) rfl k rfl hu_10 (by omega) rfl d_Ut_settle_34 ?_
          refine zcV_i (As := []) (rest := [.int (nI k), .ref (aA κ 14)]) ⟨hx, hb, hml, hown, hts⟩ (c_Un_asked l κ τ k hu_10 ) (cwV 0 hts (zgoodV w_309 w_310 w_311 w_3 w_312) rfl rfl rfl (by decide +kernel) ⟨Nat.le_of_ble_eq_true rfl, Nat.le_of_ble_eq_true rfl⟩) B (zrecv B (ci := 0) rfl (wa_u κ τ hu_10)) rfl hl.1 rfl (Nat.le_of_ble_eq_true rfl) d_Ut_settle_35 ⟨Nat.zero_le _, Nat.zero_le _⟩ (fun r σ' H locs hp B => ?_)
          obtain ⟨rfl, hp⟩ := hp
          rw [hp] at B
          have B : BA κ A s.heap s τ H locs := B
          refine zcV_i (As := [.int (nI k), .int (fx_asked τ k)]) (rest := []) ⟨hx, hb, hml, hown, hts⟩ (c_Bo_ownsAll l κ τ (nI k) (fx_asked τ k) ) (cwV 2 hts (zgoodV w_317 w_318 w_319 w_7 w_320) rfl rfl rfl (by decide +kernel) ⟨Nat.le_of_ble_eq_true rfl, Nat.le_of_ble_eq_true rfl⟩) B (zrecv B (ci := 4) rfl (wa_14 κ τ)) rfl hl.1 rfl (Nat.le_of_ble_eq_true rfl) d_Ut_settle_38 ⟨Nat.zero_le _, Nat.zero_le _⟩ (fun r σ' H locs hp B => ?_)
          obtain ⟨rfl, hp⟩ := hp
          rw [hp] at B
          have B : BA κ A s.heap s τ H locs := B
          refine lv_if_eq (tgt := 54) hx hb d_Ut_settle_41 (by decide) (fun c_11 => ?_) (fun c_11 => ?_)
          · have c_11 := zb_eq0.mp c_11
            refine lv_iinc (v := nI (k + 1)) (lv' := [(1, .int (nI (k + 1))), (0, .ref (aA κ 0))]) hx hb d_Ut_settle_54 hl (k := 1) rfl (zinc _) (by decide) rfl (fun ls hl => ?_)
            refine lv_goto (tgt := 2) hx hb d_Ut_settle_57 (by decide) ?_
            exact ih (k + 1) τ (by omega) (by rw [hst]; simp [zit, fx_set1, c_7, c_9, c_11]) hE hU hT _ _ B ls (lv_sub hl [1, 0] rfl)
          · have c_11 := zb_ne0.mp c_11
            refine lv_aload_n hx hb d_Ut_settle_44 rfl (lv_at hl 0 rfl) ?_
            refine va_get (D := κ.1) (ci := 5) (v := .ref (aA κ 1)) (C := "UnitThreads") (T := T_Ut) (N := 7) hx hb hts in_Ut hown B.1 B.2.1 0 (wa_0 κ τ) rfl 0 (by decide) (hts _ w_167) (fun _ h9 => h9) rfl d_Ut_settle_45 ?_
            refine lv_iload_n hx hb d_Ut_settle_48 rfl (lv_at hl 1 rfl) ?_
            have hu_12 : k < nA κ := (by omega)
            refine zaald hx hb B 1 2 (wa_1 κ τ) rfl k rfl hu_12 (by omega) rfl d_Ut_settle_49 ?_
            refine lv_iconst (v := 0) hx hb d_Ut_settle_50 (by decide) ?_
            refine zput (ci := 0) (v := .int (0)) (ty := .int) (C := "UnitThreads$Unit") (T := T_Un) (N := 8) hx hb hts in_Un ty_Un tyok_Un nm_Un hown B (43 + k) (wa_u κ τ hu_12) rfl 7 (by decide) (hts _ w_50) (fun _ h9 => h9) rfl (by decide +kernel) rfl rfl (Nat.le_of_ble_eq_true rfl) (wq_7 κ τ hu_12 0) d_Ut_settle_51 (fun H locs B => ?_)
            have B : BA κ A s.heap s (zi τ 7 k 0) H locs := B
            refine lv_iinc (v := nI (k + 1)) (lv' := [(1, .int (nI (k + 1))), (0, .ref (aA κ 0))]) hx hb d_Ut_settle_54 hl (k := 1) rfl (zinc _) (by decide) rfl (fun ls hl => ?_)
            refine lv_goto (tgt := 2) hx hb d_Ut_settle_57 (by decide) ?_
            exact ih (k + 1) (zi τ 7 k 0) (by omega) (by rw [hst]; simp [zit, fx_set1, c_7, c_9, c_11]) hE hU hT _ _ B ls (lv_sub hl [1, 0] rfl)
  refine lv_iconst (v := nI 0) hx hb d_Ut_settle_0 (by decide) ?_
  refine lv_istore_n (lv' := [(1, .int (nI 0)), (0, .ref (aA κ 0))]) hx hb d_Ut_settle_1 rfl hl (by decide) rfl (fun ls hl => ?_)
  exact L_2 (nA κ) 0 σ (by omega) rfl hE hU hT _ _ B ls (lv_sub hl [1, 0] rfl)
