set_option maxHeartbeats 4000000 in
set_option maxRecDepth 100000 in
theorem c_Mo_takeTurn (l : Launch) (κ : KA) (σ : zS) (u : Nat) (hu : u < nA κ) (hn : nA κ ≤ 8) (E : Nat) (hE : σ.1 34 0 = nI E) (hE3 : E ≤ 300) (t : Nat) (ht : σ.1 41 0 = nI t) (ht5 : t < 512) (hW : ∀ e, e < E → σ.1 30 e = 1 → zin (σ.1 33 e) 16) : zMv l y_Mo_takeTurn (zws y_Mo_takeTurn prog_8_method_17_code 4 none) ({ frames := 1, cells := 0, slots := 0, locals := 25 }) κ.1 vwCl (tysA κ) nwA (wA κ) σ [.ref (aA κ 21), .int (nI u)] (fun σ' => σ' = fm_turn σ E t u) := by
  refine zintro (cc := prog_8_method_17_code) (maxL := 4) (ret := none) (by decide) rfl (Nat.le_of_ble_eq_true rfl) ?_
  intro p e s m below meth c ls hx hb hr hml hts hown hlocks hl B
  have hl : lv_has ls 4 [(0, .ref (aA κ 21)), (1, .int (nI u))] := hl
  have B : BA κ (va_A (wA κ σ) s.heap.size) s.heap s σ s.heap [] := B
  have hr : meth.sig.returnType = none := hr
  have hown : s.vm.findClass "UnitThreadsModel" = some m.cls := hown
  show W p l e (headSpec (zws y_Mo_takeTurn prog_8_method_17_code 4 none) ({ frames := 1, cells := 0, slots := 0, locals := 25 })).room s m [.ref (aA κ 21), .int (nI u)].toArray below meth c s.heap [] 0 0 (MQ below (va_Qv (fun σ' => σ' = fm_turn σ E t u) (zQ κ.1 vwCl (tysA κ) (wA κ) (va_A (wA κ σ) s.heap.size)) (va_A (wA κ σ) s.heap.size)) [.ref (aA κ 21), .int (nI u)].toArray s 0 0 (va_A (wA κ σ) s.heap.size)) (F0 m 0 ls [])
  generalize va_A (wA κ σ) s.heap.size = A at B ⊢
  have hts : ∀ w ∈ zW, w.before [.ref (aA κ 21), .int (nI u)].toArray s = true := fun w h => hts w (List.mem_cons_of_mem _ h)
  have L_86 : ∀ (j : Nat) (k : Nat) (τ : zS), (k + j = E) → (fm_turn σ E t u = zit (fm_ask1 u E) j k τ) → (τ.1 34 0 = nI E) → (∀ e, e < E → τ.1 30 e = 1 → zin (τ.1 33 e) 16) → ∀ (H : Heap) (locs : List Loc), BA κ A s.heap s τ H locs → ∀ (ls : Array Slot), lv_has ls 4 [(0, .ref (aA κ 21)), (1, .int (nI u)), (3, .int (nI k))] → W p l e (headSpec (zws y_Mo_takeTurn prog_8_method_17_code 4 none) ({ frames := 1, cells := 0, slots := 0, locals := 25 })).room s m [.ref (aA κ 21), .int (nI u)].toArray below meth c H locs 0 0 (MQ below (va_Qv (fun σ' => σ' = fm_turn σ E t u) (zQ κ.1 vwCl (tysA κ) (wA κ) A) A) [.ref (aA κ 21), .int (nI u)].toArray s 0 0 A) (F0 m 86 ls []) := by
    intro j
    induction j with
    | zero =>
      intro k τ hj hst hE hW H locs B ls hl
      refine lv_iload_n hx hb d_Mo_takeTurn_86 rfl (lv_at hl 2 rfl) ?_
      refine lv_aload_n hx hb d_Mo_takeTurn_87 rfl (lv_at hl 0 rfl) ?_
      refine va_get (D := κ.1) (ci := 6) (v := .int (τ.1 34 0)) (C := "UnitThreadsModel") (T := T_Mo) (N := 26) hx hb hts in_Mo hown B.1 B.2.1 21 (wa_21 κ τ) rfl 14 (by decide) (hts _ w_422) (fun _ h9 => h9) rfl d_Mo_takeTurn_88 ?_
      refine zrwi (y := nI E) (hE) ?_
      refine lv_icmp_ge (tgt := 150) hx hb d_Mo_takeTurn_91 (by decide) (fun c_1 => ?_) (fun c_1 => ?_)
      · have c_1 := (nI_leI (a := E) (b := k) (by omega) (by omega)).mp c_1
        exact zret_v hx hb hr hlocks B (hst.symm) d_Mo_takeTurn_150
      · have c_1 := (not_congr (nI_leI (a := E) (b := k) (by omega) (by omega))).mp c_1
        exact absurd c_1 (by omega)
    | succ j ih =>
      intro k τ hj hst hE hW H locs B ls hl
      refine lv_iload_n hx hb d_Mo_takeTurn_86 rfl (lv_at hl 2 rfl) ?_
      refine lv_aload_n hx hb d_Mo_takeTurn_87 rfl (lv_at hl 0 rfl) ?_
      refine va_get (D := κ.1) (ci := 6) (v := .int (τ.1 34 0)) (C := "UnitThreadsModel") (T := T_Mo) (N := 26) hx hb hts in_Mo hown B.1 B.2.1 21 (wa_21 κ τ) rfl 14 (by decide) (hts _ w_422) (fun _ h9 => h9) rfl d_Mo_takeTurn_88 ?_
      refine zrwi (y := nI E) (hE) ?_
      refine lv_icmp_ge (tgt := 150) hx hb d_Mo_takeTurn_91 (by decide) (fun c_2 => ?_) (fun c_2 => ?_)
      · have c_2 := (nI_leI (a := E) (b := k) (by omega) (by omega)).mp c_2
        exact absurd c_2 (by omega)
      · have c_2 := (not_congr (nI_leI (a := E) (b := k) (by omega) (by omega))).mp c_2
        refine lv_aload_n hx hb d_Mo_takeTurn_94 rfl (lv_at hl 0 rfl) ?_
        refine lv_iload_n hx hb d_Mo_takeTurn_95 rfl (lv_at hl 2 rfl) ?_
        refine lv_iconst (v := 1) hx hb d_Mo_takeTurn_96 (by decide) ?_
        refine lv_iload_n hx hb d_Mo_takeTurn_97 rfl (lv_at hl 1 rfl) ?_
        refine zcV_i (As := [.int (nI k), .int (1), .int (nI u)]) (rest := []) ⟨hx, hb, hml, hown, hts⟩ (c_Mo_isNow l κ τ k 1 u (by omega) (by omega) hn) (cwV 3 hts (zgoodV w_553 w_555 s_21 w_9 w_556) rfl rfl rfl (by decide +kernel) ⟨Nat.le_of_ble_eq_true rfl, Nat.le_of_ble_eq_true rfl⟩) B (zrecv B (ci := 6) rfl (wa_21 κ τ)) rfl hl.1 rfl (Nat.le_of_ble_eq_true rfl) d_Mo_takeTurn_98 ⟨Nat.zero_le _, Nat.zero_le _⟩ (fun r σ' H locs hp B => ?_)
        obtain ⟨rfl, hp⟩ := hp
        rw [hp] at B
        have B : BA κ A s.heap s τ H locs := B
        refine lv_if_eq (tgt := 144) hx hb d_Mo_takeTurn_101 (by decide) (fun c_3 => ?_) (fun c_3 => ?_)
        · have c_3 := zb_eq0.mp c_3
          refine lv_iinc (v := nI (k + 1)) (lv' := [(3, .int (nI (k + 1))), (0, .ref (aA κ 21)), (1, .int (nI u))]) hx hb d_Mo_takeTurn_144 hl (k := 2) rfl (zinc _) (by decide) rfl (fun ls hl => ?_)
          refine lv_goto (tgt := 86) hx hb d_Mo_takeTurn_147 (by decide) ?_
          exact ih (k + 1) τ (by omega) (by rw [hst]; simp [zit, fm_ask1, c_2, c_3]) hE hW _ _ B ls (lv_sub hl [1, 2, 0] rfl)
        · have c_3 := zb_ne0.mp c_3
          refine lv_aload_n hx hb d_Mo_takeTurn_104 rfl (lv_at hl 0 rfl) ?_
          refine lv_iload_n hx hb d_Mo_takeTurn_105 rfl (lv_at hl 2 rfl) ?_
          refine zcV_i (As := [.int (nI k)]) (rest := []) ⟨hx, hb, hml, hown, hts⟩ (c_Mo_isGive l κ τ k E hE hE3 (by omega)) (cwV 1 hts (zgoodV w_557 w_559 s_22 w_9 w_560) rfl rfl rfl (by decide +kernel) ⟨Nat.le_of_ble_eq_true rfl, Nat.le_of_ble_eq_true rfl⟩) B (zrecv B (ci := 6) rfl (wa_21 κ τ)) rfl hl.1 rfl (Nat.le_of_ble_eq_true rfl) d_Mo_takeTurn_106 ⟨Nat.zero_le _, Nat.zero_le _⟩ (fun r σ' H locs hp B => ?_)
          obtain ⟨rfl, hp⟩ := hp
          rw [hp] at B
          have B : BA κ A s.heap s τ H locs := B
          refine lv_if_ne (tgt := 144) hx hb d_Mo_takeTurn_109 (by decide) (fun c_4 => ?_) (fun c_4 => ?_)
          · have c_4 := zb_ne0.mp c_4
            refine lv_iinc (v := nI (k + 1)) (lv' := [(3, .int (nI (k + 1))), (0, .ref (aA κ 21)), (1, .int (nI u))]) hx hb d_Mo_takeTurn_144 hl (k := 2) rfl (zinc _) (by decide) rfl (fun ls hl => ?_)
            refine lv_goto (tgt := 86) hx hb d_Mo_takeTurn_147 (by decide) ?_
            exact ih (k + 1) τ (by omega) (by rw [hst]; simp [zit, fm_ask1, c_2, c_3, c_4]) hE hW _ _ B ls (lv_sub hl [1, 2, 0] rfl)
          · have c_4 := zb_eq0.mp c_4
            refine lv_aload_n hx hb d_Mo_takeTurn_112 rfl (lv_at hl 0 rfl) ?_
            refine va_get (D := κ.1) (ci := 6) (v := .ref (aA κ 24)) (C := "UnitThreadsModel") (T := T_Mo) (N := 26) hx hb hts in_Mo hown B.1 B.2.1 21 (wa_21 κ τ) rfl 5 (by decide) (hts _ w_413) (fun _ h9 => h9) rfl d_Mo_takeTurn_113 ?_
            refine lv_aload_n hx hb d_Mo_takeTurn_116 rfl (lv_at hl 0 rfl) ?_
            refine va_get (D := κ.1) (ci := 6) (v := .ref (aA κ 31)) (C := "UnitThreadsModel") (T := T_Mo) (N := 26) hx hb hts in_Mo hown B.1 B.2.1 21 (wa_21 κ τ) rfl 12 (by decide) (hts _ w_420) (fun _ h9 => h9) rfl d_Mo_takeTurn_117 ?_
            refine lv_iload_n hx hb d_Mo_takeTurn_120 rfl (lv_at hl 2 rfl) ?_
            refine ziald hx hb B 31 0 (wa_31 κ τ) rfl k rfl (by omega) (by decide) d_Mo_takeTurn_121 ?_
            refine ziald hx hb B 24 0 (wa_24 κ τ) rfl (tn (τ.1 33 k)) ((hW k (by omega) (of_decide_eq_true c_3).1).1) (by have h := (hW k (by omega) (of_decide_eq_true c_3).1).2; omega) (by decide) d_Mo_takeTurn_122 ?_
            refine lv_iload_n hx hb d_Mo_takeTurn_123 rfl (lv_at hl 1 rfl) ?_
            refine lv_icmp_eq (tgt := 144) hx hb d_Mo_takeTurn_124 (by decide) (fun c_5 => ?_) (fun c_5 => ?_)
            · refine lv_iinc (v := nI (k + 1)) (lv' := [(3, .int (nI (k + 1))), (0, .ref (aA κ 21)), (1, .int (nI u))]) hx hb d_Mo_takeTurn_144 hl (k := 2) rfl (zinc _) (by decide) rfl (fun ls hl => ?_)
              refine lv_goto (tgt := 86) hx hb d_Mo_takeTurn_147 (by decide) ?_
              exact ih (k + 1) τ (by omega) (by rw [hst]; simp [zit, fm_ask1, c_2, c_3, c_4, c_5]) hE hW _ _ B ls (lv_sub hl [1, 2, 0] rfl)
            · refine lv_aload_n hx hb d_Mo_takeTurn_127 rfl (lv_at hl 0 rfl) ?_
              refine va_get (D := κ.1) (ci := 6) (v := .ref (aA κ 42)) (C := "UnitThreadsModel") (T := T_Mo) (N := 26) hx hb hts in_Mo hown B.1 B.2.1 21 (wa_21 κ τ) rfl 25 (by decide) (hts _ w_433) (fun _ h9 => h9) rfl d_Mo_takeTurn_128 ?_
              refine lv_bipush (v := nI 8) hx hb d_Mo_takeTurn_131 (by decide) ?_
              refine lv_aload_n hx hb d_Mo_takeTurn_133 rfl (lv_at hl 0 rfl) ?_
              refine va_get (D := κ.1) (ci := 6) (v := .ref (aA κ 31)) (C := "UnitThreadsModel") (T := T_Mo) (N := 26) hx hb hts in_Mo hown B.1 B.2.1 21 (wa_21 κ τ) rfl 12 (by decide) (hts _ w_420) (fun _ h9 => h9) rfl d_Mo_takeTurn_134 ?_
              refine lv_iload_n hx hb d_Mo_takeTurn_137 rfl (lv_at hl 2 rfl) ?_
              refine ziald hx hb B 31 0 (wa_31 κ τ) rfl k rfl (by omega) (by decide) d_Mo_takeTurn_138 ?_
              refine lv_imul hx hb d_Mo_takeTurn_139 ?_
              refine zrwi (y := nI (8 * tn (τ.1 33 k))) (zmul8 (hW k (by omega) (of_decide_eq_true c_3).1).1) ?_
              refine lv_iload_n hx hb d_Mo_takeTurn_140 rfl (lv_at hl 1 rfl) ?_
              refine lv_iadd hx hb d_Mo_takeTurn_141 ?_
              refine zrwi (y := nI (8 * tn (τ.1 33 k) + u)) (nI_add _ _) ?_
              refine lv_iconst (v := 1) hx hb d_Mo_takeTurn_142 (by decide) ?_
              refine zzast hx hb B 42 3 (wa_42 κ τ) rfl (8 * tn (τ.1 33 k) + u) rfl (by have h := (hW k (by omega) (of_decide_eq_true c_3).1).2; omega) (by decide) (y := 1) (rfl) (ws_42 κ τ (8 * tn (τ.1 33 k) + u) 1) d_Mo_takeTurn_143 (fun H locs B => ?_)
              have B : BA κ A s.heap s (zi τ 45 (8 * tn (τ.1 33 k) + u) 1) H locs := B
              refine lv_iinc (v := nI (k + 1)) (lv' := [(3, .int (nI (k + 1))), (0, .ref (aA κ 21)), (1, .int (nI u))]) hx hb d_Mo_takeTurn_144 hl (k := 2) rfl (zinc _) (by decide) rfl (fun ls hl => ?_)
              refine lv_goto (tgt := 86) hx hb d_Mo_takeTurn_147 (by decide) ?_
              exact ih (k + 1) (zi τ 45 (8 * tn (τ.1 33 k) + u) 1) (by omega) (by rw [hst]; simp [zit, fm_ask1, c_2, c_3, c_4, c_5]) hE hW _ _ B ls (lv_sub hl [1, 2, 0] rfl)
  refine lv_aload_n hx hb d_Mo_takeTurn_0 rfl (lv_at hl 0 rfl) ?_
  refine va_get (D := κ.1) (ci := 6) (v := .ref (aA κ 36)) (C := "UnitThreadsModel") (T := T_Mo) (N := 26) hx hb hts in_Mo hown B.1 B.2.1 21 (wa_21 κ σ) rfl 18 (by decide) (hts _ w_426) (fun _ h9 => h9) rfl d_Mo_takeTurn_1 ?_
  refine lv_aload_n hx hb d_Mo_takeTurn_4 rfl (lv_at hl 0 rfl) ?_
  refine va_get (D := κ.1) (ci := 6) (v := .int (σ.1 41 0)) (C := "UnitThreadsModel") (T := T_Mo) (N := 26) hx hb hts in_Mo hown B.1 B.2.1 21 (wa_21 κ σ) rfl 21 (by decide) (hts _ w_429) (fun _ h9 => h9) rfl d_Mo_takeTurn_5 ?_
  refine zrwi (y := nI t) (ht) ?_
  refine lv_aload_n hx hb d_Mo_takeTurn_8 rfl (lv_at hl 0 rfl) ?_
  refine va_get (D := κ.1) (ci := 6) (v := .int (σ.1 26 0)) (C := "UnitThreadsModel") (T := T_Mo) (N := 26) hx hb hts in_Mo hown B.1 B.2.1 21 (wa_21 κ σ) rfl 2 (by decide) (hts _ w_410) (fun _ h9 => h9) rfl d_Mo_takeTurn_9 ?_
  refine ziast hx hb B 36 0 (wa_36 κ σ) rfl t rfl (by omega) (by decide) (ws_36 κ σ t (σ.1 26 0)) d_Mo_takeTurn_12 (fun H locs B => ?_)
  have B : BA κ A s.heap s (zi σ 38 t (σ.1 26 0)) H locs := B
  refine lv_aload_n hx hb d_Mo_takeTurn_13 rfl (lv_at hl 0 rfl) ?_
  refine va_get (D := κ.1) (ci := 6) (v := .ref (aA κ 37)) (C := "UnitThreadsModel") (T := T_Mo) (N := 26) hx hb hts in_Mo hown B.1 B.2.1 21 (wa_21 κ (zi σ 38 t (σ.1 26 0))) rfl 19 (by decide) (hts _ w_427) (fun _ h9 => h9) rfl d_Mo_takeTurn_14 ?_
  refine lv_aload_n hx hb d_Mo_takeTurn_17 rfl (lv_at hl 0 rfl) ?_
  refine va_get (D := κ.1) (ci := 6) (v := .int ((zi σ 38 t (σ.1 26 0)).1 41 0)) (C := "UnitThreadsModel") (T := T_Mo) (N := 26) hx hb hts in_Mo hown B.1 B.2.1 21 (wa_21 κ (zi σ 38 t (σ.1 26 0))) rfl 21 (by decide) (hts _ w_429) (fun _ h9 => h9) rfl d_Mo_takeTurn_18 ?_
  refine zrwi (y := σ.1 41 0) (by rw [zi_nf _ _ (by decide : 41 ≠ 38)]) ?_
  refine zrwi (y := nI t) (ht) ?_
  refine lv_iload_n hx hb d_Mo_takeTurn_21 rfl (lv_at hl 1 rfl) ?_
  refine ziast hx hb B 37 0 (wa_37 κ (zi σ 38 t (σ.1 26 0))) rfl t rfl (by omega) (by decide) (ws_37 κ (zi σ 38 t (σ.1 26 0)) t (nI u)) d_Mo_takeTurn_22 (fun H locs B => ?_)
  have B : BA κ A s.heap s (zi (zi σ 38 t (σ.1 26 0)) 39 t (nI u)) H locs := B
  refine lv_aload_n hx hb d_Mo_takeTurn_23 rfl (lv_at hl 0 rfl) ?_
  refine va_get (D := κ.1) (ci := 6) (v := .ref (aA κ 38)) (C := "UnitThreadsModel") (T := T_Mo) (N := 26) hx hb hts in_Mo hown B.1 B.2.1 21 (wa_21 κ (zi (zi σ 38 t (σ.1 26 0)) 39 t (nI u))) rfl 20 (by decide) (hts _ w_428) (fun _ h9 => h9) rfl d_Mo_takeTurn_24 ?_
  refine lv_aload_n hx hb d_Mo_takeTurn_27 rfl (lv_at hl 0 rfl) ?_
  refine va_get (D := κ.1) (ci := 6) (v := .int ((zi (zi σ 38 t (σ.1 26 0)) 39 t (nI u)).1 41 0)) (C := "UnitThreadsModel") (T := T_Mo) (N := 26) hx hb hts in_Mo hown B.1 B.2.1 21 (wa_21 κ (zi (zi σ 38 t (σ.1 26 0)) 39 t (nI u))) rfl 21 (by decide) (hts _ w_429) (fun _ h9 => h9) rfl d_Mo_takeTurn_28 ?_
  refine zrwi (y := σ.1 41 0) (by rw [zi_nf _ _ (by decide : 41 ≠ 39), zi_nf _ _ (by decide : 41 ≠ 38)]) ?_
  refine zrwi (y := nI t) (ht) ?_
  refine lv_iconst (v := 0) hx hb d_Mo_takeTurn_31 (by decide) ?_
  refine ziast hx hb B 38 0 (wa_38 κ (zi (zi σ 38 t (σ.1 26 0)) 39 t (nI u))) rfl t rfl (by omega) (by decide) (ws_38 κ (zi (zi σ 38 t (σ.1 26 0)) 39 t (nI u)) t 0) d_Mo_takeTurn_32 (fun H locs B => ?_)
  have B : BA κ A s.heap s (zi (zi (zi σ 38 t (σ.1 26 0)) 39 t (nI u)) 40 t 0) H locs := B
  refine lv_aload_n hx hb d_Mo_takeTurn_33 rfl (lv_at hl 0 rfl) ?_
  refine lv_dup hx hb d_Mo_takeTurn_34 rfl ?_
  refine va_get (D := κ.1) (ci := 6) (v := .int ((zi (zi (zi σ 38 t (σ.1 26 0)) 39 t (nI u)) 40 t 0).1 41 0)) (C := "UnitThreadsModel") (T := T_Mo) (N := 26) hx hb hts in_Mo hown B.1 B.2.1 21 (wa_21 κ (zi (zi (zi σ 38 t (σ.1 26 0)) 39 t (nI u)) 40 t 0)) rfl 21 (by decide) (hts _ w_429) (fun _ h9 => h9) rfl d_Mo_takeTurn_35 ?_
  refine zrwi (y := σ.1 41 0) (by rw [zi_nf _ _ (by decide : 41 ≠ 40), zi_nf _ _ (by decide : 41 ≠ 39), zi_nf _ _ (by decide : 41 ≠ 38)]) ?_
  refine zrwi (y := nI t) (ht) ?_
  refine lv_iconst (v := 1) hx hb d_Mo_takeTurn_38 (by decide) ?_
  refine lv_iadd hx hb d_Mo_takeTurn_39 ?_
  refine zrwi (y := nI (t + 1)) (nI_1 _) ?_
  refine zput (ci := 6) (v := .int (nI (t + 1))) (ty := .int) (C := "UnitThreadsModel") (T := T_Mo) (N := 26) hx hb hts in_Mo ty_Mo tyok_Mo nm_Mo hown B 21 (wa_21 κ (zi (zi (zi σ 38 t (σ.1 26 0)) 39 t (nI u)) 40 t 0)) rfl 21 (by decide) (hts _ w_429) (fun _ h9 => h9) rfl (by decide +kernel) rfl rfl (Nat.le_of_ble_eq_true rfl) (wp_21_21 κ (zi (zi (zi σ 38 t (σ.1 26 0)) 39 t (nI u)) 40 t 0) (nI (t + 1))) d_Mo_takeTurn_40 (fun H locs B => ?_)
  have B : BA κ A s.heap s (zi (zi (zi (zi σ 38 t (σ.1 26 0)) 39 t (nI u)) 40 t 0) 41 0 (nI (t + 1))) H locs := B
  have B : BA κ A s.heap s (fm_turn0 σ t u) H locs := B
  refine lv_aload_n hx hb d_Mo_takeTurn_43 rfl (lv_at hl 0 rfl) ?_
  refine lv_iconst (v := 2) hx hb d_Mo_takeTurn_44 (by decide) ?_
  refine lv_iload_n hx hb d_Mo_takeTurn_45 rfl (lv_at hl 1 rfl) ?_
  refine lv_aload_n hx hb d_Mo_takeTurn_46 rfl (lv_at hl 0 rfl) ?_
  refine va_get (D := κ.1) (ci := 6) (v := .ref (aA κ 33)) (C := "UnitThreadsModel") (T := T_Mo) (N := 26) hx hb hts in_Mo hown B.1 B.2.1 21 (wa_21 κ (fm_turn0 σ t u)) rfl 15 (by decide) (hts _ w_423) (fun _ h9 => h9) rfl d_Mo_takeTurn_47 ?_
  refine lv_iload_n hx hb d_Mo_takeTurn_50 rfl (lv_at hl 1 rfl) ?_
  refine ziald hx hb B 33 0 (wa_33 κ (fm_turn0 σ t u)) rfl u rfl (by omega) (by decide) d_Mo_takeTurn_51 ?_
  refine zrwi (y := σ.1 35 u) (rfl) ?_
  refine lv_iconst (v := (-1)) hx hb d_Mo_takeTurn_52 (by decide) ?_
  refine zcV_i (As := [.int (2), .int (nI u), .int (σ.1 35 u), .int ((-1))]) (rest := []) ⟨hx, hb, hml, hown, hts⟩ (c_Mo_find l κ (fm_turn0 σ t u) 2 (nI u) (σ.1 35 u) (-1) E hE hE3) (cwV 4 hts (zgoodV w_511 w_513 s_15 w_9 w_514) rfl rfl rfl (by decide +kernel) ⟨Nat.le_of_ble_eq_true rfl, Nat.le_of_ble_eq_true rfl⟩) B (zrecv B (ci := 6) rfl (wa_21 κ (fm_turn0 σ t u))) rfl hl.1 rfl (Nat.le_of_ble_eq_true rfl) d_Mo_takeTurn_53 ⟨Nat.zero_le _, Nat.zero_le _⟩ (fun r σ' H locs hp B => ?_)
  obtain ⟨rfl, hp⟩ := hp
  rw [hp] at B
  have B : BA κ A s.heap s (fm_turn0 σ t u) H locs := B
  refine zrwi (y := fm_thr σ E t u) (rfl) ?_
  refine lv_istore_n (lv' := [(2, .int (fm_thr σ E t u)), (0, .ref (aA κ 21)), (1, .int (nI u))]) hx hb d_Mo_takeTurn_56 rfl hl (by decide) rfl (fun ls hl => ?_)
  refine lv_aload_n hx hb d_Mo_takeTurn_57 rfl (lv_at hl 1 rfl) ?_
  refine va_get (D := κ.1) (ci := 6) (v := .ref (aA κ 41)) (C := "UnitThreadsModel") (T := T_Mo) (N := 26) hx hb hts in_Mo hown B.1 B.2.1 21 (wa_21 κ (fm_turn0 σ t u)) rfl 24 (by decide) (hts _ w_432) (fun _ h9 => h9) rfl d_Mo_takeTurn_58 ?_
  refine lv_iload_n hx hb d_Mo_takeTurn_61 rfl (lv_at hl 2 rfl) ?_
  refine lv_iload_n hx hb d_Mo_takeTurn_62 rfl (lv_at hl 0 rfl) ?_
  refine lv_if_lt (tgt := 70) hx hb d_Mo_takeTurn_63 (by decide) (fun c_6 => ?_) (fun c_6 => ?_)
  · refine lv_iconst (v := 0) hx hb d_Mo_takeTurn_70 (by decide) ?_
    refine zzast hx hb B 41 3 (wa_41 κ (fm_turn0 σ t u)) rfl u rfl (by omega) (by decide) (y := 0) (rfl) (ws_41 κ (fm_turn0 σ t u) u 0) d_Mo_takeTurn_71 (fun H locs B => ?_)
    have B : BA κ A s.heap s (zi (fm_turn0 σ t u) 44 u 0) H locs := B
    refine lv_iload_n hx hb d_Mo_takeTurn_72 rfl (lv_at hl 0 rfl) ?_
    refine lv_if_lt (tgt := 84) hx hb d_Mo_takeTurn_73 (by decide) (fun c_7 => ?_) (fun c_7 => ?_)
    · refine lv_iconst (v := nI 0) hx hb d_Mo_takeTurn_84 (by decide) ?_
      refine lv_istore_n (lv' := [(3, .int (nI 0)), (2, .int (fm_thr σ E t u)), (0, .ref (aA κ 21)), (1, .int (nI u))]) hx hb d_Mo_takeTurn_85 rfl hl (by decide) rfl (fun ls hl => ?_)
      exact L_86 E 0 (zi (fm_turn0 σ t u) 44 u 0) (by omega) (by rw [fm_turn, if_pos c_6]) hE hW _ _ B ls (lv_sub hl [2, 3, 0] rfl)
    · exact absurd c_7 (not_not_intro c_6)
  · refine lv_iconst (v := 1) hx hb d_Mo_takeTurn_66 (by decide) ?_
    refine lv_goto (tgt := 71) hx hb d_Mo_takeTurn_67 (by decide) ?_
    refine zzast hx hb B 41 3 (wa_41 κ (fm_turn0 σ t u)) rfl u rfl (by omega) (by decide) (y := 1) (rfl) (ws_41 κ (fm_turn0 σ t u) u 1) d_Mo_takeTurn_71 (fun H locs B => ?_)
    have B : BA κ A s.heap s (zi (fm_turn0 σ t u) 44 u 1) H locs := B
    refine lv_iload_n hx hb d_Mo_takeTurn_72 rfl (lv_at hl 0 rfl) ?_
    refine lv_if_lt (tgt := 84) hx hb d_Mo_takeTurn_73 (by decide) (fun c_8 => ?_) (fun c_8 => ?_)
    · exact absurd c_8 (c_6)
    · refine lv_aload_n hx hb d_Mo_takeTurn_76 rfl (lv_at hl 1 rfl) ?_
      refine va_get (D := κ.1) (ci := 6) (v := .ref (aA κ 28)) (C := "UnitThreadsModel") (T := T_Mo) (N := 26) hx hb hts in_Mo hown B.1 B.2.1 21 (wa_21 κ (zi (fm_turn0 σ t u) 44 u 1)) rfl 9 (by decide) (hts _ w_417) (fun _ h9 => h9) rfl d_Mo_takeTurn_77 ?_
      refine lv_iload_n hx hb d_Mo_takeTurn_80 rfl (lv_at hl 0 rfl) ?_
      refine lv_iconst (v := 3) hx hb d_Mo_takeTurn_81 (by decide) ?_
      refine ziast hx hb B 28 0 (wa_28 κ (zi (fm_turn0 σ t u) 44 u 1)) rfl (tn (fm_thr σ E t u)) ((fm_find_ok c_6 hE3).1) (by have h := (fm_find_ok c_6 hE3).2; unfold fm_thr; omega) (by decide) (ws_28 κ (zi (fm_turn0 σ t u) 44 u 1) (tn (fm_thr σ E t u)) 3) d_Mo_takeTurn_82 (fun H locs B => ?_)
      have B : BA κ A s.heap s (zi (zi (fm_turn0 σ t u) 44 u 1) 30 (tn (fm_thr σ E t u)) 3) H locs := B
      exact zret_v hx hb hr hlocks B (by rw [fm_turn, if_neg c_6]) d_Mo_takeTurn_83
set_option maxHeartbeats 4000000 in
set_option maxRecDepth 100000 in
theorem c_Mo_tellEnd (l : Launch) (κ : KA) (σ : zS) (u : Nat) (p2 : Int32) (t : Nat) (ht : σ.1 41 0 = nI t) (ht5 : t ≤ 512) : zMv l y_Mo_tellEnd (zws y_Mo_tellEnd prog_8_method_19_code 4 none) ({ frames := 0, cells := 0, slots := 0, locals := 0 }) κ.1 vwCl (tysA κ) nwA (wA κ) σ [.ref (aA κ 21), .int (nI u), .int (p2)] (fun σ' => σ' = fm_tell u p2 t σ) := by
  refine zintro (cc := prog_8_method_19_code) (maxL := 4) (ret := none) (by decide) rfl (Nat.le_of_ble_eq_true rfl) ?_
  intro p e s m below meth c ls hx hb hr hml hts hown hlocks hl B
  have hl : lv_has ls 4 [(0, .ref (aA κ 21)), (1, .int (nI u)), (2, .int (p2))] := hl
  have B : BA κ (va_A (wA κ σ) s.heap.size) s.heap s σ s.heap [] := B
  have hr : meth.sig.returnType = none := hr
  have hown : s.vm.findClass "UnitThreadsModel" = some m.cls := hown
  show W p l e (headSpec (zws y_Mo_tellEnd prog_8_method_19_code 4 none) ({ frames := 0, cells := 0, slots := 0, locals := 0 })).room s m [.ref (aA κ 21), .int (nI u), .int (p2)].toArray below meth c s.heap [] 0 0 (MQ below (va_Qv (fun σ' => σ' = fm_tell u p2 t σ) (zQ κ.1 vwCl (tysA κ) (wA κ) (va_A (wA κ σ) s.heap.size)) (va_A (wA κ σ) s.heap.size)) [.ref (aA κ 21), .int (nI u), .int (p2)].toArray s 0 0 (va_A (wA κ σ) s.heap.size)) (F0 m 0 ls [])
  generalize va_A (wA κ σ) s.heap.size = A at B ⊢
  have hts : ∀ w ∈ zW, w.before [.ref (aA κ 21), .int (nI u), .int (p2)].toArray s = true := fun w h => hts w (List.mem_cons_of_mem _ h)
  have L_7 : ∀ (j : Nat) (i : Int32) (τ : zS), (j ≤ t) → (i = nI j - 1) → (fm_tell u p2 t σ = fm_tell u p2 j τ) → ∀ (H : Heap) (locs : List Loc), BA κ A s.heap s τ H locs → ∀ (ls : Array Slot), lv_has ls 4 [(0, .ref (aA κ 21)), (1, .int (nI u)), (2, .int (p2)), (3, .int (i))] → W p l e (headSpec (zws y_Mo_tellEnd prog_8_method_19_code 4 none) ({ frames := 0, cells := 0, slots := 0, locals := 0 })).room s m [.ref (aA κ 21), .int (nI u), .int (p2)].toArray below meth c H locs 0 0 (MQ below (va_Qv (fun σ' => σ' = fm_tell u p2 t σ) (zQ κ.1 vwCl (tysA κ) (wA κ) A) A) [.ref (aA κ 21), .int (nI u), .int (p2)].toArray s 0 0 A) (F0 m 7 ls []) := by
    intro j
    induction j with
    | zero =>
      intro i τ hj hi hst H locs B ls hl
      refine lv_iload_n hx hb d_Mo_tellEnd_7 rfl (lv_at hl 3 rfl) ?_
      refine lv_if_lt (tgt := 56) hx hb d_Mo_tellEnd_8 (by decide) (fun c_1 => ?_) (fun c_1 => ?_)
      · exact zret_v hx hb hr hlocks B (hst.symm) d_Mo_tellEnd_56
      · exact absurd c_1 (not_not_intro (by rw [hi]; decide))
    | succ j ih =>
      intro i τ hj hi hst H locs B ls hl
      refine lv_iload_n hx hb d_Mo_tellEnd_7 rfl (lv_at hl 3 rfl) ?_
      refine lv_if_lt (tgt := 56) hx hb d_Mo_tellEnd_8 (by decide) (fun c_2 => ?_) (fun c_2 => ?_)
      · exact absurd c_2 (by rw [hi, nI_pred]; exact nI_pos (by omega))
      · refine lv_aload_n hx hb d_Mo_tellEnd_11 rfl (lv_at hl 0 rfl) ?_
        refine va_get (D := κ.1) (ci := 6) (v := .ref (aA κ 36)) (C := "UnitThreadsModel") (T := T_Mo) (N := 26) hx hb hts in_Mo hown B.1 B.2.1 21 (wa_21 κ τ) rfl 18 (by decide) (hts _ w_426) (fun _ h9 => h9) rfl d_Mo_tellEnd_12 ?_
        refine lv_iload_n hx hb d_Mo_tellEnd_15 rfl (lv_at hl 3 rfl) ?_
        refine ziald hx hb B 36 0 (wa_36 κ τ) rfl j (hi.trans (nI_pred j)) (by omega) (by decide) d_Mo_tellEnd_16 ?_
        refine lv_aload_n hx hb d_Mo_tellEnd_17 rfl (lv_at hl 0 rfl) ?_
        refine va_get (D := κ.1) (ci := 6) (v := .int (τ.1 26 0)) (C := "UnitThreadsModel") (T := T_Mo) (N := 26) hx hb hts in_Mo hown B.1 B.2.1 21 (wa_21 κ τ) rfl 2 (by decide) (hts _ w_410) (fun _ h9 => h9) rfl d_Mo_tellEnd_18 ?_
        refine lv_icmp_ne (tgt := 56) hx hb d_Mo_tellEnd_21 (by decide) (fun c_3 => ?_) (fun c_3 => ?_)
        · exact zret_v hx hb hr hlocks B ((hst.trans (if_neg c_3)).symm) d_Mo_tellEnd_56
        · refine lv_aload_n hx hb d_Mo_tellEnd_24 rfl (lv_at hl 0 rfl) ?_
          refine va_get (D := κ.1) (ci := 6) (v := .ref (aA κ 38)) (C := "UnitThreadsModel") (T := T_Mo) (N := 26) hx hb hts in_Mo hown B.1 B.2.1 21 (wa_21 κ τ) rfl 20 (by decide) (hts _ w_428) (fun _ h9 => h9) rfl d_Mo_tellEnd_25 ?_
          refine lv_iload_n hx hb d_Mo_tellEnd_28 rfl (lv_at hl 3 rfl) ?_
          refine lv_aload_n hx hb d_Mo_tellEnd_29 rfl (lv_at hl 0 rfl) ?_
          refine va_get (D := κ.1) (ci := 6) (v := .ref (aA κ 37)) (C := "UnitThreadsModel") (T := T_Mo) (N := 26) hx hb hts in_Mo hown B.1 B.2.1 21 (wa_21 κ τ) rfl 19 (by decide) (hts _ w_427) (fun _ h9 => h9) rfl d_Mo_tellEnd_30 ?_
          refine lv_iload_n hx hb d_Mo_tellEnd_33 rfl (lv_at hl 3 rfl) ?_
          refine ziald hx hb B 37 0 (wa_37 κ τ) rfl j (hi.trans (nI_pred j)) (by omega) (by decide) d_Mo_tellEnd_34 ?_
          refine lv_iload_n hx hb d_Mo_tellEnd_35 rfl (lv_at hl 1 rfl) ?_
          refine lv_icmp_ne (tgt := 43) hx hb d_Mo_tellEnd_36 (by decide) (fun c_4 => ?_) (fun c_4 => ?_)
          · refine lv_aload_n hx hb d_Mo_tellEnd_43 rfl (lv_at hl 0 rfl) ?_
            refine va_get (D := κ.1) (ci := 6) (v := .ref (aA κ 38)) (C := "UnitThreadsModel") (T := T_Mo) (N := 26) hx hb hts in_Mo hown B.1 B.2.1 21 (wa_21 κ τ) rfl 20 (by decide) (hts _ w_428) (fun _ h9 => h9) rfl d_Mo_tellEnd_44 ?_
            refine lv_iload_n hx hb d_Mo_tellEnd_47 rfl (lv_at hl 3 rfl) ?_
            refine ziald hx hb B 38 0 (wa_38 κ τ) rfl j (hi.trans (nI_pred j)) (by omega) (by decide) d_Mo_tellEnd_48 ?_
            refine ziast hx hb B 38 0 (wa_38 κ τ) rfl j (hi.trans (nI_pred j)) (by omega) (by decide) (ws_38 κ τ j (τ.1 40 j)) d_Mo_tellEnd_49 (fun H locs B => ?_)
            have B : BA κ A s.heap s (zi τ 40 j (τ.1 40 j)) H locs := B
            refine lv_iinc (v := i + (-1)) (lv' := [(3, .int (i + (-1))), (0, .ref (aA κ 21)), (1, .int (nI u)), (2, .int (p2))]) hx hb d_Mo_tellEnd_50 hl (k := 3) rfl (rfl) (by decide) rfl (fun ls hl => ?_)
            refine lv_goto (tgt := 7) hx hb d_Mo_tellEnd_53 (by decide) ?_
            exact ih (i + (-1)) (zi τ 40 j (τ.1 40 j)) (by omega) (by rw [hi, nI_pred]; exact zdec j) (by rw [hst]; simp [fm_tell, c_2, c_3, c_4]) _ _ B ls (lv_sub hl [1, 2, 3, 0] rfl)
          · refine lv_iload_n hx hb d_Mo_tellEnd_39 rfl (lv_at hl 2 rfl) ?_
            refine lv_goto (tgt := 49) hx hb d_Mo_tellEnd_40 (by decide) ?_
            refine ziast hx hb B 38 0 (wa_38 κ τ) rfl j (hi.trans (nI_pred j)) (by omega) (by decide) (ws_38 κ τ j p2) d_Mo_tellEnd_49 (fun H locs B => ?_)
            have B : BA κ A s.heap s (zi τ 40 j p2) H locs := B
            refine lv_iinc (v := i + (-1)) (lv' := [(3, .int (i + (-1))), (0, .ref (aA κ 21)), (1, .int (nI u)), (2, .int (p2))]) hx hb d_Mo_tellEnd_50 hl (k := 3) rfl (rfl) (by decide) rfl (fun ls hl => ?_)
            refine lv_goto (tgt := 7) hx hb d_Mo_tellEnd_53 (by decide) ?_
            exact ih (i + (-1)) (zi τ 40 j p2) (by omega) (by rw [hi, nI_pred]; exact zdec j) (by rw [hst]; simp [fm_tell, c_2, c_3, c_4]) _ _ B ls (lv_sub hl [1, 2, 3, 0] rfl)
  refine lv_aload_n hx hb d_Mo_tellEnd_0 rfl (lv_at hl 0 rfl) ?_
  refine va_get (D := κ.1) (ci := 6) (v := .int (σ.1 41 0)) (C := "UnitThreadsModel") (T := T_Mo) (N := 26) hx hb hts in_Mo hown B.1 B.2.1 21 (wa_21 κ σ) rfl 21 (by decide) (hts _ w_429) (fun _ h9 => h9) rfl d_Mo_tellEnd_1 ?_
  refine zrwi (y := nI t) (ht) ?_
  refine lv_iconst (v := 1) hx hb d_Mo_tellEnd_4 (by decide) ?_
  refine lv_isub hx hb d_Mo_tellEnd_5 ?_
  refine lv_istore_n (lv' := [(3, .int ((nI t) - 1)), (0, .ref (aA κ 21)), (1, .int (nI u)), (2, .int (p2))]) hx hb d_Mo_tellEnd_6 rfl hl (by decide) rfl (fun ls hl => ?_)
  exact L_7 t (nI t - 1) σ (by omega) rfl rfl _ _ B ls (lv_sub hl [1, 2, 3, 0] rfl)
set_option maxHeartbeats 4000000 in
set_option maxRecDepth 100000 in
theorem c_Mo_ownsAll (l : Launch) (κ : KA) (σ : zS) (u : Nat) (hu : u < nA κ) (hn : nA κ ≤ 8) (E : Nat) (hE : σ.1 34 0 = nI E) (hE3 : E ≤ 300) (hW : ∀ e, e < E → σ.1 30 e = 1 → zin (σ.1 33 e) 16) : zMi l y_Mo_ownsAll (zws y_Mo_ownsAll prog_8_method_20_code 4 (some .boolean)) ({ frames := 1, cells := 0, slots := 0, locals := 23 }) κ.1 vwCl (tysA κ) nwA (wA κ) σ [.ref (aA κ 21), .int (nI u)] (fun r σ' => r = zb (fm_ownsAll σ E u E 0 true) ∧ σ' = σ) := by
  refine zintro (cc := prog_8_method_20_code) (maxL := 4) (ret := (some .boolean)) (by decide) rfl (Nat.le_of_ble_eq_true rfl) ?_
  intro p e s m below meth c ls hx hb hr hml hts hown hlocks hl B
  have hl : lv_has ls 4 [(0, .ref (aA κ 21)), (1, .int (nI u))] := hl
  have B : BA κ (va_A (wA κ σ) s.heap.size) s.heap s σ s.heap [] := B
  have hr : meth.sig.returnType = (some .boolean) := hr
  have hown : s.vm.findClass "UnitThreadsModel" = some m.cls := hown
  show W p l e (headSpec (zws y_Mo_ownsAll prog_8_method_20_code 4 (some .boolean)) ({ frames := 1, cells := 0, slots := 0, locals := 23 })).room s m [.ref (aA κ 21), .int (nI u)].toArray below meth c s.heap [] 0 0 (MQ below (va_Qi (fun r σ' => r = zb (fm_ownsAll σ E u E 0 true) ∧ σ' = σ) (zQ κ.1 vwCl (tysA κ) (wA κ) (va_A (wA κ σ) s.heap.size)) (va_A (wA κ σ) s.heap.size)) [.ref (aA κ 21), .int (nI u)].toArray s 0 0 (va_A (wA κ σ) s.heap.size)) (F0 m 0 ls [])
  generalize va_A (wA κ σ) s.heap.size = A at B ⊢
  have hts : ∀ w ∈ zW, w.before [.ref (aA κ 21), .int (nI u)].toArray s = true := fun w h => hts w (List.mem_cons_of_mem _ h)
  have L_4 : ∀ (j : Nat) (k : Nat) (b : Bool), (k + j = E) → (fm_ownsAll σ E u E 0 true = fm_ownsAll σ E u j k b) → ∀ (H : Heap) (locs : List Loc), BA κ A s.heap s σ H locs → ∀ (ls : Array Slot), lv_has ls 4 [(0, .ref (aA κ 21)), (1, .int (nI u)), (2, .int (zb b)), (3, .int (nI k))] → W p l e (headSpec (zws y_Mo_ownsAll prog_8_method_20_code 4 (some .boolean)) ({ frames := 1, cells := 0, slots := 0, locals := 23 })).room s m [.ref (aA κ 21), .int (nI u)].toArray below meth c H locs 0 0 (MQ below (va_Qi (fun r σ' => r = zb (fm_ownsAll σ E u E 0 true) ∧ σ' = σ) (zQ κ.1 vwCl (tysA κ) (wA κ) A) A) [.ref (aA κ 21), .int (nI u)].toArray s 0 0 A) (F0 m 4 ls []) := by
    intro j
    induction j with
    | zero =>
      intro k b hj hst H locs B ls hl
      refine lv_iload_n hx hb d_Mo_ownsAll_4 rfl (lv_at hl 3 rfl) ?_
      refine lv_aload_n hx hb d_Mo_ownsAll_5 rfl (lv_at hl 0 rfl) ?_
      refine va_get (D := κ.1) (ci := 6) (v := .int (σ.1 34 0)) (C := "UnitThreadsModel") (T := T_Mo) (N := 26) hx hb hts in_Mo hown B.1 B.2.1 21 (wa_21 κ σ) rfl 14 (by decide) (hts _ w_422) (fun _ h9 => h9) rfl d_Mo_ownsAll_6 ?_
      refine zrwi (y := nI E) (hE) ?_
      refine lv_icmp_ge (tgt := 61) hx hb d_Mo_ownsAll_9 (by decide) (fun c_1 => ?_) (fun c_1 => ?_)
      · have c_1 := (nI_leI (a := E) (b := k) (by omega) (by omega)).mp c_1
        refine lv_iload_n hx hb d_Mo_ownsAll_61 rfl (lv_at hl 2 rfl) ?_
        exact zret_z hx hb hr (zb_nar _) hlocks B (⟨congrArg zb hst.symm, rfl⟩) d_Mo_ownsAll_62
      · have c_1 := (not_congr (nI_leI (a := E) (b := k) (by omega) (by omega))).mp c_1
        exact absurd c_1 (by omega)
    | succ j ih =>
      intro k b hj hst H locs B ls hl
      refine lv_iload_n hx hb d_Mo_ownsAll_4 rfl (lv_at hl 3 rfl) ?_
      refine lv_aload_n hx hb d_Mo_ownsAll_5 rfl (lv_at hl 0 rfl) ?_
      refine va_get (D := κ.1) (ci := 6) (v := .int (σ.1 34 0)) (C := "UnitThreadsModel") (T := T_Mo) (N := 26) hx hb hts in_Mo hown B.1 B.2.1 21 (wa_21 κ σ) rfl 14 (by decide) (hts _ w_422) (fun _ h9 => h9) rfl d_Mo_ownsAll_6 ?_
      refine zrwi (y := nI E) (hE) ?_
      refine lv_icmp_ge (tgt := 61) hx hb d_Mo_ownsAll_9 (by decide) (fun c_2 => ?_) (fun c_2 => ?_)
      · have c_2 := (nI_leI (a := E) (b := k) (by omega) (by omega)).mp c_2
        exact absurd c_2 (by omega)
      · have c_2 := (not_congr (nI_leI (a := E) (b := k) (by omega) (by omega))).mp c_2
        refine lv_iload_n hx hb d_Mo_ownsAll_12 rfl (lv_at hl 2 rfl) ?_
        refine lv_if_eq (tgt := 53) hx hb d_Mo_ownsAll_13 (by decide) (fun c_3 => ?_) (fun c_3 => ?_)
        · have c_3 := zb_eq0.mp c_3
          refine lv_iconst (v := 0) hx hb d_Mo_ownsAll_53 (by decide) ?_
          refine lv_istore_n (lv' := [(2, .int (0)), (0, .ref (aA κ 21)), (1, .int (nI u)), (3, .int (nI k))]) hx hb d_Mo_ownsAll_54 rfl hl (by decide) rfl (fun ls hl => ?_)
          refine lv_iinc (v := nI (k + 1)) (lv' := [(3, .int (nI (k + 1))), (2, .int (0)), (0, .ref (aA κ 21)), (1, .int (nI u))]) hx hb d_Mo_ownsAll_55 hl (k := 3) rfl (zinc _) (by decide) rfl (fun ls hl => ?_)
          refine lv_goto (tgt := 4) hx hb d_Mo_ownsAll_58 (by decide) ?_
          exact ih (k + 1) false (by omega) (by rw [hst]; simp [fm_ownsAll, c_2, c_3]) _ _ B ls (lv_sub hl [2, 3, 1, 0] rfl)
        · have c_3 := zb_ne0.mp c_3
          refine lv_aload_n hx hb d_Mo_ownsAll_16 rfl (lv_at hl 0 rfl) ?_
          refine lv_iload_n hx hb d_Mo_ownsAll_17 rfl (lv_at hl 3 rfl) ?_
          refine lv_iconst (v := 1) hx hb d_Mo_ownsAll_18 (by decide) ?_
          refine lv_iload_n hx hb d_Mo_ownsAll_19 rfl (lv_at hl 1 rfl) ?_
          refine zcV_i (As := [.int (nI k), .int (1), .int (nI u)]) (rest := []) ⟨hx, hb, hml, hown, hts⟩ (c_Mo_isNow l κ σ k 1 u (by omega) (by omega) hn) (cwV 3 hts (zgoodV w_553 w_555 s_21 w_9 w_556) rfl rfl rfl (by decide +kernel) ⟨Nat.le_of_ble_eq_true rfl, Nat.le_of_ble_eq_true rfl⟩) B (zrecv B (ci := 6) rfl (wa_21 κ σ)) rfl hl.1 rfl (Nat.le_of_ble_eq_true rfl) d_Mo_ownsAll_20 ⟨Nat.zero_le _, Nat.zero_le _⟩ (fun r σ' H locs hp B => ?_)
          obtain ⟨rfl, hp⟩ := hp
          rw [hp] at B
          have B : BA κ A s.heap s σ H locs := B
          refine lv_if_eq (tgt := 49) hx hb d_Mo_ownsAll_23 (by decide) (fun c_4 => ?_) (fun c_4 => ?_)
          · have c_4 := zb_eq0.mp c_4
            refine lv_iconst (v := 1) hx hb d_Mo_ownsAll_49 (by decide) ?_
            refine lv_goto (tgt := 54) hx hb d_Mo_ownsAll_50 (by decide) ?_
            refine lv_istore_n (lv' := [(2, .int (1)), (0, .ref (aA κ 21)), (1, .int (nI u)), (3, .int (nI k))]) hx hb d_Mo_ownsAll_54 rfl hl (by decide) rfl (fun ls hl => ?_)
            refine lv_iinc (v := nI (k + 1)) (lv' := [(3, .int (nI (k + 1))), (2, .int (1)), (0, .ref (aA κ 21)), (1, .int (nI u))]) hx hb d_Mo_ownsAll_55 hl (k := 3) rfl (zinc _) (by decide) rfl (fun ls hl => ?_)
            refine lv_goto (tgt := 4) hx hb d_Mo_ownsAll_58 (by decide) ?_
            exact ih (k + 1) true (by omega) (by rw [hst]; simp [fm_ownsAll, c_2, c_3, c_4]) _ _ B ls (lv_sub hl [2, 3, 1, 0] rfl)
          · have c_4 := zb_ne0.mp c_4
            refine lv_aload_n hx hb d_Mo_ownsAll_26 rfl (lv_at hl 0 rfl) ?_
            refine lv_iload_n hx hb d_Mo_ownsAll_27 rfl (lv_at hl 3 rfl) ?_
            refine zcV_i (As := [.int (nI k)]) (rest := []) ⟨hx, hb, hml, hown, hts⟩ (c_Mo_isGive l κ σ k E hE hE3 (by omega)) (cwV 1 hts (zgoodV w_557 w_559 s_22 w_9 w_560) rfl rfl rfl (by decide +kernel) ⟨Nat.le_of_ble_eq_true rfl, Nat.le_of_ble_eq_true rfl⟩) B (zrecv B (ci := 6) rfl (wa_21 κ σ)) rfl hl.1 rfl (Nat.le_of_ble_eq_true rfl) d_Mo_ownsAll_28 ⟨Nat.zero_le _, Nat.zero_le _⟩ (fun r σ' H locs hp B => ?_)
            obtain ⟨rfl, hp⟩ := hp
            rw [hp] at B
            have B : BA κ A s.heap s σ H locs := B
            refine lv_if_ne (tgt := 49) hx hb d_Mo_ownsAll_31 (by decide) (fun c_5 => ?_) (fun c_5 => ?_)
            · have c_5 := zb_ne0.mp c_5
              refine lv_iconst (v := 1) hx hb d_Mo_ownsAll_49 (by decide) ?_
              refine lv_goto (tgt := 54) hx hb d_Mo_ownsAll_50 (by decide) ?_
              refine lv_istore_n (lv' := [(2, .int (1)), (0, .ref (aA κ 21)), (1, .int (nI u)), (3, .int (nI k))]) hx hb d_Mo_ownsAll_54 rfl hl (by decide) rfl (fun ls hl => ?_)
              refine lv_iinc (v := nI (k + 1)) (lv' := [(3, .int (nI (k + 1))), (2, .int (1)), (0, .ref (aA κ 21)), (1, .int (nI u))]) hx hb d_Mo_ownsAll_55 hl (k := 3) rfl (zinc _) (by decide) rfl (fun ls hl => ?_)
              refine lv_goto (tgt := 4) hx hb d_Mo_ownsAll_58 (by decide) ?_
              exact ih (k + 1) true (by omega) (by rw [hst]; simp [fm_ownsAll, c_2, c_3, c_4, c_5]) _ _ B ls (lv_sub hl [2, 3, 1, 0] rfl)
            · have c_5 := zb_eq0.mp c_5
              refine lv_aload_n hx hb d_Mo_ownsAll_34 rfl (lv_at hl 0 rfl) ?_
              refine va_get (D := κ.1) (ci := 6) (v := .ref (aA κ 24)) (C := "UnitThreadsModel") (T := T_Mo) (N := 26) hx hb hts in_Mo hown B.1 B.2.1 21 (wa_21 κ σ) rfl 5 (by decide) (hts _ w_413) (fun _ h9 => h9) rfl d_Mo_ownsAll_35 ?_
              refine lv_aload_n hx hb d_Mo_ownsAll_38 rfl (lv_at hl 0 rfl) ?_
              refine va_get (D := κ.1) (ci := 6) (v := .ref (aA κ 31)) (C := "UnitThreadsModel") (T := T_Mo) (N := 26) hx hb hts in_Mo hown B.1 B.2.1 21 (wa_21 κ σ) rfl 12 (by decide) (hts _ w_420) (fun _ h9 => h9) rfl d_Mo_ownsAll_39 ?_
              refine lv_iload_n hx hb d_Mo_ownsAll_42 rfl (lv_at hl 3 rfl) ?_
              refine ziald hx hb B 31 0 (wa_31 κ σ) rfl k rfl (by omega) (by decide) d_Mo_ownsAll_43 ?_
              refine ziald hx hb B 24 0 (wa_24 κ σ) rfl (tn (σ.1 33 k)) ((hW k (by omega) (of_decide_eq_true c_4).1).1) (by have h := (hW k (by omega) (of_decide_eq_true c_4).1).2; omega) (by decide) d_Mo_ownsAll_44 ?_
              refine lv_iload_n hx hb d_Mo_ownsAll_45 rfl (lv_at hl 1 rfl) ?_
              refine lv_icmp_ne (tgt := 53) hx hb d_Mo_ownsAll_46 (by decide) (fun c_6 => ?_) (fun c_6 => ?_)
              · refine lv_iconst (v := 0) hx hb d_Mo_ownsAll_53 (by decide) ?_
                refine lv_istore_n (lv' := [(2, .int (0)), (0, .ref (aA κ 21)), (1, .int (nI u)), (3, .int (nI k))]) hx hb d_Mo_ownsAll_54 rfl hl (by decide) rfl (fun ls hl => ?_)
                refine lv_iinc (v := nI (k + 1)) (lv' := [(3, .int (nI (k + 1))), (2, .int (0)), (0, .ref (aA κ 21)), (1, .int (nI u))]) hx hb d_Mo_ownsAll_55 hl (k := 3) rfl (zinc _) (by decide) rfl (fun ls hl => ?_)
                refine lv_goto (tgt := 4) hx hb d_Mo_ownsAll_58 (by decide) ?_
                exact ih (k + 1) false (by omega) (by rw [hst]; simp [fm_ownsAll, c_2, c_3, c_4, c_5, c_6]) _ _ B ls (lv_sub hl [2, 3, 1, 0] rfl)
              · refine lv_iconst (v := 1) hx hb d_Mo_ownsAll_49 (by decide) ?_
                refine lv_goto (tgt := 54) hx hb d_Mo_ownsAll_50 (by decide) ?_
                refine lv_istore_n (lv' := [(2, .int (1)), (0, .ref (aA κ 21)), (1, .int (nI u)), (3, .int (nI k))]) hx hb d_Mo_ownsAll_54 rfl hl (by decide) rfl (fun ls hl => ?_)
                refine lv_iinc (v := nI (k + 1)) (lv' := [(3, .int (nI (k + 1))), (2, .int (1)), (0, .ref (aA κ 21)), (1, .int (nI u))]) hx hb d_Mo_ownsAll_55 hl (k := 3) rfl (zinc _) (by decide) rfl (fun ls hl => ?_)
                refine lv_goto (tgt := 4) hx hb d_Mo_ownsAll_58 (by decide) ?_
                exact ih (k + 1) true (by omega) (by rw [hst]; simp [fm_ownsAll, c_2, c_3, c_4, c_5, c_6]) _ _ B ls (lv_sub hl [2, 3, 1, 0] rfl)
  refine lv_iconst (v := 1) hx hb d_Mo_ownsAll_0 (by decide) ?_
  refine lv_istore_n (lv' := [(2, .int (1)), (0, .ref (aA κ 21)), (1, .int (nI u))]) hx hb d_Mo_ownsAll_1 rfl hl (by decide) rfl (fun ls hl => ?_)
  refine lv_iconst (v := nI 0) hx hb d_Mo_ownsAll_2 (by decide) ?_
  refine lv_istore_n (lv' := [(3, .int (nI 0)), (2, .int (1)), (0, .ref (aA κ 21)), (1, .int (nI u))]) hx hb d_Mo_ownsAll_3 rfl hl (by decide) rfl (fun ls hl => ?_)
  exact L_4 E 0 true (by omega) rfl _ _ B ls (lv_sub hl [2, 3, 1, 0] rfl)
set_option maxHeartbeats 4000000 in
set_option maxRecDepth 100000 in
theorem c_Mo_act (l : Launch) (κ : KA) (σ : zS) (u : Nat) (hu : u < nA κ) (hn : nA κ ≤ 8) (E : Nat) (hE : σ.1 34 0 = nI E) (hE3 : E ≤ 300) (hW : ∀ e, e < E → σ.1 30 e = 1 → zin (σ.1 33 e) 16) (hO : ∀ e, e < E → σ.1 30 e = 0 → zin (σ.1 33 e) 32) (t : Nat) (ht : σ.1 41 0 = nI t) (ht5 : t ≤ 512) : zMv l y_Mo_act (zws y_Mo_act prog_8_method_21_code 3 none) ({ frames := 2, cells := 0, slots := 0, locals := 46 }) κ.1 vwCl (tysA κ) nwA (wA κ) σ [.ref (aA κ 21), .int (nI u)] (fun σ' => σ' = fm_act E t u σ) := by
  refine zintro (cc := prog_8_method_21_code) (maxL := 3) (ret := none) (by decide) rfl (Nat.le_of_ble_eq_true rfl) ?_
  intro p e s m below meth c ls hx hb hr hml hts hown hlocks hl B
  have hl : lv_has ls 3 [(0, .ref (aA κ 21)), (1, .int (nI u))] := hl
  have B : BA κ (va_A (wA κ σ) s.heap.size) s.heap s σ s.heap [] := B
  have hr : meth.sig.returnType = none := hr
  have hown : s.vm.findClass "UnitThreadsModel" = some m.cls := hown
  show W p l e (headSpec (zws y_Mo_act prog_8_method_21_code 3 none) ({ frames := 2, cells := 0, slots := 0, locals := 46 })).room s m [.ref (aA κ 21), .int (nI u)].toArray below meth c s.heap [] 0 0 (MQ below (va_Qv (fun σ' => σ' = fm_act E t u σ) (zQ κ.1 vwCl (tysA κ) (wA κ) (va_A (wA κ σ) s.heap.size)) (va_A (wA κ σ) s.heap.size)) [.ref (aA κ 21), .int (nI u)].toArray s 0 0 (va_A (wA κ σ) s.heap.size)) (F0 m 0 ls [])
  generalize va_A (wA κ σ) s.heap.size = A at B ⊢
  have hts : ∀ w ∈ zW, w.before [.ref (aA κ 21), .int (nI u)].toArray s = true := fun w h => hts w (List.mem_cons_of_mem _ h)
  have L_31 : ∀ (j : Nat) (k : Nat) (τ : zS), (k + j = E) → (fm_ownsAll σ E u E 0 true = true) → (fm_actD E u σ = zi (zit (fm_act1 E u) j k τ) 35 u ((zit (fm_act1 E u) j k τ).1 35 u + 1)) → (τ.1 34 0 = nI E) → (∀ e, e < E → τ.1 30 e = 1 → zin (τ.1 33 e) 16) → (∀ e, e < E → τ.1 30 e = 0 → zin (τ.1 33 e) 32) → ∀ (H : Heap) (locs : List Loc), BA κ A s.heap s τ H locs → ∀ (ls : Array Slot), lv_has ls 3 [(0, .ref (aA κ 21)), (1, .int (nI u)), (2, .int (nI k))] → W p l e (headSpec (zws y_Mo_act prog_8_method_21_code 3 none) ({ frames := 2, cells := 0, slots := 0, locals := 46 })).room s m [.ref (aA κ 21), .int (nI u)].toArray below meth c H locs 0 0 (MQ below (va_Qv (fun σ' => σ' = fm_act E t u σ) (zQ κ.1 vwCl (tysA κ) (wA κ) A) A) [.ref (aA κ 21), .int (nI u)].toArray s 0 0 A) (F0 m 31 ls []) := by
    intro j
    induction j with
    | zero =>
      intro k τ hj hoa hst hE hW hO H locs B ls hl
      refine lv_iload_n hx hb d_Mo_act_31 rfl (lv_at hl 2 rfl) ?_
      refine lv_aload_n hx hb d_Mo_act_32 rfl (lv_at hl 0 rfl) ?_
      refine va_get (D := κ.1) (ci := 6) (v := .int (τ.1 34 0)) (C := "UnitThreadsModel") (T := T_Mo) (N := 26) hx hb hts in_Mo hown B.1 B.2.1 21 (wa_21 κ τ) rfl 14 (by decide) (hts _ w_422) (fun _ h9 => h9) rfl d_Mo_act_33 ?_
      refine zrwi (y := nI E) (hE) ?_
      refine lv_icmp_ge (tgt := 120) hx hb d_Mo_act_36 (by decide) (fun c_1 => ?_) (fun c_1 => ?_)
      · have c_1 := (nI_leI (a := E) (b := k) (by omega) (by omega)).mp c_1
        refine lv_aload_n hx hb d_Mo_act_120 rfl (lv_at hl 0 rfl) ?_
        refine va_get (D := κ.1) (ci := 6) (v := .ref (aA κ 33)) (C := "UnitThreadsModel") (T := T_Mo) (N := 26) hx hb hts in_Mo hown B.1 B.2.1 21 (wa_21 κ τ) rfl 15 (by decide) (hts _ w_423) (fun _ h9 => h9) rfl d_Mo_act_121 ?_
        refine lv_iload_n hx hb d_Mo_act_124 rfl (lv_at hl 1 rfl) ?_
        refine lv_dup2_11 hx hb d_Mo_act_125 rfl rfl ?_
        refine ziald hx hb B 33 0 (wa_33 κ τ) rfl u rfl (by omega) (by decide) d_Mo_act_126 ?_
        refine lv_iconst (v := 1) hx hb d_Mo_act_127 (by decide) ?_
        refine lv_iadd hx hb d_Mo_act_128 ?_
        refine ziast hx hb B 33 0 (wa_33 κ τ) rfl u rfl (by omega) (by decide) (ws_33 κ τ u ((τ.1 35 u) + 1)) d_Mo_act_129 (fun H locs B => ?_)
        have B : BA κ A s.heap s (zi τ 35 u ((τ.1 35 u) + 1)) H locs := B
        exact zret_v hx hb hr hlocks B (by rw [fm_act, if_pos hoa, hst]; rfl) d_Mo_act_130
      · have c_1 := (not_congr (nI_leI (a := E) (b := k) (by omega) (by omega))).mp c_1
        exact absurd c_1 (by omega)
    | succ j ih =>
      intro k τ hj hoa hst hE hW hO H locs B ls hl
      refine lv_iload_n hx hb d_Mo_act_31 rfl (lv_at hl 2 rfl) ?_
      refine lv_aload_n hx hb d_Mo_act_32 rfl (lv_at hl 0 rfl) ?_
      refine va_get (D := κ.1) (ci := 6) (v := .int (τ.1 34 0)) (C := "UnitThreadsModel") (T := T_Mo) (N := 26) hx hb hts in_Mo hown B.1 B.2.1 21 (wa_21 κ τ) rfl 14 (by decide) (hts _ w_422) (fun _ h9 => h9) rfl d_Mo_act_33 ?_
      refine zrwi (y := nI E) (hE) ?_
      refine lv_icmp_ge (tgt := 120) hx hb d_Mo_act_36 (by decide) (fun c_2 => ?_) (fun c_2 => ?_)
      · have c_2 := (nI_leI (a := E) (b := k) (by omega) (by omega)).mp c_2
        exact absurd c_2 (by omega)
      · have c_2 := (not_congr (nI_leI (a := E) (b := k) (by omega) (by omega))).mp c_2
        refine lv_aload_n hx hb d_Mo_act_39 rfl (lv_at hl 0 rfl) ?_
        refine lv_iload_n hx hb d_Mo_act_40 rfl (lv_at hl 2 rfl) ?_
        refine lv_iconst (v := 0) hx hb d_Mo_act_41 (by decide) ?_
        refine lv_iload_n hx hb d_Mo_act_42 rfl (lv_at hl 1 rfl) ?_
        refine zcV_i (As := [.int (nI k), .int (0), .int (nI u)]) (rest := []) ⟨hx, hb, hml, hown, hts⟩ (c_Mo_isNow l κ τ k 0 u (by omega) (by omega) hn) (cwV 3 hts (zgoodV w_553 w_555 s_21 w_9 w_556) rfl rfl rfl (by decide +kernel) ⟨Nat.le_of_ble_eq_true rfl, Nat.le_of_ble_eq_true rfl⟩) B (zrecv B (ci := 6) rfl (wa_21 κ τ)) rfl hl.1 rfl (Nat.le_of_ble_eq_true rfl) d_Mo_act_43 ⟨Nat.zero_le _, Nat.zero_le _⟩ (fun r σ' H locs hp B => ?_)
        obtain ⟨rfl, hp⟩ := hp
        rw [hp] at B
        have B : BA κ A s.heap s τ H locs := B
        refine lv_if_eq (tgt := 69) hx hb d_Mo_act_46 (by decide) (fun c_3 => ?_) (fun c_3 => ?_)
        · have c_3 := zb_eq0.mp c_3
          refine lv_aload_n hx hb d_Mo_act_69 rfl (lv_at hl 0 rfl) ?_
          refine lv_iload_n hx hb d_Mo_act_70 rfl (lv_at hl 2 rfl) ?_
          refine lv_iconst (v := 1) hx hb d_Mo_act_71 (by decide) ?_
          refine lv_iload_n hx hb d_Mo_act_72 rfl (lv_at hl 1 rfl) ?_
          refine zcV_i (As := [.int (nI k), .int (1), .int (nI u)]) (rest := []) ⟨hx, hb, hml, hown, hts⟩ (c_Mo_isNow l κ τ k 1 u (by omega) (by omega) hn) (cwV 3 hts (zgoodV w_553 w_555 s_21 w_9 w_556) rfl rfl rfl (by decide +kernel) ⟨Nat.le_of_ble_eq_true rfl, Nat.le_of_ble_eq_true rfl⟩) B (zrecv B (ci := 6) rfl (wa_21 κ τ)) rfl hl.1 rfl (Nat.le_of_ble_eq_true rfl) d_Mo_act_73 ⟨Nat.zero_le _, Nat.zero_le _⟩ (fun r σ' H locs hp B => ?_)
          obtain ⟨rfl, hp⟩ := hp
          rw [hp] at B
          have B : BA κ A s.heap s τ H locs := B
          refine lv_if_eq (tgt := 114) hx hb d_Mo_act_76 (by decide) (fun c_4 => ?_) (fun c_4 => ?_)
          · have c_4 := zb_eq0.mp c_4
            refine lv_iinc (v := nI (k + 1)) (lv' := [(2, .int (nI (k + 1))), (0, .ref (aA κ 21)), (1, .int (nI u))]) hx hb d_Mo_act_114 hl (k := 2) rfl (zinc _) (by decide) rfl (fun ls hl => ?_)
            refine lv_goto (tgt := 31) hx hb d_Mo_act_117 (by decide) ?_
            exact ih (k + 1) τ (by omega) hoa (by rw [hst]; simp [zit, fm_act1, c_2, c_3, c_4]) hE hW hO _ _ B ls (lv_sub hl [1, 2, 0] rfl)
          · have c_4 := zb_ne0.mp c_4
            refine lv_aload_n hx hb d_Mo_act_79 rfl (lv_at hl 0 rfl) ?_
            refine lv_iload_n hx hb d_Mo_act_80 rfl (lv_at hl 2 rfl) ?_
            refine zcV_i (As := [.int (nI k)]) (rest := []) ⟨hx, hb, hml, hown, hts⟩ (c_Mo_isGive l κ τ k E hE hE3 (by omega)) (cwV 1 hts (zgoodV w_557 w_559 s_22 w_9 w_560) rfl rfl rfl (by decide +kernel) ⟨Nat.le_of_ble_eq_true rfl, Nat.le_of_ble_eq_true rfl⟩) B (zrecv B (ci := 6) rfl (wa_21 κ τ)) rfl hl.1 rfl (Nat.le_of_ble_eq_true rfl) d_Mo_act_81 ⟨Nat.zero_le _, Nat.zero_le _⟩ (fun r σ' H locs hp B => ?_)
            obtain ⟨rfl, hp⟩ := hp
            rw [hp] at B
            have B : BA κ A s.heap s τ H locs := B
            refine lv_if_eq (tgt := 114) hx hb d_Mo_act_84 (by decide) (fun c_5 => ?_) (fun c_5 => ?_)
            · have c_5 := zb_eq0.mp c_5
              refine lv_iinc (v := nI (k + 1)) (lv' := [(2, .int (nI (k + 1))), (0, .ref (aA κ 21)), (1, .int (nI u))]) hx hb d_Mo_act_114 hl (k := 2) rfl (zinc _) (by decide) rfl (fun ls hl => ?_)
              refine lv_goto (tgt := 31) hx hb d_Mo_act_117 (by decide) ?_
              exact ih (k + 1) τ (by omega) hoa (by rw [hst]; simp [zit, fm_act1, c_2, c_3, c_4, c_5]) hE hW hO _ _ B ls (lv_sub hl [1, 2, 0] rfl)
            · have c_5 := zb_ne0.mp c_5
              refine lv_aload_n hx hb d_Mo_act_87 rfl (lv_at hl 0 rfl) ?_
              refine va_get (D := κ.1) (ci := 6) (v := .ref (aA κ 24)) (C := "UnitThreadsModel") (T := T_Mo) (N := 26) hx hb hts in_Mo hown B.1 B.2.1 21 (wa_21 κ τ) rfl 5 (by decide) (hts _ w_413) (fun _ h9 => h9) rfl d_Mo_act_88 ?_
              refine lv_aload_n hx hb d_Mo_act_91 rfl (lv_at hl 0 rfl) ?_
              refine va_get (D := κ.1) (ci := 6) (v := .ref (aA κ 31)) (C := "UnitThreadsModel") (T := T_Mo) (N := 26) hx hb hts in_Mo hown B.1 B.2.1 21 (wa_21 κ τ) rfl 12 (by decide) (hts _ w_420) (fun _ h9 => h9) rfl d_Mo_act_92 ?_
              refine lv_iload_n hx hb d_Mo_act_95 rfl (lv_at hl 2 rfl) ?_
              refine ziald hx hb B 31 0 (wa_31 κ τ) rfl k rfl (by omega) (by decide) d_Mo_act_96 ?_
              refine ziald hx hb B 24 0 (wa_24 κ τ) rfl (tn (τ.1 33 k)) ((hW k (by omega) (of_decide_eq_true c_4).1).1) (by have h := (hW k (by omega) (of_decide_eq_true c_4).1).2; omega) (by decide) d_Mo_act_97 ?_
              refine lv_iload_n hx hb d_Mo_act_98 rfl (lv_at hl 1 rfl) ?_
              refine lv_icmp_ne (tgt := 114) hx hb d_Mo_act_99 (by decide) (fun c_6 => ?_) (fun c_6 => ?_)
              · refine lv_iinc (v := nI (k + 1)) (lv' := [(2, .int (nI (k + 1))), (0, .ref (aA κ 21)), (1, .int (nI u))]) hx hb d_Mo_act_114 hl (k := 2) rfl (zinc _) (by decide) rfl (fun ls hl => ?_)
                refine lv_goto (tgt := 31) hx hb d_Mo_act_117 (by decide) ?_
                exact ih (k + 1) τ (by omega) hoa (by rw [hst]; simp [zit, fm_act1, c_2, c_3, c_4, c_5, c_6]) hE hW hO _ _ B ls (lv_sub hl [1, 2, 0] rfl)
              · refine lv_aload_n hx hb d_Mo_act_102 rfl (lv_at hl 0 rfl) ?_
                refine va_get (D := κ.1) (ci := 6) (v := .ref (aA κ 24)) (C := "UnitThreadsModel") (T := T_Mo) (N := 26) hx hb hts in_Mo hown B.1 B.2.1 21 (wa_21 κ τ) rfl 5 (by decide) (hts _ w_413) (fun _ h9 => h9) rfl d_Mo_act_103 ?_
                refine lv_aload_n hx hb d_Mo_act_106 rfl (lv_at hl 0 rfl) ?_
                refine va_get (D := κ.1) (ci := 6) (v := .ref (aA κ 31)) (C := "UnitThreadsModel") (T := T_Mo) (N := 26) hx hb hts in_Mo hown B.1 B.2.1 21 (wa_21 κ τ) rfl 12 (by decide) (hts _ w_420) (fun _ h9 => h9) rfl d_Mo_act_107 ?_
                refine lv_iload_n hx hb d_Mo_act_110 rfl (lv_at hl 2 rfl) ?_
                refine ziald hx hb B 31 0 (wa_31 κ τ) rfl k rfl (by omega) (by decide) d_Mo_act_111 ?_
                refine lv_iconst (v := (-1)) hx hb d_Mo_act_112 (by decide) ?_
                refine ziast hx hb B 24 0 (wa_24 κ τ) rfl (tn (τ.1 33 k)) ((hW k (by omega) (of_decide_eq_true c_4).1).1) (by have h := (hW k (by omega) (of_decide_eq_true c_4).1).2; omega) (by decide) (ws_24 κ τ (tn (τ.1 33 k)) (-1)) d_Mo_act_113 (fun H locs B => ?_)
                have B : BA κ A s.heap s (zi τ 27 (tn (τ.1 33 k)) (-1)) H locs := B
                refine lv_iinc (v := nI (k + 1)) (lv' := [(2, .int (nI (k + 1))), (0, .ref (aA κ 21)), (1, .int (nI u))]) hx hb d_Mo_act_114 hl (k := 2) rfl (zinc _) (by decide) rfl (fun ls hl => ?_)
                refine lv_goto (tgt := 31) hx hb d_Mo_act_117 (by decide) ?_
                exact ih (k + 1) (zi τ 27 (tn (τ.1 33 k)) (-1)) (by omega) hoa (by rw [hst]; simp [zit, fm_act1, c_2, c_3, c_4, c_5, c_6]) hE hW hO _ _ B ls (lv_sub hl [1, 2, 0] rfl)
        · have c_3 := zb_ne0.mp c_3
          refine lv_aload_n hx hb d_Mo_act_49 rfl (lv_at hl 0 rfl) ?_
          refine va_get (D := κ.1) (ci := 6) (v := .ref (aA κ 22)) (C := "UnitThreadsModel") (T := T_Mo) (N := 26) hx hb hts in_Mo hown B.1 B.2.1 21 (wa_21 κ τ) rfl 3 (by decide) (hts _ w_411) (fun _ h9 => h9) rfl d_Mo_act_50 ?_
          refine lv_aload_n hx hb d_Mo_act_53 rfl (lv_at hl 0 rfl) ?_
          refine va_get (D := κ.1) (ci := 6) (v := .ref (aA κ 31)) (C := "UnitThreadsModel") (T := T_Mo) (N := 26) hx hb hts in_Mo hown B.1 B.2.1 21 (wa_21 κ τ) rfl 12 (by decide) (hts _ w_420) (fun _ h9 => h9) rfl d_Mo_act_54 ?_
          refine lv_iload_n hx hb d_Mo_act_57 rfl (lv_at hl 2 rfl) ?_
          refine ziald hx hb B 31 0 (wa_31 κ τ) rfl k rfl (by omega) (by decide) d_Mo_act_58 ?_
          refine lv_aload_n hx hb d_Mo_act_59 rfl (lv_at hl 0 rfl) ?_
          refine va_get (D := κ.1) (ci := 6) (v := .ref (aA κ 32)) (C := "UnitThreadsModel") (T := T_Mo) (N := 26) hx hb hts in_Mo hown B.1 B.2.1 21 (wa_21 κ τ) rfl 13 (by decide) (hts _ w_421) (fun _ h9 => h9) rfl d_Mo_act_60 ?_
          refine lv_iload_n hx hb d_Mo_act_63 rfl (lv_at hl 2 rfl) ?_
          refine zlald hx hb B 32 1 (wa_32 κ τ) rfl k rfl (by omega) (by decide) d_Mo_act_64 ?_
          refine zlast hx hb B 22 1 (wa_22 κ τ) rfl (tn (τ.1 33 k)) ((hO k (by omega) (of_decide_eq_true c_3).1).1) (by have h := (hO k (by omega) (of_decide_eq_true c_3).1).2; omega) (by decide) (ws_22 κ τ (tn (τ.1 33 k)) (τ.2 8 k)) d_Mo_act_65 (fun H locs B => ?_)
          have B : BA κ A s.heap s (zl τ 5 (tn (τ.1 33 k)) (τ.2 8 k)) H locs := B
          refine lv_goto (tgt := 114) hx hb d_Mo_act_66 (by decide) ?_
          refine lv_iinc (v := nI (k + 1)) (lv' := [(2, .int (nI (k + 1))), (0, .ref (aA κ 21)), (1, .int (nI u))]) hx hb d_Mo_act_114 hl (k := 2) rfl (zinc _) (by decide) rfl (fun ls hl => ?_)
          refine lv_goto (tgt := 31) hx hb d_Mo_act_117 (by decide) ?_
          exact ih (k + 1) (zl τ 5 (tn (τ.1 33 k)) (τ.2 8 k)) (by omega) hoa (by rw [hst]; simp [zit, fm_act1, c_2, c_3]) hE hW hO _ _ B ls (lv_sub hl [1, 2, 0] rfl)
  refine lv_aload_n hx hb d_Mo_act_0 rfl (lv_at hl 0 rfl) ?_
  refine lv_iload_n hx hb d_Mo_act_1 rfl (lv_at hl 1 rfl) ?_
  refine zcV_i (As := [.int (nI u)]) (rest := []) ⟨hx, hb, hml, hown, hts⟩ (c_Mo_ownsAll l κ σ u hu hn E hE hE3 hW) (cwV 1 hts (zgoodV w_573 w_575 s_26 w_9 w_576) rfl rfl rfl (by decide +kernel) ⟨Nat.le_of_ble_eq_true rfl, Nat.le_of_ble_eq_true rfl⟩) B (zrecv B (ci := 6) rfl (wa_21 κ σ)) rfl hl.1 rfl (Nat.le_of_ble_eq_true rfl) d_Mo_act_2 ⟨Nat.zero_le _, Nat.zero_le _⟩ (fun r σ' H locs hp B => ?_)
  obtain ⟨rfl, hp⟩ := hp
  rw [hp] at B
  have B : BA κ A s.heap s σ H locs := B
  refine lv_if_ne (tgt := 22) hx hb d_Mo_act_5 (by decide) (fun c_7 => ?_) (fun c_7 => ?_)
  · have c_7 := zb_ne0.mp c_7
    refine lv_aload_n hx hb d_Mo_act_22 rfl (lv_at hl 0 rfl) ?_
    refine va_get (D := κ.1) (ci := 6) (v := .ref (aA κ 34)) (C := "UnitThreadsModel") (T := T_Mo) (N := 26) hx hb hts in_Mo hown B.1 B.2.1 21 (wa_21 κ σ) rfl 16 (by decide) (hts _ w_424) (fun _ h9 => h9) rfl d_Mo_act_23 ?_
    refine lv_iload_n hx hb d_Mo_act_26 rfl (lv_at hl 1 rfl) ?_
    refine lv_iconst (v := 0) hx hb d_Mo_act_27 (by decide) ?_
    refine zzast hx hb B 34 3 (wa_34 κ σ) rfl u rfl (by omega) (by decide) (y := 0) (rfl) (ws_34 κ σ u 0) d_Mo_act_28 (fun H locs B => ?_)
    have B : BA κ A s.heap s (zi σ 36 u 0) H locs := B
    refine lv_iconst (v := nI 0) hx hb d_Mo_act_29 (by decide) ?_
    refine lv_istore_n (lv' := [(2, .int (nI 0)), (0, .ref (aA κ 21)), (1, .int (nI u))]) hx hb d_Mo_act_30 rfl hl (by decide) rfl (fun ls hl => ?_)
    exact L_31 E 0 (zi σ 36 u 0) (by omega) c_7 rfl hE hW hO _ _ B ls (lv_sub hl [1, 2, 0] rfl)
  · have c_7 := zb_eq0.mp c_7
    refine lv_aload_n hx hb d_Mo_act_8 rfl (lv_at hl 0 rfl) ?_
    refine va_get (D := κ.1) (ci := 6) (v := .ref (aA κ 34)) (C := "UnitThreadsModel") (T := T_Mo) (N := 26) hx hb hts in_Mo hown B.1 B.2.1 21 (wa_21 κ σ) rfl 16 (by decide) (hts _ w_424) (fun _ h9 => h9) rfl d_Mo_act_9 ?_
    refine lv_iload_n hx hb d_Mo_act_12 rfl (lv_at hl 1 rfl) ?_
    refine lv_iconst (v := 1) hx hb d_Mo_act_13 (by decide) ?_
    refine zzast hx hb B 34 3 (wa_34 κ σ) rfl u rfl (by omega) (by decide) (y := 1) (rfl) (ws_34 κ σ u 1) d_Mo_act_14 (fun H locs B => ?_)
    have B : BA κ A s.heap s (zi σ 36 u 1) H locs := B
    refine lv_aload_n hx hb d_Mo_act_15 rfl (lv_at hl 0 rfl) ?_
    refine lv_iload_n hx hb d_Mo_act_16 rfl (lv_at hl 1 rfl) ?_
    refine lv_iconst (v := 1) hx hb d_Mo_act_17 (by decide) ?_
    refine zcV_v (As := [.int (nI u), .int (1)]) (rest := []) ⟨hx, hb, hml, hown, hts⟩ (c_Mo_tellEnd l κ (zi σ 36 u 1) u 1 t ht ht5) (cwV 2 hts (zgoodV w_565 w_567 s_24 w_9 w_568) rfl rfl rfl (by decide +kernel) ⟨Nat.le_of_ble_eq_true rfl, Nat.le_of_ble_eq_true rfl⟩) B (zrecv B (ci := 6) rfl (wa_21 κ (zi σ 36 u 1))) rfl hl.1 rfl (Nat.le_of_ble_eq_true rfl) d_Mo_act_18 ⟨Nat.zero_le _, Nat.zero_le _⟩ (fun σ' H locs hp B => ?_)
    rw [hp] at B
    have B : BA κ A s.heap s (fm_tell u 1 t (zi σ 36 u 1)) H locs := B
    exact zret_v hx hb hr hlocks B (by rw [fm_act, if_neg (by rw [c_7]; decide)]) d_Mo_act_21
set_option maxHeartbeats 4000000 in
set_option maxRecDepth 100000 in
theorem c_Mo_turnsOf (l : Launch) (κ : KA) (σ : zS) (v : Int64) (hn : nA κ ≤ 8) (E b t : Nat) (hE3 : E ≤ 300) (hI : InvM E b t σ) (ht5 : t + nA κ ≤ 512) : zMl l y_Mo_turnsOf (zws y_Mo_turnsOf prog_8_method_18_code 8 (some .long)) ({ frames := 2, cells := 0, slots := 0, locals := 48 }) κ.1 vwCl (tysA κ) nwA (wA κ) σ [.ref (aA κ 21), .long (v)] (fun r σ' => r = (fm_turnsOf (nA κ) E t v σ).1 ∧ σ' = (fm_turnsOf (nA κ) E t v σ).2) := by
  refine zintro (cc := prog_8_method_18_code) (maxL := 8) (ret := (some .long)) (by decide) rfl (Nat.le_of_ble_eq_true rfl) ?_
  intro p e s m below meth c ls hx hb hr hml hts hown hlocks hl B
  have hl : lv_has ls 8 [(0, .ref (aA κ 21)), (1, .long (v))] := hl
  have B : BA κ (va_A (wA κ σ) s.heap.size) s.heap s σ s.heap [] := B
  have hr : meth.sig.returnType = (some .long) := hr
  have hown : s.vm.findClass "UnitThreadsModel" = some m.cls := hown
  show W p l e (headSpec (zws y_Mo_turnsOf prog_8_method_18_code 8 (some .long)) ({ frames := 2, cells := 0, slots := 0, locals := 48 })).room s m [.ref (aA κ 21), .long (v)].toArray below meth c s.heap [] 0 0 (MQ below (va_Ql (fun r σ' => r = (fm_turnsOf (nA κ) E t v σ).1 ∧ σ' = (fm_turnsOf (nA κ) E t v σ).2) (zQ κ.1 vwCl (tysA κ) (wA κ) (va_A (wA κ σ) s.heap.size)) (va_A (wA κ σ) s.heap.size)) [.ref (aA κ 21), .long (v)].toArray s 0 0 (va_A (wA κ σ) s.heap.size)) (F0 m 0 ls [])
  generalize va_A (wA κ σ) s.heap.size = A at B ⊢
  have hts : ∀ w ∈ zW, w.before [.ref (aA κ 21), .long (v)].toArray s = true := fun w h => hts w (List.mem_cons_of_mem _ h)
  have L_117 : ∀ (τ : zS) (g : Int64) (m1 : Nat) (q0 : Nat), (∀ (k : Nat), (k < nA κ) → (fm_who τ (nA κ) 0 q0 = k) → ∀ (H : Heap) (locs : List Loc), BA κ A s.heap s τ H locs → ∀ (ls : Array Slot), lv_has ls 8 [(0, .ref (aA κ 21)), (1, .long (v)), (3, .long (g)), (5, .int (nI m1)), (7, .int (nI k))] → W p l e (headSpec (zws y_Mo_turnsOf prog_8_method_18_code 8 (some .long)) ({ frames := 2, cells := 0, slots := 0, locals := 48 })).room s m [.ref (aA κ 21), .long (v)].toArray below meth c H locs 0 0 (MQ below (va_Ql (fun r σ' => r = (fm_turnsOf (nA κ) E t v σ).1 ∧ σ' = (fm_turnsOf (nA κ) E t v σ).2) (zQ κ.1 vwCl (tysA κ) (wA κ) A) A) [.ref (aA κ 21), .long (v)].toArray s 0 0 A) (F0 m 158 ls [])) → ∀ (j : Nat) (k : Nat) (q : Nat), (k + j = nA κ) → (q < fm_cl τ j k) → (q < 8) → (fm_who τ (nA κ) 0 q0 = fm_who τ j k q) → ∀ (H : Heap) (locs : List Loc), BA κ A s.heap s τ H locs → ∀ (ls : Array Slot), lv_has ls 8 [(0, .ref (aA κ 21)), (1, .long (v)), (3, .long (g)), (5, .int (nI m1)), (6, .int (nI q)), (7, .int (nI k))] → W p l e (headSpec (zws y_Mo_turnsOf prog_8_method_18_code 8 (some .long)) ({ frames := 2, cells := 0, slots := 0, locals := 48 })).room s m [.ref (aA κ 21), .long (v)].toArray below meth c H locs 0 0 (MQ below (va_Ql (fun r σ' => r = (fm_turnsOf (nA κ) E t v σ).1 ∧ σ' = (fm_turnsOf (nA κ) E t v σ).2) (zQ κ.1 vwCl (tysA κ) (wA κ) A) A) [.ref (aA κ 21), .long (v)].toArray s 0 0 A) (F0 m 117 ls []) := by
    intro τ g m1 q0
    intro hk
    intro j
    induction j with
    | zero =>
      intro k q hj hq hqb hwho H locs B ls hl
      exact absurd hq (Nat.not_lt_zero _)
    | succ j ih =>
      intro k q hj hq hqb hwho H locs B ls hl
      refine lv_aload_n hx hb d_Mo_turnsOf_117 rfl (lv_at hl 0 rfl) ?_
      refine va_get (D := κ.1) (ci := 6) (v := .ref (aA κ 40)) (C := "UnitThreadsModel") (T := T_Mo) (N := 26) hx hb hts in_Mo hown B.1 B.2.1 21 (wa_21 κ τ) rfl 23 (by decide) (hts _ w_431) (fun _ h9 => h9) rfl d_Mo_turnsOf_118 ?_
      refine lv_iload hx hb d_Mo_turnsOf_121 (lv_at hl 5 rfl) ?_
      refine zzald hx hb B 40 3 (wa_40 κ τ) rfl k rfl (by omega) (by decide) d_Mo_turnsOf_123 ?_
      refine lv_if_eq (tgt := 132) hx hb d_Mo_turnsOf_124 (by decide) (fun c_1 => ?_) (fun c_1 => ?_)
      · refine lv_iload hx hb d_Mo_turnsOf_132 (lv_at hl 4 rfl) ?_
        refine lv_aload_n hx hb d_Mo_turnsOf_134 rfl (lv_at hl 0 rfl) ?_
        refine va_get (D := κ.1) (ci := 6) (v := .ref (aA κ 40)) (C := "UnitThreadsModel") (T := T_Mo) (N := 26) hx hb hts in_Mo hown B.1 B.2.1 21 (wa_21 κ τ) rfl 23 (by decide) (hts _ w_431) (fun _ h9 => h9) rfl d_Mo_turnsOf_135 ?_
        refine lv_iload hx hb d_Mo_turnsOf_138 (lv_at hl 5 rfl) ?_
        refine zzald hx hb B 40 3 (wa_40 κ τ) rfl k rfl (by omega) (by decide) d_Mo_turnsOf_140 ?_
        refine lv_if_eq (tgt := 148) hx hb d_Mo_turnsOf_141 (by decide) (fun c_2 => ?_) (fun c_2 => ?_)
        · refine lv_iconst (v := 0) hx hb d_Mo_turnsOf_148 (by decide) ?_
          refine lv_isub hx hb d_Mo_turnsOf_149 ?_
          refine zrwi (y := nI q) (Int32.sub_zero _) ?_
          refine lv_istore (lv' := [(6, .int (nI q)), (0, .ref (aA κ 21)), (1, .long (v)), (3, .long (g)), (5, .int (nI m1)), (7, .int (nI k))]) hx hb d_Mo_turnsOf_150 hl (by decide) rfl (fun ls hl => ?_)
          refine lv_iinc (v := nI (k + 1)) (lv' := [(7, .int (nI (k + 1))), (6, .int (nI q)), (0, .ref (aA κ 21)), (1, .long (v)), (3, .long (g)), (5, .int (nI m1))]) hx hb d_Mo_turnsOf_152 hl (k := 5) rfl (zinc _) (by decide) rfl (fun ls hl => ?_)
          refine lv_goto (tgt := 117) hx hb d_Mo_turnsOf_155 (by decide) ?_
          exact ih (k + 1) q (by omega) (by have h := hq; simp [fm_cl, c_1] at h; omega) (by omega) (by rw [hwho]; simp [fm_who, c_1, c_2]) _ _ B ls (lv_sub hl [2, 3, 4, 5, 1, 0] rfl)
        · exact absurd c_2 (not_not_intro c_1)
      · refine lv_iload hx hb d_Mo_turnsOf_127 (lv_at hl 4 rfl) ?_
        refine lv_if_le (tgt := 158) hx hb d_Mo_turnsOf_129 (by decide) (fun c_3 => ?_) (fun c_3 => ?_)
        · have c_3 := (nI_leI (a := q) (b := 0) (by omega) (by omega)).mp c_3
          exact hk k (by omega) (hwho.trans (if_pos ⟨c_1, c_3⟩)) _ _ B ls (lv_sub hl [0, 1, 2, 3, 5] rfl)
        · have c_3 := (not_congr (nI_leI (a := q) (b := 0) (by omega) (by omega))).mp c_3
          refine lv_iload hx hb d_Mo_turnsOf_132 (lv_at hl 4 rfl) ?_
          refine lv_aload_n hx hb d_Mo_turnsOf_134 rfl (lv_at hl 0 rfl) ?_
          refine va_get (D := κ.1) (ci := 6) (v := .ref (aA κ 40)) (C := "UnitThreadsModel") (T := T_Mo) (N := 26) hx hb hts in_Mo hown B.1 B.2.1 21 (wa_21 κ τ) rfl 23 (by decide) (hts _ w_431) (fun _ h9 => h9) rfl d_Mo_turnsOf_135 ?_
          refine lv_iload hx hb d_Mo_turnsOf_138 (lv_at hl 5 rfl) ?_
          refine zzald hx hb B 40 3 (wa_40 κ τ) rfl k rfl (by omega) (by decide) d_Mo_turnsOf_140 ?_
          refine lv_if_eq (tgt := 148) hx hb d_Mo_turnsOf_141 (by decide) (fun c_4 => ?_) (fun c_4 => ?_)
          · exact absurd c_4 (c_1)
          · refine lv_iconst (v := 1) hx hb d_Mo_turnsOf_144 (by decide) ?_
            refine lv_goto (tgt := 149) hx hb d_Mo_turnsOf_145 (by decide) ?_
            refine lv_isub hx hb d_Mo_turnsOf_149 ?_
            refine zrwi (y := nI (q - 1)) (zpred (by omega)) ?_
            refine lv_istore (lv' := [(6, .int (nI (q - 1))), (0, .ref (aA κ 21)), (1, .long (v)), (3, .long (g)), (5, .int (nI m1)), (7, .int (nI k))]) hx hb d_Mo_turnsOf_150 hl (by decide) rfl (fun ls hl => ?_)
            refine lv_iinc (v := nI (k + 1)) (lv' := [(7, .int (nI (k + 1))), (6, .int (nI (q - 1))), (0, .ref (aA κ 21)), (1, .long (v)), (3, .long (g)), (5, .int (nI m1))]) hx hb d_Mo_turnsOf_152 hl (k := 5) rfl (zinc _) (by decide) rfl (fun ls hl => ?_)
            refine lv_goto (tgt := 117) hx hb d_Mo_turnsOf_155 (by decide) ?_
            exact ih (k + 1) (q - 1) (by omega) (by have h := hq; simp [fm_cl, c_1] at h; omega) (by omega) (by rw [hwho]; simp [fm_who, c_1, c_3, c_4]) _ _ B ls (lv_sub hl [2, 3, 4, 5, 1, 0] rfl)
  have L_88 : ∀ (j : Nat) (m1 : Nat) (t1 : Nat) (g : Int64) (τ : zS), (m1 = j ∧ t1 + j ≤ 512 ∧ j ≤ nA κ) → (fm_turnsOf (nA κ) E t v σ = fm_draw (nA κ) E j t1 g τ) → (fm_cl τ (nA κ) 0 = m1) → (InvM E b t1 τ) → ∀ (H : Heap) (locs : List Loc), BA κ A s.heap s τ H locs → ∀ (ls : Array Slot), lv_has ls 8 [(0, .ref (aA κ 21)), (1, .long (v)), (3, .long (g)), (5, .int (nI m1))] → W p l e (headSpec (zws y_Mo_turnsOf prog_8_method_18_code 8 (some .long)) ({ frames := 2, cells := 0, slots := 0, locals := 48 })).room s m [.ref (aA κ 21), .long (v)].toArray below meth c H locs 0 0 (MQ below (va_Ql (fun r σ' => r = (fm_turnsOf (nA κ) E t v σ).1 ∧ σ' = (fm_turnsOf (nA κ) E t v σ).2) (zQ κ.1 vwCl (tysA κ) (wA κ) A) A) [.ref (aA κ 21), .long (v)].toArray s 0 0 A) (F0 m 88 ls []) := by
    intro j
    induction j with
    | zero =>
      intro m1 t1 g τ hj hst hcl hI H locs B ls hl
      refine lv_iload hx hb d_Mo_turnsOf_88 (lv_at hl 3 rfl) ?_
      refine lv_if_le (tgt := 178) hx hb d_Mo_turnsOf_90 (by decide) (fun c_5 => ?_) (fun c_5 => ?_)
      · have c_5 := (nI_leI (a := m1) (b := 0) (by omega) (by omega)).mp c_5
        refine lv_lload_n hx hb d_Mo_turnsOf_178 rfl (lv_at hl 2 rfl) ?_
        exact zret_l hx hb hr hlocks B (⟨by rw [hst]; rfl, by rw [hst]; rfl⟩) d_Mo_turnsOf_179
      · have c_5 := (not_congr (nI_leI (a := m1) (b := 0) (by omega) (by omega))).mp c_5
        exact absurd c_5 (by omega)
    | succ j ih =>
      intro m1 t1 g τ hj hst hcl hI H locs B ls hl
      refine lv_iload hx hb d_Mo_turnsOf_88 (lv_at hl 3 rfl) ?_
      refine lv_if_le (tgt := 178) hx hb d_Mo_turnsOf_90 (by decide) (fun c_6 => ?_) (fun c_6 => ?_)
      · have c_6 := (nI_leI (a := m1) (b := 0) (by omega) (by omega)).mp c_6
        exact absurd c_6 (by omega)
      · have c_6 := (not_congr (nI_leI (a := m1) (b := 0) (by omega) (by omega))).mp c_6
        refine lv_lload_n hx hb d_Mo_turnsOf_93 rfl (lv_at hl 2 rfl) ?_
        refine lv_ldc2 (v := 6364136223846793005) hx hb hown ((hts _ w_547)) d_Mo_turnsOf_94 ?_
        refine lv_lmul hx hb d_Mo_turnsOf_97 ?_
        refine lv_ldc2 (v := 1442695040888963407) hx hb hown ((hts _ w_548)) d_Mo_turnsOf_98 ?_
        refine lv_ladd hx hb d_Mo_turnsOf_101 ?_
        refine zrwl (y := fx_lcg g) (rfl) ?_
        refine lv_lstore_n (lv' := [(3, .long (fx_lcg g)), (0, .ref (aA κ 21)), (1, .long (v)), (5, .int (nI m1))]) hx hb d_Mo_turnsOf_102 rfl hl (by decide) rfl (fun ls hl => ?_)
        refine lv_lload_n hx hb d_Mo_turnsOf_103 rfl (lv_at hl 0 rfl) ?_
        refine lv_bipush (v := 33) hx hb d_Mo_turnsOf_104 (by decide) ?_
        refine lv_lushr (v := ((fx_lcg g).toUInt64 >>> ((Int32.toInt64 33).toUInt64 &&& Int64.toUInt64 63)).toInt64) hx hb d_Mo_turnsOf_106 rfl ?_
        refine lv_iload hx hb d_Mo_turnsOf_107 (lv_at hl 3 rfl) ?_
        refine lv_i2l (v := Int32.toInt64 (nI m1)) hx hb d_Mo_turnsOf_109 rfl ?_
        refine lv_lrem hx hb d_Mo_turnsOf_110 (zr_ne (by omega) (by omega)) ?_
        refine lv_l2i (v := Int64.toInt32 ((((fx_lcg g).toUInt64 >>> ((Int32.toInt64 33).toUInt64 &&& Int64.toUInt64 63)).toInt64) - (((fx_lcg g).toUInt64 >>> ((Int32.toInt64 33).toUInt64 &&& Int64.toUInt64 63)).toInt64) / (Int32.toInt64 (nI m1)) * (Int32.toInt64 (nI m1)))) hx hb d_Mo_turnsOf_111 rfl ?_
        refine zrwi (y := nI (tn (fx_pick (fx_lcg g) m1))) ((fx_pick_in _ (by omega) (by omega)).1) ?_
        refine lv_istore (lv' := [(6, .int (nI (tn (fx_pick (fx_lcg g) m1)))), (3, .long (fx_lcg g)), (0, .ref (aA κ 21)), (1, .long (v)), (5, .int (nI m1))]) hx hb d_Mo_turnsOf_112 hl (by decide) rfl (fun ls hl => ?_)
        refine lv_iconst (v := nI 0) hx hb d_Mo_turnsOf_114 (by decide) ?_
        refine lv_istore (lv' := [(7, .int (nI 0)), (6, .int (nI (tn (fx_pick (fx_lcg g) m1)))), (3, .long (fx_lcg g)), (0, .ref (aA κ 21)), (1, .long (v)), (5, .int (nI m1))]) hx hb d_Mo_turnsOf_115 hl (by decide) rfl (fun ls hl => ?_)
        refine L_117 τ (fx_lcg g) m1 (tn (fx_pick (fx_lcg g) m1)) ?_ (nA κ) 0 (tn (fx_pick (fx_lcg g) m1)) (by omega) (by rw [hcl]; exact (fx_pick_in _ (by omega) (by omega)).2) (by have h := (fx_pick_in (fx_lcg g) (r := m1) (by omega) (by omega)).2; omega) rfl _ _ B ls (lv_sub hl [3, 4, 2, 5, 1, 0] rfl)
        intro k hkn hw H locs B ls hl
        have hl : lv_has ls 8 [(0, .ref (aA κ 21)), (1, .long (v)), (3, .long (fx_lcg g)), (5, .int (nI m1)), (7, .int (nI k))] := hl
        have B : BA κ A s.heap s τ H locs := B
        refine lv_aload_n hx hb d_Mo_turnsOf_158 rfl (lv_at hl 0 rfl) ?_
        refine va_get (D := κ.1) (ci := 6) (v := .ref (aA κ 40)) (C := "UnitThreadsModel") (T := T_Mo) (N := 26) hx hb hts in_Mo hown B.1 B.2.1 21 (wa_21 κ τ) rfl 23 (by decide) (hts _ w_431) (fun _ h9 => h9) rfl d_Mo_turnsOf_159 ?_
        refine lv_iload hx hb d_Mo_turnsOf_162 (lv_at hl 4 rfl) ?_
        refine lv_iconst (v := 0) hx hb d_Mo_turnsOf_164 (by decide) ?_
        refine zzast hx hb B 40 3 (wa_40 κ τ) rfl k rfl (by omega) (by decide) (y := 0) (rfl) (ws_40 κ τ k 0) d_Mo_turnsOf_165 (fun H locs B => ?_)
        have B : BA κ A s.heap s (zi τ 43 k 0) H locs := B
        refine lv_aload_n hx hb d_Mo_turnsOf_166 rfl (lv_at hl 0 rfl) ?_
        refine lv_iload hx hb d_Mo_turnsOf_167 (lv_at hl 4 rfl) ?_
        refine zcV_v (As := [.int (nI k)]) (rest := []) ⟨hx, hb, hml, hown, hts⟩ (c_Mo_takeTurn l κ (zi τ 43 k 0) k hkn hn E hI.1 hE3 t1 hI.2.2.2.2 (by omega) hI.2.1) (cwV 1 hts (zgoodV w_549 w_551 s_20 w_9 w_552) rfl rfl rfl (by decide +kernel) ⟨Nat.le_of_ble_eq_true rfl, Nat.le_of_ble_eq_true rfl⟩) B (zrecv B (ci := 6) rfl (wa_21 κ (zi τ 43 k 0))) rfl hl.1 rfl (Nat.le_of_ble_eq_true rfl) d_Mo_turnsOf_169 ⟨Nat.zero_le _, Nat.zero_le _⟩ (fun σ' H locs hp B => ?_)
        rw [hp] at B
        have B : BA κ A s.heap s (fm_turn (zi τ 43 k 0) E t1 k) H locs := B
        refine lv_iinc (v := nI (m1 - 1)) (lv' := [(5, .int (nI (m1 - 1))), (0, .ref (aA κ 21)), (1, .long (v)), (3, .long (fx_lcg g)), (7, .int (nI k))]) hx hb d_Mo_turnsOf_172 hl (k := 3) rfl (sb_m1 (by omega)) (by decide) rfl (fun ls hl => ?_)
        refine lv_goto (tgt := 88) hx hb d_Mo_turnsOf_175 (by decide) ?_
        exact ih (m1 - 1) (t1 + 1) (fx_lcg g) (fm_turn (zi τ 43 k 0) E t1 k) (by omega) (hst.trans (by have e : m1 = j + 1 := (by omega); subst e; show fm_draw _ _ _ _ _ (fm_next _ _ _ _ _ _) = _; rw [fm_next, hw])) (by rw [fm_cl_congr (km_turn (by decide) _ _ _ _)]; have h := fm_cl_who τ (nA κ) 0 (tn (fx_pick (fx_lcg g) m1)) (by rw [hcl]; exact (fx_pick_in _ (by omega) (by omega)).2); rw [hw] at h; omega) (InvM_turn (σ := zi τ 43 k 0) hI) _ _ B ls (lv_sub hl [1, 2, 3, 0] rfl)
  have L_59 : ∀ (j : Nat) (k : Nat) (mm : Nat) (τ : zS), (k + j = nA κ) → ((fm_tk E (nA κ) 0 0 σ).1 = mm ∧ mm ≤ nA κ) → (zit fm_left1 (nA κ) 0 (fm_tk E (nA κ) 0 0 σ).2 = zit fm_left1 j k τ) → (InvM E b t τ) → ∀ (H : Heap) (locs : List Loc), BA κ A s.heap s τ H locs → ∀ (ls : Array Slot), lv_has ls 8 [(0, .ref (aA κ 21)), (1, .long (v)), (3, .long (v)), (5, .int (nI mm)), (6, .int (nI k))] → W p l e (headSpec (zws y_Mo_turnsOf prog_8_method_18_code 8 (some .long)) ({ frames := 2, cells := 0, slots := 0, locals := 48 })).room s m [.ref (aA κ 21), .long (v)].toArray below meth c H locs 0 0 (MQ below (va_Ql (fun r σ' => r = (fm_turnsOf (nA κ) E t v σ).1 ∧ σ' = (fm_turnsOf (nA κ) E t v σ).2) (zQ κ.1 vwCl (tysA κ) (wA κ) A) A) [.ref (aA κ 21), .long (v)].toArray s 0 0 A) (F0 m 59 ls []) := by
    intro j
    induction j with
    | zero =>
      intro k mm τ hj hm hst hI H locs B ls hl
      refine lv_iload hx hb d_Mo_turnsOf_59 (lv_at hl 4 rfl) ?_
      refine lv_aload_n hx hb d_Mo_turnsOf_61 rfl (lv_at hl 0 rfl) ?_
      refine va_get (D := κ.1) (ci := 6) (v := .int (nI (nA κ))) (C := "UnitThreadsModel") (T := T_Mo) (N := 26) hx hb hts in_Mo hown B.1 B.2.1 21 (wa_21 κ τ) rfl 0 (by decide) (hts _ w_408) (fun _ h9 => h9) rfl d_Mo_turnsOf_62 ?_
      refine lv_icmp_ge (tgt := 88) hx hb d_Mo_turnsOf_65 (by decide) (fun c_7 => ?_) (fun c_7 => ?_)
      · have c_7 := (nI_leI (a := nA κ) (b := k) (by omega) (by omega)).mp c_7
        exact L_88 mm mm t v τ (by omega) (by rw [fm_turnsOf, hm.1, hst]; rfl) (by have h := fm_left_cl (nA κ) E σ; rw [hst, hm.1] at h; exact h) hI _ _ B ls (lv_sub hl [0, 1, 2, 3] rfl)
      · have c_7 := (not_congr (nI_leI (a := nA κ) (b := k) (by omega) (by omega))).mp c_7
        exact absurd c_7 (by omega)
    | succ j ih =>
      intro k mm τ hj hm hst hI H locs B ls hl
      refine lv_iload hx hb d_Mo_turnsOf_59 (lv_at hl 4 rfl) ?_
      refine lv_aload_n hx hb d_Mo_turnsOf_61 rfl (lv_at hl 0 rfl) ?_
      refine va_get (D := κ.1) (ci := 6) (v := .int (nI (nA κ))) (C := "UnitThreadsModel") (T := T_Mo) (N := 26) hx hb hts in_Mo hown B.1 B.2.1 21 (wa_21 κ τ) rfl 0 (by decide) (hts _ w_408) (fun _ h9 => h9) rfl d_Mo_turnsOf_62 ?_
      refine lv_icmp_ge (tgt := 88) hx hb d_Mo_turnsOf_65 (by decide) (fun c_8 => ?_) (fun c_8 => ?_)
      · have c_8 := (nI_leI (a := nA κ) (b := k) (by omega) (by omega)).mp c_8
        exact absurd c_8 (by omega)
      · have c_8 := (not_congr (nI_leI (a := nA κ) (b := k) (by omega) (by omega))).mp c_8
        refine lv_aload_n hx hb d_Mo_turnsOf_68 rfl (lv_at hl 0 rfl) ?_
        refine va_get (D := κ.1) (ci := 6) (v := .ref (aA κ 40)) (C := "UnitThreadsModel") (T := T_Mo) (N := 26) hx hb hts in_Mo hown B.1 B.2.1 21 (wa_21 κ τ) rfl 23 (by decide) (hts _ w_431) (fun _ h9 => h9) rfl d_Mo_turnsOf_69 ?_
        refine lv_iload hx hb d_Mo_turnsOf_72 (lv_at hl 4 rfl) ?_
        refine lv_aload_n hx hb d_Mo_turnsOf_74 rfl (lv_at hl 0 rfl) ?_
        refine va_get (D := κ.1) (ci := 6) (v := .ref (aA κ 39)) (C := "UnitThreadsModel") (T := T_Mo) (N := 26) hx hb hts in_Mo hown B.1 B.2.1 21 (wa_21 κ τ) rfl 22 (by decide) (hts _ w_430) (fun _ h9 => h9) rfl d_Mo_turnsOf_75 ?_
        refine lv_iload hx hb d_Mo_turnsOf_78 (lv_at hl 4 rfl) ?_
        refine zzald hx hb B 39 3 (wa_39 κ τ) rfl k rfl (by omega) (by decide) d_Mo_turnsOf_80 ?_
        refine zzast hx hb B 40 3 (wa_40 κ τ) rfl k rfl (by omega) (by decide) (y := vp_nar .boolean (τ.1 42 k)) (rfl) (ws_40 κ τ k (vp_nar .boolean (τ.1 42 k))) d_Mo_turnsOf_81 (fun H locs B => ?_)
        have B : BA κ A s.heap s (zi τ 43 k (vp_nar .boolean (τ.1 42 k))) H locs := B
        refine lv_iinc (v := nI (k + 1)) (lv' := [(6, .int (nI (k + 1))), (0, .ref (aA κ 21)), (1, .long (v)), (3, .long (v)), (5, .int (nI mm))]) hx hb d_Mo_turnsOf_82 hl (k := 4) rfl (zinc _) (by decide) rfl (fun ls hl => ?_)
        refine lv_goto (tgt := 59) hx hb d_Mo_turnsOf_85 (by decide) ?_
        exact ih (k + 1) mm (zi τ 43 k (vp_nar .boolean (τ.1 42 k))) (by omega) hm hst hI _ _ B ls (lv_sub hl [1, 2, 3, 4, 0] rfl)
  have L_8 : ∀ (j : Nat) (k : Nat) (mm : Nat) (τ : zS), (k + j = nA κ ∧ mm ≤ k) → (fm_tk E (nA κ) 0 0 σ = fm_tk E j k mm τ) → (InvM E b t τ) → ∀ (H : Heap) (locs : List Loc), BA κ A s.heap s τ H locs → ∀ (ls : Array Slot), lv_has ls 8 [(0, .ref (aA κ 21)), (1, .long (v)), (3, .long (v)), (5, .int (nI mm)), (6, .int (nI k))] → W p l e (headSpec (zws y_Mo_turnsOf prog_8_method_18_code 8 (some .long)) ({ frames := 2, cells := 0, slots := 0, locals := 48 })).room s m [.ref (aA κ 21), .long (v)].toArray below meth c H locs 0 0 (MQ below (va_Ql (fun r σ' => r = (fm_turnsOf (nA κ) E t v σ).1 ∧ σ' = (fm_turnsOf (nA κ) E t v σ).2) (zQ κ.1 vwCl (tysA κ) (wA κ) A) A) [.ref (aA κ 21), .long (v)].toArray s 0 0 A) (F0 m 8 ls []) := by
    intro j
    induction j with
    | zero =>
      intro k mm τ hj hst hI H locs B ls hl
      refine lv_iload hx hb d_Mo_turnsOf_8 (lv_at hl 4 rfl) ?_
      refine lv_aload_n hx hb d_Mo_turnsOf_10 rfl (lv_at hl 0 rfl) ?_
      refine va_get (D := κ.1) (ci := 6) (v := .int (nI (nA κ))) (C := "UnitThreadsModel") (T := T_Mo) (N := 26) hx hb hts in_Mo hown B.1 B.2.1 21 (wa_21 κ τ) rfl 0 (by decide) (hts _ w_408) (fun _ h9 => h9) rfl d_Mo_turnsOf_11 ?_
      refine lv_icmp_ge (tgt := 56) hx hb d_Mo_turnsOf_14 (by decide) (fun c_9 => ?_) (fun c_9 => ?_)
      · have c_9 := (nI_leI (a := nA κ) (b := k) (by omega) (by omega)).mp c_9
        refine lv_iconst (v := nI 0) hx hb d_Mo_turnsOf_56 (by decide) ?_
        refine lv_istore (lv' := [(6, .int (nI 0)), (0, .ref (aA κ 21)), (1, .long (v)), (3, .long (v)), (5, .int (nI mm))]) hx hb d_Mo_turnsOf_57 hl (by decide) rfl (fun ls hl => ?_)
        exact L_59 (nA κ) 0 mm τ (by omega) ⟨by rw [hst]; rfl, by omega⟩ (by rw [hst]; rfl) hI _ _ B ls (lv_sub hl [1, 2, 3, 4, 0] rfl)
      · have c_9 := (not_congr (nI_leI (a := nA κ) (b := k) (by omega) (by omega))).mp c_9
        exact absurd c_9 (by omega)
    | succ j ih =>
      intro k mm τ hj hst hI H locs B ls hl
      refine lv_iload hx hb d_Mo_turnsOf_8 (lv_at hl 4 rfl) ?_
      refine lv_aload_n hx hb d_Mo_turnsOf_10 rfl (lv_at hl 0 rfl) ?_
      refine va_get (D := κ.1) (ci := 6) (v := .int (nI (nA κ))) (C := "UnitThreadsModel") (T := T_Mo) (N := 26) hx hb hts in_Mo hown B.1 B.2.1 21 (wa_21 κ τ) rfl 0 (by decide) (hts _ w_408) (fun _ h9 => h9) rfl d_Mo_turnsOf_11 ?_
      refine lv_icmp_ge (tgt := 56) hx hb d_Mo_turnsOf_14 (by decide) (fun c_10 => ?_) (fun c_10 => ?_)
      · have c_10 := (nI_leI (a := nA κ) (b := k) (by omega) (by omega)).mp c_10
        exact absurd c_10 (by omega)
      · have c_10 := (not_congr (nI_leI (a := nA κ) (b := k) (by omega) (by omega))).mp c_10
        refine lv_aload_n hx hb d_Mo_turnsOf_17 rfl (lv_at hl 0 rfl) ?_
        refine va_get (D := κ.1) (ci := 6) (v := .ref (aA κ 39)) (C := "UnitThreadsModel") (T := T_Mo) (N := 26) hx hb hts in_Mo hown B.1 B.2.1 21 (wa_21 κ τ) rfl 22 (by decide) (hts _ w_430) (fun _ h9 => h9) rfl d_Mo_turnsOf_18 ?_
        refine lv_iload hx hb d_Mo_turnsOf_21 (lv_at hl 4 rfl) ?_
        refine lv_aload_n hx hb d_Mo_turnsOf_23 rfl (lv_at hl 0 rfl) ?_
        refine lv_iload hx hb d_Mo_turnsOf_24 (lv_at hl 4 rfl) ?_
        refine zcV_i (As := [.int (nI k)]) (rest := [.int (nI k), .ref (aA κ 39)]) ⟨hx, hb, hml, hown, hts⟩ (c_Mo_goes l κ τ k (by omega) hn E hI.1 hE3) (cwV 1 hts (zgoodV w_535 w_537 s_17 w_9 w_538) rfl rfl rfl (by decide +kernel) ⟨Nat.le_of_ble_eq_true rfl, Nat.le_of_ble_eq_true rfl⟩) B (zrecv B (ci := 6) rfl (wa_21 κ τ)) rfl hl.1 rfl (Nat.le_of_ble_eq_true rfl) d_Mo_turnsOf_26 ⟨Nat.zero_le _, Nat.zero_le _⟩ (fun r σ' H locs hp B => ?_)
        obtain ⟨rfl, hp⟩ := hp
        rw [hp] at B
        have B : BA κ A s.heap s τ H locs := B
        refine zzast hx hb B 39 3 (wa_39 κ τ) rfl k rfl (by omega) (by decide) (y := zb (fm_goes τ E k)) (zb_vnar _) (ws_39 κ τ k (zb (fm_goes τ E k))) d_Mo_turnsOf_29 (fun H locs B => ?_)
        have B : BA κ A s.heap s (zi τ 42 k (zb (fm_goes τ E k))) H locs := B
        refine lv_iload hx hb d_Mo_turnsOf_30 (lv_at hl 3 rfl) ?_
        refine lv_aload_n hx hb d_Mo_turnsOf_32 rfl (lv_at hl 0 rfl) ?_
        refine va_get (D := κ.1) (ci := 6) (v := .ref (aA κ 39)) (C := "UnitThreadsModel") (T := T_Mo) (N := 26) hx hb hts in_Mo hown B.1 B.2.1 21 (wa_21 κ (zi τ 42 k (zb (fm_goes τ E k)))) rfl 22 (by decide) (hts _ w_430) (fun _ h9 => h9) rfl d_Mo_turnsOf_33 ?_
        refine lv_iload hx hb d_Mo_turnsOf_36 (lv_at hl 4 rfl) ?_
        refine zzald hx hb B 39 3 (wa_39 κ (zi τ 42 k (zb (fm_goes τ E k)))) rfl k rfl (by omega) (by decide) d_Mo_turnsOf_38 ?_
        refine zrwi (y := zb (fm_goes τ E k)) (by rw [zi_eq]) ?_
        refine lv_if_eq (tgt := 46) hx hb d_Mo_turnsOf_39 (by decide) (fun c_11 => ?_) (fun c_11 => ?_)
        · have c_11 := zb_eq0.mp c_11
          refine lv_iconst (v := 0) hx hb d_Mo_turnsOf_46 (by decide) ?_
          refine lv_iadd hx hb d_Mo_turnsOf_47 ?_
          refine zrwi (y := nI mm) (nI_add _ 0) ?_
          refine lv_istore (lv' := [(5, .int (nI mm)), (0, .ref (aA κ 21)), (1, .long (v)), (3, .long (v)), (6, .int (nI k))]) hx hb d_Mo_turnsOf_48 hl (by decide) rfl (fun ls hl => ?_)
          refine lv_iinc (v := nI (k + 1)) (lv' := [(6, .int (nI (k + 1))), (5, .int (nI mm)), (0, .ref (aA κ 21)), (1, .long (v)), (3, .long (v))]) hx hb d_Mo_turnsOf_50 hl (k := 4) rfl (zinc _) (by decide) rfl (fun ls hl => ?_)
          refine lv_goto (tgt := 8) hx hb d_Mo_turnsOf_53 (by decide) ?_
          exact ih (k + 1) mm (zi τ 42 k (zb (fm_goes τ E k))) (by omega) (by rw [hst]; simp [fm_tk, c_10, c_11]) hI _ _ B ls (lv_sub hl [2, 3, 4, 1, 0] rfl)
        · have c_11 := zb_ne0.mp c_11
          refine lv_iconst (v := 1) hx hb d_Mo_turnsOf_42 (by decide) ?_
          refine lv_goto (tgt := 47) hx hb d_Mo_turnsOf_43 (by decide) ?_
          refine lv_iadd hx hb d_Mo_turnsOf_47 ?_
          refine zrwi (y := nI (mm + 1)) (nI_1 _) ?_
          refine lv_istore (lv' := [(5, .int (nI (mm + 1))), (0, .ref (aA κ 21)), (1, .long (v)), (3, .long (v)), (6, .int (nI k))]) hx hb d_Mo_turnsOf_48 hl (by decide) rfl (fun ls hl => ?_)
          refine lv_iinc (v := nI (k + 1)) (lv' := [(6, .int (nI (k + 1))), (5, .int (nI (mm + 1))), (0, .ref (aA κ 21)), (1, .long (v)), (3, .long (v))]) hx hb d_Mo_turnsOf_50 hl (k := 4) rfl (zinc _) (by decide) rfl (fun ls hl => ?_)
          refine lv_goto (tgt := 8) hx hb d_Mo_turnsOf_53 (by decide) ?_
          exact ih (k + 1) (mm + 1) (zi τ 42 k (zb (fm_goes τ E k))) (by omega) (by rw [hst]; simp [fm_tk, c_10, c_11]) hI _ _ B ls (lv_sub hl [2, 3, 4, 1, 0] rfl)
  refine lv_lload_n hx hb d_Mo_turnsOf_0 rfl (lv_at hl 1 rfl) ?_
  refine lv_lstore_n (lv' := [(3, .long (v)), (0, .ref (aA κ 21)), (1, .long (v))]) hx hb d_Mo_turnsOf_1 rfl hl (by decide) rfl (fun ls hl => ?_)
  refine lv_iconst (v := nI 0) hx hb d_Mo_turnsOf_2 (by decide) ?_
  refine lv_istore (lv' := [(5, .int (nI 0)), (3, .long (v)), (0, .ref (aA κ 21)), (1, .long (v))]) hx hb d_Mo_turnsOf_3 hl (by decide) rfl (fun ls hl => ?_)
  refine lv_iconst (v := nI 0) hx hb d_Mo_turnsOf_5 (by decide) ?_
  refine lv_istore (lv' := [(6, .int (nI 0)), (5, .int (nI 0)), (3, .long (v)), (0, .ref (aA κ 21)), (1, .long (v))]) hx hb d_Mo_turnsOf_6 hl (by decide) rfl (fun ls hl => ?_)
  exact L_8 (nA κ) 0 0 σ (by omega) rfl hI _ _ B ls (lv_sub hl [3, 4, 2, 1, 0] rfl)
