set_option maxHeartbeats 4000000 in
set_option maxRecDepth 100000 in
theorem c_Mo_end (l : Launch) (κ : KA) (σ : zS) (hn : nA κ ≤ 8) (E b t : Nat) (hE3 : E ≤ 300) (hI : InvM E b t σ) (hb4 : b < 64) (ht5 : t ≤ 512) : zMv l y_Mo_end (zws y_Mo_end prog_8_method_22_code 4 none) ({ frames := 3, cells := 0, slots := 0, locals := 68 }) κ.1 vwCl (tysA κ) nwA (wA κ) σ [.ref (aA κ 21)] (fun σ' => σ' = fm_end (nA κ) E b t σ) := by
  refine zintro (cc := prog_8_method_22_code) (maxL := 4) (ret := none) (by decide) rfl (Nat.le_of_ble_eq_true rfl) ?_
  intro p e s m below meth c ls hx hb hr hml hts hown hlocks hl B
  have hl : lv_has ls 4 [(0, .ref (aA κ 21))] := hl
  have B : BA κ (va_A (wA κ σ) s.heap.size) s.heap s σ s.heap [] := B
  have hr : meth.sig.returnType = none := hr
  have hown : s.vm.findClass "UnitThreadsModel" = some m.cls := hown
  show W p l e (headSpec (zws y_Mo_end prog_8_method_22_code 4 none) ({ frames := 3, cells := 0, slots := 0, locals := 68 })).room s m [.ref (aA κ 21)].toArray below meth c s.heap [] 0 0 (MQ below (va_Qv (fun σ' => σ' = fm_end (nA κ) E b t σ) (zQ κ.1 vwCl (tysA κ) (wA κ) (va_A (wA κ σ) s.heap.size)) (va_A (wA κ σ) s.heap.size)) [.ref (aA κ 21)].toArray s 0 0 (va_A (wA κ σ) s.heap.size)) (F0 m 0 ls [])
  generalize va_A (wA κ σ) s.heap.size = A at B ⊢
  have hts : ∀ w ∈ zW, w.before [.ref (aA κ 21)].toArray s = true := fun w h => hts w (List.mem_cons_of_mem _ h)
  have L_260 : ∀ (j : Nat) (k : Nat) (τ : zS), (k + j = 16) → (fm_end (nA κ) E b t σ = zi (zit (fm_end5 b) j k τ) 26 0 (nI (b + 1))) → (InvM E b t τ) → ∀ (H : Heap) (locs : List Loc), BA κ A s.heap s τ H locs → ∀ (ls : Array Slot), lv_has ls 4 [(0, .ref (aA κ 21)), (1, .int (nI k))] → W p l e (headSpec (zws y_Mo_end prog_8_method_22_code 4 none) ({ frames := 3, cells := 0, slots := 0, locals := 68 })).room s m [.ref (aA κ 21)].toArray below meth c H locs 0 0 (MQ below (va_Qv (fun σ' => σ' = fm_end (nA κ) E b t σ) (zQ κ.1 vwCl (tysA κ) (wA κ) A) A) [.ref (aA κ 21)].toArray s 0 0 A) (F0 m 260 ls []) := by
    intro j
    induction j with
    | zero =>
      intro k τ hj hst hI H locs B ls hl
      refine lv_iload_n hx hb d_Mo_end_260 rfl (lv_at hl 1 rfl) ?_
      refine lv_bipush (v := nI 16) hx hb d_Mo_end_261 (by decide) ?_
      refine lv_icmp_ge (tgt := 292) hx hb d_Mo_end_263 (by decide) (fun c_1 => ?_) (fun c_1 => ?_)
      · have c_1 := (nI_leI (a := 16) (b := k) (by omega) (by omega)).mp c_1
        refine lv_aload_n hx hb d_Mo_end_292 rfl (lv_at hl 0 rfl) ?_
        refine lv_dup hx hb d_Mo_end_293 rfl ?_
        refine va_get (D := κ.1) (ci := 6) (v := .int (τ.1 26 0)) (C := "UnitThreadsModel") (T := T_Mo) (N := 26) hx hb hts in_Mo hown B.1 B.2.1 21 (wa_21 κ τ) rfl 2 (by decide) (hts _ w_410) (fun _ h9 => h9) rfl d_Mo_end_294 ?_
        refine zrwi (y := nI b) (hI.2.2.2.1) ?_
        refine lv_iconst (v := 1) hx hb d_Mo_end_297 (by decide) ?_
        refine lv_iadd hx hb d_Mo_end_298 ?_
        refine zrwi (y := nI (b + 1)) (nI_1 _) ?_
        refine zput (ci := 6) (v := .int (nI (b + 1))) (ty := .int) (C := "UnitThreadsModel") (T := T_Mo) (N := 26) hx hb hts in_Mo ty_Mo tyok_Mo nm_Mo hown B 21 (wa_21 κ τ) rfl 2 (by decide) (hts _ w_410) (fun _ h9 => h9) rfl (by decide +kernel) rfl rfl (Nat.le_of_ble_eq_true rfl) (wp_21_2 κ τ (nI (b + 1))) d_Mo_end_299 (fun H locs B => ?_)
        have B : BA κ A s.heap s (zi τ 26 0 (nI (b + 1))) H locs := B
        exact zret_v hx hb hr hlocks B (hst.symm) d_Mo_end_302
      · have c_1 := (not_congr (nI_leI (a := 16) (b := k) (by omega) (by omega))).mp c_1
        exact absurd c_1 (by omega)
    | succ j ih =>
      intro k τ hj hst hI H locs B ls hl
      refine lv_iload_n hx hb d_Mo_end_260 rfl (lv_at hl 1 rfl) ?_
      refine lv_bipush (v := nI 16) hx hb d_Mo_end_261 (by decide) ?_
      refine lv_icmp_ge (tgt := 292) hx hb d_Mo_end_263 (by decide) (fun c_2 => ?_) (fun c_2 => ?_)
      · have c_2 := (nI_leI (a := 16) (b := k) (by omega) (by omega)).mp c_2
        exact absurd c_2 (by omega)
      · have c_2 := (not_congr (nI_leI (a := 16) (b := k) (by omega) (by omega))).mp c_2
        refine lv_aload_n hx hb d_Mo_end_266 rfl (lv_at hl 0 rfl) ?_
        refine va_get (D := κ.1) (ci := 6) (v := .ref (aA κ 26)) (C := "UnitThreadsModel") (T := T_Mo) (N := 26) hx hb hts in_Mo hown B.1 B.2.1 21 (wa_21 κ τ) rfl 7 (by decide) (hts _ w_415) (fun _ h9 => h9) rfl d_Mo_end_267 ?_
        refine lv_bipush (v := nI 16) hx hb d_Mo_end_270 (by decide) ?_
        refine lv_aload_n hx hb d_Mo_end_272 rfl (lv_at hl 0 rfl) ?_
        refine va_get (D := κ.1) (ci := 6) (v := .int (τ.1 26 0)) (C := "UnitThreadsModel") (T := T_Mo) (N := 26) hx hb hts in_Mo hown B.1 B.2.1 21 (wa_21 κ τ) rfl 2 (by decide) (hts _ w_410) (fun _ h9 => h9) rfl d_Mo_end_273 ?_
        refine zrwi (y := nI b) (hI.2.2.2.1) ?_
        refine lv_imul hx hb d_Mo_end_276 ?_
        refine zrwi (y := nI (16 * b)) (pk_mul _ _) ?_
        refine lv_iload_n hx hb d_Mo_end_277 rfl (lv_at hl 1 rfl) ?_
        refine lv_iadd hx hb d_Mo_end_278 ?_
        refine zrwi (y := nI (16 * b + k)) (nI_add _ _) ?_
        refine lv_aload_n hx hb d_Mo_end_279 rfl (lv_at hl 0 rfl) ?_
        refine va_get (D := κ.1) (ci := 6) (v := .ref (aA κ 24)) (C := "UnitThreadsModel") (T := T_Mo) (N := 26) hx hb hts in_Mo hown B.1 B.2.1 21 (wa_21 κ τ) rfl 5 (by decide) (hts _ w_413) (fun _ h9 => h9) rfl d_Mo_end_280 ?_
        refine lv_iload_n hx hb d_Mo_end_283 rfl (lv_at hl 1 rfl) ?_
        refine ziald hx hb B 24 0 (wa_24 κ τ) rfl k rfl (by omega) (by decide) d_Mo_end_284 ?_
        refine ziast hx hb B 26 0 (wa_26 κ τ) rfl (16 * b + k) rfl (by omega) (by decide) (ws_26 κ τ (16 * b + k) (τ.1 27 k)) d_Mo_end_285 (fun H locs B => ?_)
        have B : BA κ A s.heap s (zi τ 28 (16 * b + k) (τ.1 27 k)) H locs := B
        refine lv_iinc (v := nI (k + 1)) (lv' := [(1, .int (nI (k + 1))), (0, .ref (aA κ 21))]) hx hb d_Mo_end_286 hl (k := 1) rfl (zinc _) (by decide) rfl (fun ls hl => ?_)
        refine lv_goto (tgt := 260) hx hb d_Mo_end_289 (by decide) ?_
        exact ih (k + 1) (zi τ 28 (16 * b + k) (τ.1 27 k)) (by omega) hst hI _ _ B ls (lv_sub hl [1, 0] rfl)
  have L_226 : ∀ (j : Nat) (k : Nat) (τ : zS), (k + j = 32) → (fm_end (nA κ) E b t σ = zi (zit (fm_end5 b) 16 0 (zit (fm_end4 b) j k τ)) 26 0 (nI (b + 1))) → (InvM E b t τ) → ∀ (H : Heap) (locs : List Loc), BA κ A s.heap s τ H locs → ∀ (ls : Array Slot), lv_has ls 4 [(0, .ref (aA κ 21)), (1, .int (nI k))] → W p l e (headSpec (zws y_Mo_end prog_8_method_22_code 4 none) ({ frames := 3, cells := 0, slots := 0, locals := 68 })).room s m [.ref (aA κ 21)].toArray below meth c H locs 0 0 (MQ below (va_Qv (fun σ' => σ' = fm_end (nA κ) E b t σ) (zQ κ.1 vwCl (tysA κ) (wA κ) A) A) [.ref (aA κ 21)].toArray s 0 0 A) (F0 m 226 ls []) := by
    intro j
    induction j with
    | zero =>
      intro k τ hj hst hI H locs B ls hl
      refine lv_iload_n hx hb d_Mo_end_226 rfl (lv_at hl 1 rfl) ?_
      refine lv_bipush (v := nI 32) hx hb d_Mo_end_227 (by decide) ?_
      refine lv_icmp_ge (tgt := 258) hx hb d_Mo_end_229 (by decide) (fun c_3 => ?_) (fun c_3 => ?_)
      · have c_3 := (nI_leI (a := 32) (b := k) (by omega) (by omega)).mp c_3
        refine lv_iconst (v := nI 0) hx hb d_Mo_end_258 (by decide) ?_
        refine lv_istore_n (lv' := [(1, .int (nI 0)), (0, .ref (aA κ 21))]) hx hb d_Mo_end_259 rfl hl (by decide) rfl (fun ls hl => ?_)
        exact L_260 16 0 τ (by omega) hst hI _ _ B ls (lv_sub hl [1, 0] rfl)
      · have c_3 := (not_congr (nI_leI (a := 32) (b := k) (by omega) (by omega))).mp c_3
        exact absurd c_3 (by omega)
    | succ j ih =>
      intro k τ hj hst hI H locs B ls hl
      refine lv_iload_n hx hb d_Mo_end_226 rfl (lv_at hl 1 rfl) ?_
      refine lv_bipush (v := nI 32) hx hb d_Mo_end_227 (by decide) ?_
      refine lv_icmp_ge (tgt := 258) hx hb d_Mo_end_229 (by decide) (fun c_4 => ?_) (fun c_4 => ?_)
      · have c_4 := (nI_leI (a := 32) (b := k) (by omega) (by omega)).mp c_4
        exact absurd c_4 (by omega)
      · have c_4 := (not_congr (nI_leI (a := 32) (b := k) (by omega) (by omega))).mp c_4
        refine lv_aload_n hx hb d_Mo_end_232 rfl (lv_at hl 0 rfl) ?_
        refine va_get (D := κ.1) (ci := 6) (v := .ref (aA κ 25)) (C := "UnitThreadsModel") (T := T_Mo) (N := 26) hx hb hts in_Mo hown B.1 B.2.1 21 (wa_21 κ τ) rfl 6 (by decide) (hts _ w_414) (fun _ h9 => h9) rfl d_Mo_end_233 ?_
        refine lv_bipush (v := nI 32) hx hb d_Mo_end_236 (by decide) ?_
        refine lv_aload_n hx hb d_Mo_end_238 rfl (lv_at hl 0 rfl) ?_
        refine va_get (D := κ.1) (ci := 6) (v := .int (τ.1 26 0)) (C := "UnitThreadsModel") (T := T_Mo) (N := 26) hx hb hts in_Mo hown B.1 B.2.1 21 (wa_21 κ τ) rfl 2 (by decide) (hts _ w_410) (fun _ h9 => h9) rfl d_Mo_end_239 ?_
        refine zrwi (y := nI b) (hI.2.2.2.1) ?_
        refine lv_imul hx hb d_Mo_end_242 ?_
        refine zrwi (y := nI (32 * b)) (pk_mul _ _) ?_
        refine lv_iload_n hx hb d_Mo_end_243 rfl (lv_at hl 1 rfl) ?_
        refine lv_iadd hx hb d_Mo_end_244 ?_
        refine zrwi (y := nI (32 * b + k)) (nI_add _ _) ?_
        refine lv_aload_n hx hb d_Mo_end_245 rfl (lv_at hl 0 rfl) ?_
        refine va_get (D := κ.1) (ci := 6) (v := .ref (aA κ 22)) (C := "UnitThreadsModel") (T := T_Mo) (N := 26) hx hb hts in_Mo hown B.1 B.2.1 21 (wa_21 κ τ) rfl 3 (by decide) (hts _ w_411) (fun _ h9 => h9) rfl d_Mo_end_246 ?_
        refine lv_iload_n hx hb d_Mo_end_249 rfl (lv_at hl 1 rfl) ?_
        refine zlald hx hb B 22 1 (wa_22 κ τ) rfl k rfl (by omega) (by decide) d_Mo_end_250 ?_
        refine zlast hx hb B 25 1 (wa_25 κ τ) rfl (32 * b + k) rfl (by omega) (by decide) (ws_25 κ τ (32 * b + k) (τ.2 5 k)) d_Mo_end_251 (fun H locs B => ?_)
        have B : BA κ A s.heap s (zl τ 7 (32 * b + k) (τ.2 5 k)) H locs := B
        refine lv_iinc (v := nI (k + 1)) (lv' := [(1, .int (nI (k + 1))), (0, .ref (aA κ 21))]) hx hb d_Mo_end_252 hl (k := 1) rfl (zinc _) (by decide) rfl (fun ls hl => ?_)
        refine lv_goto (tgt := 226) hx hb d_Mo_end_255 (by decide) ?_
        exact ih (k + 1) (zl τ 7 (32 * b + k) (τ.2 5 k)) (by omega) hst hI _ _ B ls (lv_sub hl [1, 0] rfl)
  have L_187 : ∀ (j : Nat) (k : Nat) (τ : zS), (k + j = nA κ) → (fm_end (nA κ) E b t σ = fm_endF b (zit (fm_end3 E t) j k τ)) → (InvM E b t τ) → ∀ (H : Heap) (locs : List Loc), BA κ A s.heap s τ H locs → ∀ (ls : Array Slot), lv_has ls 4 [(0, .ref (aA κ 21)), (1, .int (nI k))] → W p l e (headSpec (zws y_Mo_end prog_8_method_22_code 4 none) ({ frames := 3, cells := 0, slots := 0, locals := 68 })).room s m [.ref (aA κ 21)].toArray below meth c H locs 0 0 (MQ below (va_Qv (fun σ' => σ' = fm_end (nA κ) E b t σ) (zQ κ.1 vwCl (tysA κ) (wA κ) A) A) [.ref (aA κ 21)].toArray s 0 0 A) (F0 m 187 ls []) := by
    intro j
    induction j with
    | zero =>
      intro k τ hj hst hI H locs B ls hl
      refine lv_iload_n hx hb d_Mo_end_187 rfl (lv_at hl 1 rfl) ?_
      refine lv_aload_n hx hb d_Mo_end_188 rfl (lv_at hl 0 rfl) ?_
      refine va_get (D := κ.1) (ci := 6) (v := .int (nI (nA κ))) (C := "UnitThreadsModel") (T := T_Mo) (N := 26) hx hb hts in_Mo hown B.1 B.2.1 21 (wa_21 κ τ) rfl 0 (by decide) (hts _ w_408) (fun _ h9 => h9) rfl d_Mo_end_189 ?_
      refine lv_icmp_ge (tgt := 224) hx hb d_Mo_end_192 (by decide) (fun c_5 => ?_) (fun c_5 => ?_)
      · have c_5 := (nI_leI (a := nA κ) (b := k) (by omega) (by omega)).mp c_5
        refine lv_iconst (v := nI 0) hx hb d_Mo_end_224 (by decide) ?_
        refine lv_istore_n (lv' := [(1, .int (nI 0)), (0, .ref (aA κ 21))]) hx hb d_Mo_end_225 rfl hl (by decide) rfl (fun ls hl => ?_)
        exact L_226 32 0 τ (by omega) hst hI _ _ B ls (lv_sub hl [1, 0] rfl)
      · have c_5 := (not_congr (nI_leI (a := nA κ) (b := k) (by omega) (by omega))).mp c_5
        exact absurd c_5 (by omega)
    | succ j ih =>
      intro k τ hj hst hI H locs B ls hl
      refine lv_iload_n hx hb d_Mo_end_187 rfl (lv_at hl 1 rfl) ?_
      refine lv_aload_n hx hb d_Mo_end_188 rfl (lv_at hl 0 rfl) ?_
      refine va_get (D := κ.1) (ci := 6) (v := .int (nI (nA κ))) (C := "UnitThreadsModel") (T := T_Mo) (N := 26) hx hb hts in_Mo hown B.1 B.2.1 21 (wa_21 κ τ) rfl 0 (by decide) (hts _ w_408) (fun _ h9 => h9) rfl d_Mo_end_189 ?_
      refine lv_icmp_ge (tgt := 224) hx hb d_Mo_end_192 (by decide) (fun c_6 => ?_) (fun c_6 => ?_)
      · have c_6 := (nI_leI (a := nA κ) (b := k) (by omega) (by omega)).mp c_6
        exact absurd c_6 (by omega)
      · have c_6 := (not_congr (nI_leI (a := nA κ) (b := k) (by omega) (by omega))).mp c_6
        refine lv_aload_n hx hb d_Mo_end_195 rfl (lv_at hl 0 rfl) ?_
        refine va_get (D := κ.1) (ci := 6) (v := .ref (aA κ 39)) (C := "UnitThreadsModel") (T := T_Mo) (N := 26) hx hb hts in_Mo hown B.1 B.2.1 21 (wa_21 κ τ) rfl 22 (by decide) (hts _ w_430) (fun _ h9 => h9) rfl d_Mo_end_196 ?_
        refine lv_iload_n hx hb d_Mo_end_199 rfl (lv_at hl 1 rfl) ?_
        refine zzald hx hb B 39 3 (wa_39 κ τ) rfl k rfl (by omega) (by decide) d_Mo_end_200 ?_
        refine lv_if_eq (tgt := 218) hx hb d_Mo_end_201 (by decide) (fun c_7 => ?_) (fun c_7 => ?_)
        · refine lv_iinc (v := nI (k + 1)) (lv' := [(1, .int (nI (k + 1))), (0, .ref (aA κ 21))]) hx hb d_Mo_end_218 hl (k := 1) rfl (zinc _) (by decide) rfl (fun ls hl => ?_)
          refine lv_goto (tgt := 187) hx hb d_Mo_end_221 (by decide) ?_
          exact ih (k + 1) τ (by omega) (by rw [hst]; simp [zit, fm_end3, c_6, c_7]) hI _ _ B ls (lv_sub hl [1, 0] rfl)
        · refine lv_aload_n hx hb d_Mo_end_204 rfl (lv_at hl 0 rfl) ?_
          refine va_get (D := κ.1) (ci := 6) (v := .ref (aA κ 41)) (C := "UnitThreadsModel") (T := T_Mo) (N := 26) hx hb hts in_Mo hown B.1 B.2.1 21 (wa_21 κ τ) rfl 24 (by decide) (hts _ w_432) (fun _ h9 => h9) rfl d_Mo_end_205 ?_
          refine lv_iload_n hx hb d_Mo_end_208 rfl (lv_at hl 1 rfl) ?_
          refine zzald hx hb B 41 3 (wa_41 κ τ) rfl k rfl (by omega) (by decide) d_Mo_end_209 ?_
          refine lv_if_ne (tgt := 218) hx hb d_Mo_end_210 (by decide) (fun c_8 => ?_) (fun c_8 => ?_)
          · refine lv_iinc (v := nI (k + 1)) (lv' := [(1, .int (nI (k + 1))), (0, .ref (aA κ 21))]) hx hb d_Mo_end_218 hl (k := 1) rfl (zinc _) (by decide) rfl (fun ls hl => ?_)
            refine lv_goto (tgt := 187) hx hb d_Mo_end_221 (by decide) ?_
            exact ih (k + 1) τ (by omega) (by rw [hst]; simp [zit, fm_end3, c_6, c_7, c_8]) hI _ _ B ls (lv_sub hl [1, 0] rfl)
          · refine lv_aload_n hx hb d_Mo_end_213 rfl (lv_at hl 0 rfl) ?_
            refine lv_iload_n hx hb d_Mo_end_214 rfl (lv_at hl 1 rfl) ?_
            refine zcV_v (As := [.int (nI k)]) (rest := []) ⟨hx, hb, hml, hown, hts⟩ (c_Mo_act l κ τ k (by omega) hn E hI.1 hE3 hI.2.1 hI.2.2.1 t hI.2.2.2.2 ht5) (cwV 1 hts (zgoodV w_569 w_571 s_25 w_9 w_572) rfl rfl rfl (by decide +kernel) ⟨Nat.le_of_ble_eq_true rfl, Nat.le_of_ble_eq_true rfl⟩) B (zrecv B (ci := 6) rfl (wa_21 κ τ)) rfl hl.1 rfl (Nat.le_of_ble_eq_true rfl) d_Mo_end_215 ⟨Nat.zero_le _, Nat.zero_le _⟩ (fun σ' H locs hp B => ?_)
            rw [hp] at B
            have B : BA κ A s.heap s (fm_act E t k τ) H locs := B
            refine lv_iinc (v := nI (k + 1)) (lv' := [(1, .int (nI (k + 1))), (0, .ref (aA κ 21))]) hx hb d_Mo_end_218 hl (k := 1) rfl (zinc _) (by decide) rfl (fun ls hl => ?_)
            refine lv_goto (tgt := 187) hx hb d_Mo_end_221 (by decide) ?_
            exact ih (k + 1) (fm_act E t k τ) (by omega) (by rw [hst]; simp [zit, fm_end3, c_6, c_7, c_8]) (InvM_act hI) _ _ B ls (lv_sub hl [1, 0] rfl)
  have L_98 : ∀ (w : Nat) (τ0 : zS) (hw16 : w < 16), ((InvM E b t (fm_end2 (nA κ) b w τ0)) → ∀ (H : Heap) (locs : List Loc), BA κ A s.heap s (fm_end2 (nA κ) b w τ0) H locs → ∀ (ls : Array Slot), lv_has ls 4 [(0, .ref (aA κ 21)), (1, .int (nI w))] → W p l e (headSpec (zws y_Mo_end prog_8_method_22_code 4 none) ({ frames := 3, cells := 0, slots := 0, locals := 68 })).room s m [.ref (aA κ 21)].toArray below meth c H locs 0 0 (MQ below (va_Qv (fun σ' => σ' = fm_end (nA κ) E b t σ) (zQ κ.1 vwCl (tysA κ) (wA κ) A) A) [.ref (aA κ 21)].toArray s 0 0 A) (F0 m 179 ls [])) → ∀ (j : Nat) (k : Nat) (τ : zS), (k + j = nA κ) → (fm_end2 (nA κ) b w τ0 = zit (fm_end2u b w) j k τ) → (InvM E b t τ) → ∀ (H : Heap) (locs : List Loc), BA κ A s.heap s τ H locs → ∀ (ls : Array Slot), lv_has ls 4 [(0, .ref (aA κ 21)), (1, .int (nI w)), (2, .int (nI k))] → W p l e (headSpec (zws y_Mo_end prog_8_method_22_code 4 none) ({ frames := 3, cells := 0, slots := 0, locals := 68 })).room s m [.ref (aA κ 21)].toArray below meth c H locs 0 0 (MQ below (va_Qv (fun σ' => σ' = fm_end (nA κ) E b t σ) (zQ κ.1 vwCl (tysA κ) (wA κ) A) A) [.ref (aA κ 21)].toArray s 0 0 A) (F0 m 98 ls []) := by
    intro w τ0 hw16
    intro hk
    intro j
    induction j with
    | zero =>
      intro k τ hj hin hI H locs B ls hl
      refine lv_iload_n hx hb d_Mo_end_98 rfl (lv_at hl 2 rfl) ?_
      refine lv_aload_n hx hb d_Mo_end_99 rfl (lv_at hl 0 rfl) ?_
      refine va_get (D := κ.1) (ci := 6) (v := .int (nI (nA κ))) (C := "UnitThreadsModel") (T := T_Mo) (N := 26) hx hb hts in_Mo hown B.1 B.2.1 21 (wa_21 κ τ) rfl 0 (by decide) (hts _ w_408) (fun _ h9 => h9) rfl d_Mo_end_100 ?_
      refine lv_icmp_ge (tgt := 179) hx hb d_Mo_end_103 (by decide) (fun c_9 => ?_) (fun c_9 => ?_)
      · have c_9 := (nI_leI (a := nA κ) (b := k) (by omega) (by omega)).mp c_9
        have B : BA κ A s.heap s (fm_end2 (nA κ) b w τ0) H locs := by first | exact B | (rw [hin]; exact B)
        exact hk  (by rw [hin]; exact hI) _ _ B ls (lv_sub hl [0, 1] rfl)
      · have c_9 := (not_congr (nI_leI (a := nA κ) (b := k) (by omega) (by omega))).mp c_9
        exact absurd c_9 (by omega)
    | succ j ih =>
      intro k τ hj hin hI H locs B ls hl
      refine lv_iload_n hx hb d_Mo_end_98 rfl (lv_at hl 2 rfl) ?_
      refine lv_aload_n hx hb d_Mo_end_99 rfl (lv_at hl 0 rfl) ?_
      refine va_get (D := κ.1) (ci := 6) (v := .int (nI (nA κ))) (C := "UnitThreadsModel") (T := T_Mo) (N := 26) hx hb hts in_Mo hown B.1 B.2.1 21 (wa_21 κ τ) rfl 0 (by decide) (hts _ w_408) (fun _ h9 => h9) rfl d_Mo_end_100 ?_
      refine lv_icmp_ge (tgt := 179) hx hb d_Mo_end_103 (by decide) (fun c_10 => ?_) (fun c_10 => ?_)
      · have c_10 := (nI_leI (a := nA κ) (b := k) (by omega) (by omega)).mp c_10
        exact absurd c_10 (by omega)
      · have c_10 := (not_congr (nI_leI (a := nA κ) (b := k) (by omega) (by omega))).mp c_10
        refine lv_aload_n hx hb d_Mo_end_106 rfl (lv_at hl 0 rfl) ?_
        refine va_get (D := κ.1) (ci := 6) (v := .ref (aA κ 42)) (C := "UnitThreadsModel") (T := T_Mo) (N := 26) hx hb hts in_Mo hown B.1 B.2.1 21 (wa_21 κ τ) rfl 25 (by decide) (hts _ w_433) (fun _ h9 => h9) rfl d_Mo_end_107 ?_
        refine lv_bipush (v := nI 8) hx hb d_Mo_end_110 (by decide) ?_
        refine lv_iload_n hx hb d_Mo_end_112 rfl (lv_at hl 1 rfl) ?_
        refine lv_imul hx hb d_Mo_end_113 ?_
        refine zrwi (y := nI (8 * w)) (pk_mul _ _) ?_
        refine lv_iload_n hx hb d_Mo_end_114 rfl (lv_at hl 2 rfl) ?_
        refine lv_iadd hx hb d_Mo_end_115 ?_
        refine zrwi (y := nI (8 * w + k)) (nI_add _ _) ?_
        refine zzald hx hb B 42 3 (wa_42 κ τ) rfl (8 * w + k) rfl (by omega) (by decide) d_Mo_end_116 ?_
        refine lv_if_eq (tgt := 151) hx hb d_Mo_end_117 (by decide) (fun c_11 => ?_) (fun c_11 => ?_)
        · refine lv_iconst (v := 0) hx hb d_Mo_end_151 (by decide) ?_
          refine lv_istore_n (lv' := [(3, .int (0)), (0, .ref (aA κ 21)), (1, .int (nI w)), (2, .int (nI k))]) hx hb d_Mo_end_152 rfl hl (by decide) rfl (fun ls hl => ?_)
          refine lv_aload_n hx hb d_Mo_end_153 rfl (lv_at hl 1 rfl) ?_
          refine va_get (D := κ.1) (ci := 6) (v := .ref (aA κ 24)) (C := "UnitThreadsModel") (T := T_Mo) (N := 26) hx hb hts in_Mo hown B.1 B.2.1 21 (wa_21 κ τ) rfl 5 (by decide) (hts _ w_413) (fun _ h9 => h9) rfl d_Mo_end_154 ?_
          refine lv_iload_n hx hb d_Mo_end_157 rfl (lv_at hl 2 rfl) ?_
          refine lv_iload_n hx hb d_Mo_end_158 rfl (lv_at hl 0 rfl) ?_
          refine lv_if_eq (tgt := 166) hx hb d_Mo_end_159 (by decide) (fun c_12 => ?_) (fun c_12 => ?_)
          · refine lv_aload_n hx hb d_Mo_end_166 rfl (lv_at hl 1 rfl) ?_
            refine va_get (D := κ.1) (ci := 6) (v := .ref (aA κ 24)) (C := "UnitThreadsModel") (T := T_Mo) (N := 26) hx hb hts in_Mo hown B.1 B.2.1 21 (wa_21 κ τ) rfl 5 (by decide) (hts _ w_413) (fun _ h9 => h9) rfl d_Mo_end_167 ?_
            refine lv_iload_n hx hb d_Mo_end_170 rfl (lv_at hl 2 rfl) ?_
            refine ziald hx hb B 24 0 (wa_24 κ τ) rfl w rfl (by omega) (by decide) d_Mo_end_171 ?_
            refine ziast hx hb B 24 0 (wa_24 κ τ) rfl w rfl (by omega) (by decide) (ws_24 κ τ w (τ.1 27 w)) d_Mo_end_172 (fun H locs B => ?_)
            have B : BA κ A s.heap s (zi τ 27 w (τ.1 27 w)) H locs := B
            refine lv_iinc (v := nI (k + 1)) (lv' := [(2, .int (nI (k + 1))), (3, .int (0)), (0, .ref (aA κ 21)), (1, .int (nI w))]) hx hb d_Mo_end_173 hl (k := 3) rfl (zinc _) (by decide) rfl (fun ls hl => ?_)
            refine lv_goto (tgt := 98) hx hb d_Mo_end_176 (by decide) ?_
            exact ih (k + 1) (zi τ 27 w (τ.1 27 w)) (by omega) (by rw [hin]; simp [zit, fm_end2u, c_10, c_11]) hI _ _ B ls (lv_sub hl [2, 3, 0] rfl)
          · exact absurd c_12 (by decide)
        · refine lv_aload_n hx hb d_Mo_end_120 rfl (lv_at hl 0 rfl) ?_
          refine va_get (D := κ.1) (ci := 6) (v := .ref (aA κ 24)) (C := "UnitThreadsModel") (T := T_Mo) (N := 26) hx hb hts in_Mo hown B.1 B.2.1 21 (wa_21 κ τ) rfl 5 (by decide) (hts _ w_413) (fun _ h9 => h9) rfl d_Mo_end_121 ?_
          refine lv_iload_n hx hb d_Mo_end_124 rfl (lv_at hl 1 rfl) ?_
          refine ziald hx hb B 24 0 (wa_24 κ τ) rfl w rfl (by omega) (by decide) d_Mo_end_125 ?_
          refine lv_iconst (v := (-1)) hx hb d_Mo_end_126 (by decide) ?_
          refine lv_icmp_ne (tgt := 151) hx hb d_Mo_end_127 (by decide) (fun c_13 => ?_) (fun c_13 => ?_)
          · refine lv_iconst (v := 0) hx hb d_Mo_end_151 (by decide) ?_
            refine lv_istore_n (lv' := [(3, .int (0)), (0, .ref (aA κ 21)), (1, .int (nI w)), (2, .int (nI k))]) hx hb d_Mo_end_152 rfl hl (by decide) rfl (fun ls hl => ?_)
            refine lv_aload_n hx hb d_Mo_end_153 rfl (lv_at hl 1 rfl) ?_
            refine va_get (D := κ.1) (ci := 6) (v := .ref (aA κ 24)) (C := "UnitThreadsModel") (T := T_Mo) (N := 26) hx hb hts in_Mo hown B.1 B.2.1 21 (wa_21 κ τ) rfl 5 (by decide) (hts _ w_413) (fun _ h9 => h9) rfl d_Mo_end_154 ?_
            refine lv_iload_n hx hb d_Mo_end_157 rfl (lv_at hl 2 rfl) ?_
            refine lv_iload_n hx hb d_Mo_end_158 rfl (lv_at hl 0 rfl) ?_
            refine lv_if_eq (tgt := 166) hx hb d_Mo_end_159 (by decide) (fun c_14 => ?_) (fun c_14 => ?_)
            · refine lv_aload_n hx hb d_Mo_end_166 rfl (lv_at hl 1 rfl) ?_
              refine va_get (D := κ.1) (ci := 6) (v := .ref (aA κ 24)) (C := "UnitThreadsModel") (T := T_Mo) (N := 26) hx hb hts in_Mo hown B.1 B.2.1 21 (wa_21 κ τ) rfl 5 (by decide) (hts _ w_413) (fun _ h9 => h9) rfl d_Mo_end_167 ?_
              refine lv_iload_n hx hb d_Mo_end_170 rfl (lv_at hl 2 rfl) ?_
              refine ziald hx hb B 24 0 (wa_24 κ τ) rfl w rfl (by omega) (by decide) d_Mo_end_171 ?_
              refine ziast hx hb B 24 0 (wa_24 κ τ) rfl w rfl (by omega) (by decide) (ws_24 κ τ w (τ.1 27 w)) d_Mo_end_172 (fun H locs B => ?_)
              have B : BA κ A s.heap s (zi τ 27 w (τ.1 27 w)) H locs := B
              refine lv_iinc (v := nI (k + 1)) (lv' := [(2, .int (nI (k + 1))), (3, .int (0)), (0, .ref (aA κ 21)), (1, .int (nI w))]) hx hb d_Mo_end_173 hl (k := 3) rfl (zinc _) (by decide) rfl (fun ls hl => ?_)
              refine lv_goto (tgt := 98) hx hb d_Mo_end_176 (by decide) ?_
              exact ih (k + 1) (zi τ 27 w (τ.1 27 w)) (by omega) (by rw [hin]; simp [zit, fm_end2u, c_10, c_11, c_13]) hI _ _ B ls (lv_sub hl [2, 3, 0] rfl)
            · exact absurd c_14 (by decide)
          · refine lv_aload_n hx hb d_Mo_end_130 rfl (lv_at hl 0 rfl) ?_
            refine va_get (D := κ.1) (ci := 6) (v := .ref (aA κ 27)) (C := "UnitThreadsModel") (T := T_Mo) (N := 26) hx hb hts in_Mo hown B.1 B.2.1 21 (wa_21 κ τ) rfl 8 (by decide) (hts _ w_416) (fun _ h9 => h9) rfl d_Mo_end_131 ?_
            refine lv_bipush (v := nI 16) hx hb d_Mo_end_134 (by decide) ?_
            refine lv_aload_n hx hb d_Mo_end_136 rfl (lv_at hl 0 rfl) ?_
            refine va_get (D := κ.1) (ci := 6) (v := .int (τ.1 26 0)) (C := "UnitThreadsModel") (T := T_Mo) (N := 26) hx hb hts in_Mo hown B.1 B.2.1 21 (wa_21 κ τ) rfl 2 (by decide) (hts _ w_410) (fun _ h9 => h9) rfl d_Mo_end_137 ?_
            refine zrwi (y := nI b) (hI.2.2.2.1) ?_
            refine lv_imul hx hb d_Mo_end_140 ?_
            refine zrwi (y := nI (16 * b)) (pk_mul _ _) ?_
            refine lv_iload_n hx hb d_Mo_end_141 rfl (lv_at hl 1 rfl) ?_
            refine lv_iadd hx hb d_Mo_end_142 ?_
            refine zrwi (y := nI (16 * b + w)) (nI_add _ _) ?_
            refine zzald hx hb B 27 3 (wa_27 κ τ) rfl (16 * b + w) rfl (by omega) (by decide) d_Mo_end_143 ?_
            refine lv_if_ne (tgt := 151) hx hb d_Mo_end_144 (by decide) (fun c_15 => ?_) (fun c_15 => ?_)
            · refine lv_iconst (v := 0) hx hb d_Mo_end_151 (by decide) ?_
              refine lv_istore_n (lv' := [(3, .int (0)), (0, .ref (aA κ 21)), (1, .int (nI w)), (2, .int (nI k))]) hx hb d_Mo_end_152 rfl hl (by decide) rfl (fun ls hl => ?_)
              refine lv_aload_n hx hb d_Mo_end_153 rfl (lv_at hl 1 rfl) ?_
              refine va_get (D := κ.1) (ci := 6) (v := .ref (aA κ 24)) (C := "UnitThreadsModel") (T := T_Mo) (N := 26) hx hb hts in_Mo hown B.1 B.2.1 21 (wa_21 κ τ) rfl 5 (by decide) (hts _ w_413) (fun _ h9 => h9) rfl d_Mo_end_154 ?_
              refine lv_iload_n hx hb d_Mo_end_157 rfl (lv_at hl 2 rfl) ?_
              refine lv_iload_n hx hb d_Mo_end_158 rfl (lv_at hl 0 rfl) ?_
              refine lv_if_eq (tgt := 166) hx hb d_Mo_end_159 (by decide) (fun c_16 => ?_) (fun c_16 => ?_)
              · refine lv_aload_n hx hb d_Mo_end_166 rfl (lv_at hl 1 rfl) ?_
                refine va_get (D := κ.1) (ci := 6) (v := .ref (aA κ 24)) (C := "UnitThreadsModel") (T := T_Mo) (N := 26) hx hb hts in_Mo hown B.1 B.2.1 21 (wa_21 κ τ) rfl 5 (by decide) (hts _ w_413) (fun _ h9 => h9) rfl d_Mo_end_167 ?_
                refine lv_iload_n hx hb d_Mo_end_170 rfl (lv_at hl 2 rfl) ?_
                refine ziald hx hb B 24 0 (wa_24 κ τ) rfl w rfl (by omega) (by decide) d_Mo_end_171 ?_
                refine ziast hx hb B 24 0 (wa_24 κ τ) rfl w rfl (by omega) (by decide) (ws_24 κ τ w (τ.1 27 w)) d_Mo_end_172 (fun H locs B => ?_)
                have B : BA κ A s.heap s (zi τ 27 w (τ.1 27 w)) H locs := B
                refine lv_iinc (v := nI (k + 1)) (lv' := [(2, .int (nI (k + 1))), (3, .int (0)), (0, .ref (aA κ 21)), (1, .int (nI w))]) hx hb d_Mo_end_173 hl (k := 3) rfl (zinc _) (by decide) rfl (fun ls hl => ?_)
                refine lv_goto (tgt := 98) hx hb d_Mo_end_176 (by decide) ?_
                exact ih (k + 1) (zi τ 27 w (τ.1 27 w)) (by omega) (by rw [hin]; simp [zit, fm_end2u, c_10, c_11, c_13, c_15]) hI _ _ B ls (lv_sub hl [2, 3, 0] rfl)
              · exact absurd c_16 (by decide)
            · refine lv_iconst (v := 1) hx hb d_Mo_end_147 (by decide) ?_
              refine lv_goto (tgt := 152) hx hb d_Mo_end_148 (by decide) ?_
              refine lv_istore_n (lv' := [(3, .int (1)), (0, .ref (aA κ 21)), (1, .int (nI w)), (2, .int (nI k))]) hx hb d_Mo_end_152 rfl hl (by decide) rfl (fun ls hl => ?_)
              refine lv_aload_n hx hb d_Mo_end_153 rfl (lv_at hl 1 rfl) ?_
              refine va_get (D := κ.1) (ci := 6) (v := .ref (aA κ 24)) (C := "UnitThreadsModel") (T := T_Mo) (N := 26) hx hb hts in_Mo hown B.1 B.2.1 21 (wa_21 κ τ) rfl 5 (by decide) (hts _ w_413) (fun _ h9 => h9) rfl d_Mo_end_154 ?_
              refine lv_iload_n hx hb d_Mo_end_157 rfl (lv_at hl 2 rfl) ?_
              refine lv_iload_n hx hb d_Mo_end_158 rfl (lv_at hl 0 rfl) ?_
              refine lv_if_eq (tgt := 166) hx hb d_Mo_end_159 (by decide) (fun c_17 => ?_) (fun c_17 => ?_)
              · exact absurd c_17 (by decide)
              · refine lv_iload_n hx hb d_Mo_end_162 rfl (lv_at hl 3 rfl) ?_
                refine lv_goto (tgt := 172) hx hb d_Mo_end_163 (by decide) ?_
                refine ziast hx hb B 24 0 (wa_24 κ τ) rfl w rfl (by omega) (by decide) (ws_24 κ τ w (nI k)) d_Mo_end_172 (fun H locs B => ?_)
                have B : BA κ A s.heap s (zi τ 27 w (nI k)) H locs := B
                refine lv_iinc (v := nI (k + 1)) (lv' := [(2, .int (nI (k + 1))), (3, .int (1)), (0, .ref (aA κ 21)), (1, .int (nI w))]) hx hb d_Mo_end_173 hl (k := 3) rfl (zinc _) (by decide) rfl (fun ls hl => ?_)
                refine lv_goto (tgt := 98) hx hb d_Mo_end_176 (by decide) ?_
                exact ih (k + 1) (zi τ 27 w (nI k)) (by omega) (by rw [hin]; simp [zit, fm_end2u, c_10, c_11, c_13, c_15]) hI _ _ B ls (lv_sub hl [2, 3, 0] rfl)
  have L_90 : ∀ (j : Nat) (w : Nat) (τ : zS), (w + j = 16) → (fm_end (nA κ) E b t σ = fm_endF b (zit (fm_end3 E t) (nA κ) 0 (zit (fm_end2 (nA κ) b) j w τ))) → (InvM E b t τ) → ∀ (H : Heap) (locs : List Loc), BA κ A s.heap s τ H locs → ∀ (ls : Array Slot), lv_has ls 4 [(0, .ref (aA κ 21)), (1, .int (nI w))] → W p l e (headSpec (zws y_Mo_end prog_8_method_22_code 4 none) ({ frames := 3, cells := 0, slots := 0, locals := 68 })).room s m [.ref (aA κ 21)].toArray below meth c H locs 0 0 (MQ below (va_Qv (fun σ' => σ' = fm_end (nA κ) E b t σ) (zQ κ.1 vwCl (tysA κ) (wA κ) A) A) [.ref (aA κ 21)].toArray s 0 0 A) (F0 m 90 ls []) := by
    intro j
    induction j with
    | zero =>
      intro w τ hj hst hI H locs B ls hl
      refine lv_iload_n hx hb d_Mo_end_90 rfl (lv_at hl 1 rfl) ?_
      refine lv_bipush (v := nI 16) hx hb d_Mo_end_91 (by decide) ?_
      refine lv_icmp_ge (tgt := 185) hx hb d_Mo_end_93 (by decide) (fun c_18 => ?_) (fun c_18 => ?_)
      · have c_18 := (nI_leI (a := 16) (b := w) (by omega) (by omega)).mp c_18
        refine lv_iconst (v := nI 0) hx hb d_Mo_end_185 (by decide) ?_
        refine lv_istore_n (lv' := [(1, .int (nI 0)), (0, .ref (aA κ 21))]) hx hb d_Mo_end_186 rfl hl (by decide) rfl (fun ls hl => ?_)
        exact L_187 (nA κ) 0 τ (by omega) hst hI _ _ B ls (lv_sub hl [1, 0] rfl)
      · have c_18 := (not_congr (nI_leI (a := 16) (b := w) (by omega) (by omega))).mp c_18
        exact absurd c_18 (by omega)
    | succ j ih =>
      intro w τ hj hst hI H locs B ls hl
      refine lv_iload_n hx hb d_Mo_end_90 rfl (lv_at hl 1 rfl) ?_
      refine lv_bipush (v := nI 16) hx hb d_Mo_end_91 (by decide) ?_
      refine lv_icmp_ge (tgt := 185) hx hb d_Mo_end_93 (by decide) (fun c_19 => ?_) (fun c_19 => ?_)
      · have c_19 := (nI_leI (a := 16) (b := w) (by omega) (by omega)).mp c_19
        exact absurd c_19 (by omega)
      · have c_19 := (not_congr (nI_leI (a := 16) (b := w) (by omega) (by omega))).mp c_19
        refine lv_iconst (v := nI 0) hx hb d_Mo_end_96 (by decide) ?_
        refine lv_istore_n (lv' := [(2, .int (nI 0)), (0, .ref (aA κ 21)), (1, .int (nI w))]) hx hb d_Mo_end_97 rfl hl (by decide) rfl (fun ls hl => ?_)
        refine L_98 w τ (by omega) ?_ (nA κ) 0 τ (by omega) rfl hI _ _ B ls (lv_sub hl [1, 2, 0] rfl)
        intro  hI H locs B ls hl
        have hl : lv_has ls 4 [(0, .ref (aA κ 21)), (1, .int (nI w))] := hl
        have B : BA κ A s.heap s (fm_end2 (nA κ) b w τ) H locs := B
        refine lv_iinc (v := nI (w + 1)) (lv' := [(1, .int (nI (w + 1))), (0, .ref (aA κ 21))]) hx hb d_Mo_end_179 hl (k := 1) rfl (zinc _) (by decide) rfl (fun ls hl => ?_)
        refine lv_goto (tgt := 90) hx hb d_Mo_end_182 (by decide) ?_
        exact ih (w + 1) (fm_end2 (nA κ) b w τ) (by omega) hst hI _ _ B ls (lv_sub hl [1, 0] rfl)
  have L_55 : ∀ (k : Nat) (τ0 : zS) (hk8 : k < nA κ), (∀ (H : Heap) (locs : List Loc), BA κ A s.heap s (zit fm_safe1 4 (4 * k) τ0) H locs → ∀ (ls : Array Slot), lv_has ls 4 [(0, .ref (aA κ 21)), (1, .int (nI k))] → W p l e (headSpec (zws y_Mo_end prog_8_method_22_code 4 none) ({ frames := 3, cells := 0, slots := 0, locals := 68 })).room s m [.ref (aA κ 21)].toArray below meth c H locs 0 0 (MQ below (va_Qv (fun σ' => σ' = fm_end (nA κ) E b t σ) (zQ κ.1 vwCl (tysA κ) (wA κ) A) A) [.ref (aA κ 21)].toArray s 0 0 A) (F0 m 82 ls [])) → ∀ (j : Nat) (i : Nat) (τ : zS), (i + j = 4 * k + 4) → (zit fm_safe1 4 (4 * k) τ0 = zit fm_safe1 j i τ) → ∀ (H : Heap) (locs : List Loc), BA κ A s.heap s τ H locs → ∀ (ls : Array Slot), lv_has ls 4 [(0, .ref (aA κ 21)), (1, .int (nI k)), (2, .int (nI i))] → W p l e (headSpec (zws y_Mo_end prog_8_method_22_code 4 none) ({ frames := 3, cells := 0, slots := 0, locals := 68 })).room s m [.ref (aA κ 21)].toArray below meth c H locs 0 0 (MQ below (va_Qv (fun σ' => σ' = fm_end (nA κ) E b t σ) (zQ κ.1 vwCl (tysA κ) (wA κ) A) A) [.ref (aA κ 21)].toArray s 0 0 A) (F0 m 55 ls []) := by
    intro k τ0 hk8
    intro hk
    intro j
    induction j with
    | zero =>
      intro i τ hj hin H locs B ls hl
      refine lv_iload_n hx hb d_Mo_end_55 rfl (lv_at hl 2 rfl) ?_
      refine lv_iconst (v := nI 4) hx hb d_Mo_end_56 (by decide) ?_
      refine lv_iload_n hx hb d_Mo_end_57 rfl (lv_at hl 1 rfl) ?_
      refine lv_imul hx hb d_Mo_end_58 ?_
      refine zrwi (y := nI (4 * k)) (pk_mul _ _) ?_
      refine lv_iconst (v := nI 4) hx hb d_Mo_end_59 (by decide) ?_
      refine lv_iadd hx hb d_Mo_end_60 ?_
      refine zrwi (y := nI (4 * k + 4)) (nI_add _ _) ?_
      refine lv_icmp_ge (tgt := 82) hx hb d_Mo_end_61 (by decide) (fun c_20 => ?_) (fun c_20 => ?_)
      · have c_20 := (nI_leI (a := 4 * k + 4) (b := i) (by omega) (by omega)).mp c_20
        have B : BA κ A s.heap s (zit fm_safe1 4 (4 * k) τ0) H locs := by first | exact B | (rw [hin]; exact B)
        exact hk   _ _ B ls (lv_sub hl [0, 1] rfl)
      · have c_20 := (not_congr (nI_leI (a := 4 * k + 4) (b := i) (by omega) (by omega))).mp c_20
        exact absurd c_20 (by omega)
    | succ j ih =>
      intro i τ hj hin H locs B ls hl
      refine lv_iload_n hx hb d_Mo_end_55 rfl (lv_at hl 2 rfl) ?_
      refine lv_iconst (v := nI 4) hx hb d_Mo_end_56 (by decide) ?_
      refine lv_iload_n hx hb d_Mo_end_57 rfl (lv_at hl 1 rfl) ?_
      refine lv_imul hx hb d_Mo_end_58 ?_
      refine zrwi (y := nI (4 * k)) (pk_mul _ _) ?_
      refine lv_iconst (v := nI 4) hx hb d_Mo_end_59 (by decide) ?_
      refine lv_iadd hx hb d_Mo_end_60 ?_
      refine zrwi (y := nI (4 * k + 4)) (nI_add _ _) ?_
      refine lv_icmp_ge (tgt := 82) hx hb d_Mo_end_61 (by decide) (fun c_21 => ?_) (fun c_21 => ?_)
      · have c_21 := (nI_leI (a := 4 * k + 4) (b := i) (by omega) (by omega)).mp c_21
        exact absurd c_21 (by omega)
      · have c_21 := (not_congr (nI_leI (a := 4 * k + 4) (b := i) (by omega) (by omega))).mp c_21
        refine lv_aload_n hx hb d_Mo_end_64 rfl (lv_at hl 0 rfl) ?_
        refine va_get (D := κ.1) (ci := 6) (v := .ref (aA κ 22)) (C := "UnitThreadsModel") (T := T_Mo) (N := 26) hx hb hts in_Mo hown B.1 B.2.1 21 (wa_21 κ τ) rfl 3 (by decide) (hts _ w_411) (fun _ h9 => h9) rfl d_Mo_end_65 ?_
        refine lv_iload_n hx hb d_Mo_end_68 rfl (lv_at hl 2 rfl) ?_
        refine lv_aload_n hx hb d_Mo_end_69 rfl (lv_at hl 0 rfl) ?_
        refine va_get (D := κ.1) (ci := 6) (v := .ref (aA κ 23)) (C := "UnitThreadsModel") (T := T_Mo) (N := 26) hx hb hts in_Mo hown B.1 B.2.1 21 (wa_21 κ τ) rfl 4 (by decide) (hts _ w_412) (fun _ h9 => h9) rfl d_Mo_end_70 ?_
        refine lv_iload_n hx hb d_Mo_end_73 rfl (lv_at hl 2 rfl) ?_
        refine zlald hx hb B 23 1 (wa_23 κ τ) rfl i rfl (by omega) (by decide) d_Mo_end_74 ?_
        refine zlast hx hb B 22 1 (wa_22 κ τ) rfl i rfl (by omega) (by decide) (ws_22 κ τ i (τ.2 6 i)) d_Mo_end_75 (fun H locs B => ?_)
        have B : BA κ A s.heap s (zl τ 5 i (τ.2 6 i)) H locs := B
        refine lv_iinc (v := nI (i + 1)) (lv' := [(2, .int (nI (i + 1))), (0, .ref (aA κ 21)), (1, .int (nI k))]) hx hb d_Mo_end_76 hl (k := 2) rfl (zinc _) (by decide) rfl (fun ls hl => ?_)
        refine lv_goto (tgt := 55) hx hb d_Mo_end_79 (by decide) ?_
        exact ih (i + 1) (zl τ 5 i (τ.2 6 i)) (by omega) hin _ _ B ls (lv_sub hl [1, 2, 0] rfl)
  have L_2 : ∀ (j : Nat) (k : Nat) (τ : zS), (k + j = nA κ) → (fm_end (nA κ) E b t σ = fm_endF b (zit (fm_end3 E t) (nA κ) 0 (zit (fm_end2 (nA κ) b) 16 0 (zit (fm_end1 t) j k τ)))) → (InvM E b t τ) → ∀ (H : Heap) (locs : List Loc), BA κ A s.heap s τ H locs → ∀ (ls : Array Slot), lv_has ls 4 [(0, .ref (aA κ 21)), (1, .int (nI k))] → W p l e (headSpec (zws y_Mo_end prog_8_method_22_code 4 none) ({ frames := 3, cells := 0, slots := 0, locals := 68 })).room s m [.ref (aA κ 21)].toArray below meth c H locs 0 0 (MQ below (va_Qv (fun σ' => σ' = fm_end (nA κ) E b t σ) (zQ κ.1 vwCl (tysA κ) (wA κ) A) A) [.ref (aA κ 21)].toArray s 0 0 A) (F0 m 2 ls []) := by
    intro j
    induction j with
    | zero =>
      intro k τ hj hst hI H locs B ls hl
      refine lv_iload_n hx hb d_Mo_end_2 rfl (lv_at hl 1 rfl) ?_
      refine lv_aload_n hx hb d_Mo_end_3 rfl (lv_at hl 0 rfl) ?_
      refine va_get (D := κ.1) (ci := 6) (v := .int (nI (nA κ))) (C := "UnitThreadsModel") (T := T_Mo) (N := 26) hx hb hts in_Mo hown B.1 B.2.1 21 (wa_21 κ τ) rfl 0 (by decide) (hts _ w_408) (fun _ h9 => h9) rfl d_Mo_end_4 ?_
      refine lv_icmp_ge (tgt := 88) hx hb d_Mo_end_7 (by decide) (fun c_22 => ?_) (fun c_22 => ?_)
      · have c_22 := (nI_leI (a := nA κ) (b := k) (by omega) (by omega)).mp c_22
        refine lv_iconst (v := nI 0) hx hb d_Mo_end_88 (by decide) ?_
        refine lv_istore_n (lv' := [(1, .int (nI 0)), (0, .ref (aA κ 21))]) hx hb d_Mo_end_89 rfl hl (by decide) rfl (fun ls hl => ?_)
        exact L_90 16 0 τ (by omega) hst hI _ _ B ls (lv_sub hl [1, 0] rfl)
      · have c_22 := (not_congr (nI_leI (a := nA κ) (b := k) (by omega) (by omega))).mp c_22
        exact absurd c_22 (by omega)
    | succ j ih =>
      intro k τ hj hst hI H locs B ls hl
      refine lv_iload_n hx hb d_Mo_end_2 rfl (lv_at hl 1 rfl) ?_
      refine lv_aload_n hx hb d_Mo_end_3 rfl (lv_at hl 0 rfl) ?_
      refine va_get (D := κ.1) (ci := 6) (v := .int (nI (nA κ))) (C := "UnitThreadsModel") (T := T_Mo) (N := 26) hx hb hts in_Mo hown B.1 B.2.1 21 (wa_21 κ τ) rfl 0 (by decide) (hts _ w_408) (fun _ h9 => h9) rfl d_Mo_end_4 ?_
      refine lv_icmp_ge (tgt := 88) hx hb d_Mo_end_7 (by decide) (fun c_23 => ?_) (fun c_23 => ?_)
      · have c_23 := (nI_leI (a := nA κ) (b := k) (by omega) (by omega)).mp c_23
        exact absurd c_23 (by omega)
      · have c_23 := (not_congr (nI_leI (a := nA κ) (b := k) (by omega) (by omega))).mp c_23
        refine lv_aload_n hx hb d_Mo_end_10 rfl (lv_at hl 0 rfl) ?_
        refine va_get (D := κ.1) (ci := 6) (v := .ref (aA κ 39)) (C := "UnitThreadsModel") (T := T_Mo) (N := 26) hx hb hts in_Mo hown B.1 B.2.1 21 (wa_21 κ τ) rfl 22 (by decide) (hts _ w_430) (fun _ h9 => h9) rfl d_Mo_end_11 ?_
        refine lv_iload_n hx hb d_Mo_end_14 rfl (lv_at hl 1 rfl) ?_
        refine zzald hx hb B 39 3 (wa_39 κ τ) rfl k rfl (by omega) (by decide) d_Mo_end_15 ?_
        refine lv_if_eq (tgt := 82) hx hb d_Mo_end_16 (by decide) (fun c_24 => ?_) (fun c_24 => ?_)
        · refine lv_iinc (v := nI (k + 1)) (lv' := [(1, .int (nI (k + 1))), (0, .ref (aA κ 21))]) hx hb d_Mo_end_82 hl (k := 1) rfl (zinc _) (by decide) rfl (fun ls hl => ?_)
          refine lv_goto (tgt := 2) hx hb d_Mo_end_85 (by decide) ?_
          exact ih (k + 1) τ (by omega) (by rw [hst]; simp [zit, fm_end1, c_23, c_24]) hI _ _ B ls (lv_sub hl [1, 0] rfl)
        · refine lv_aload_n hx hb d_Mo_end_19 rfl (lv_at hl 0 rfl) ?_
          refine va_get (D := κ.1) (ci := 6) (v := .ref (aA κ 41)) (C := "UnitThreadsModel") (T := T_Mo) (N := 26) hx hb hts in_Mo hown B.1 B.2.1 21 (wa_21 κ τ) rfl 24 (by decide) (hts _ w_432) (fun _ h9 => h9) rfl d_Mo_end_20 ?_
          refine lv_iload_n hx hb d_Mo_end_23 rfl (lv_at hl 1 rfl) ?_
          refine zzald hx hb B 41 3 (wa_41 κ τ) rfl k rfl (by omega) (by decide) d_Mo_end_24 ?_
          refine lv_if_eq (tgt := 82) hx hb d_Mo_end_25 (by decide) (fun c_25 => ?_) (fun c_25 => ?_)
          · refine lv_iinc (v := nI (k + 1)) (lv' := [(1, .int (nI (k + 1))), (0, .ref (aA κ 21))]) hx hb d_Mo_end_82 hl (k := 1) rfl (zinc _) (by decide) rfl (fun ls hl => ?_)
            refine lv_goto (tgt := 2) hx hb d_Mo_end_85 (by decide) ?_
            exact ih (k + 1) τ (by omega) (by rw [hst]; simp [zit, fm_end1, c_23, c_24, c_25]) hI _ _ B ls (lv_sub hl [1, 0] rfl)
          · refine lv_aload_n hx hb d_Mo_end_28 rfl (lv_at hl 0 rfl) ?_
            refine va_get (D := κ.1) (ci := 6) (v := .ref (aA κ 35)) (C := "UnitThreadsModel") (T := T_Mo) (N := 26) hx hb hts in_Mo hown B.1 B.2.1 21 (wa_21 κ τ) rfl 17 (by decide) (hts _ w_425) (fun _ h9 => h9) rfl d_Mo_end_29 ?_
            refine lv_iload_n hx hb d_Mo_end_32 rfl (lv_at hl 1 rfl) ?_
            refine lv_aload_n hx hb d_Mo_end_33 rfl (lv_at hl 0 rfl) ?_
            refine va_get (D := κ.1) (ci := 6) (v := .int (τ.1 26 0)) (C := "UnitThreadsModel") (T := T_Mo) (N := 26) hx hb hts in_Mo hown B.1 B.2.1 21 (wa_21 κ τ) rfl 2 (by decide) (hts _ w_410) (fun _ h9 => h9) rfl d_Mo_end_34 ?_
            refine ziast hx hb B 35 0 (wa_35 κ τ) rfl k rfl (by omega) (by decide) (ws_35 κ τ k (τ.1 26 0)) d_Mo_end_37 (fun H locs B => ?_)
            have B : BA κ A s.heap s (zi τ 37 k (τ.1 26 0)) H locs := B
            refine lv_aload_n hx hb d_Mo_end_38 rfl (lv_at hl 0 rfl) ?_
            refine va_get (D := κ.1) (ci := 6) (v := .ref (aA κ 34)) (C := "UnitThreadsModel") (T := T_Mo) (N := 26) hx hb hts in_Mo hown B.1 B.2.1 21 (wa_21 κ (zi τ 37 k (τ.1 26 0))) rfl 16 (by decide) (hts _ w_424) (fun _ h9 => h9) rfl d_Mo_end_39 ?_
            refine lv_iload_n hx hb d_Mo_end_42 rfl (lv_at hl 1 rfl) ?_
            refine lv_iconst (v := 0) hx hb d_Mo_end_43 (by decide) ?_
            refine zzast hx hb B 34 3 (wa_34 κ (zi τ 37 k (τ.1 26 0))) rfl k rfl (by omega) (by decide) (y := 0) (rfl) (ws_34 κ (zi τ 37 k (τ.1 26 0)) k 0) d_Mo_end_44 (fun H locs B => ?_)
            have B : BA κ A s.heap s (zi (zi τ 37 k (τ.1 26 0)) 36 k 0) H locs := B
            refine lv_aload_n hx hb d_Mo_end_45 rfl (lv_at hl 0 rfl) ?_
            refine lv_iload_n hx hb d_Mo_end_46 rfl (lv_at hl 1 rfl) ?_
            refine lv_iconst (v := 2) hx hb d_Mo_end_47 (by decide) ?_
            refine zcV_v (As := [.int (nI k), .int (2)]) (rest := []) ⟨hx, hb, hml, hown, hts⟩ (c_Mo_tellEnd l κ (zi (zi τ 37 k (τ.1 26 0)) 36 k 0) k 2 t hI.2.2.2.2 ht5) (cwV 2 hts (zgoodV w_565 w_567 s_24 w_9 w_568) rfl rfl rfl (by decide +kernel) ⟨Nat.le_of_ble_eq_true rfl, Nat.le_of_ble_eq_true rfl⟩) B (zrecv B (ci := 6) rfl (wa_21 κ (zi (zi τ 37 k (τ.1 26 0)) 36 k 0))) rfl hl.1 rfl (Nat.le_of_ble_eq_true rfl) d_Mo_end_48 ⟨Nat.zero_le _, Nat.zero_le _⟩ (fun σ' H locs hp B => ?_)
            rw [hp] at B
            have B : BA κ A s.heap s (fm_tell k 2 t (zi (zi τ 37 k (τ.1 26 0)) 36 k 0)) H locs := B
            refine lv_iconst (v := nI 4) hx hb d_Mo_end_51 (by decide) ?_
            refine lv_iload_n hx hb d_Mo_end_52 rfl (lv_at hl 1 rfl) ?_
            refine lv_imul hx hb d_Mo_end_53 ?_
            refine zrwi (y := nI (4 * k)) (pk_mul _ _) ?_
            refine lv_istore_n (lv' := [(2, .int (nI (4 * k))), (0, .ref (aA κ 21)), (1, .int (nI k))]) hx hb d_Mo_end_54 rfl hl (by decide) rfl (fun ls hl => ?_)
            refine L_55 k (fm_tell k 2 t (zi (zi τ 37 k (τ.1 26 0)) 36 k 0)) (by omega) ?_ 4 (4 * k) (fm_tell k 2 t (zi (zi τ 37 k (τ.1 26 0)) 36 k 0)) (by omega) rfl _ _ B ls (lv_sub hl [1, 2, 0] rfl)
            intro   H locs B ls hl
            have hl : lv_has ls 4 [(0, .ref (aA κ 21)), (1, .int (nI k))] := hl
            have B : BA κ A s.heap s (zit fm_safe1 4 (4 * k) (fm_tell k 2 t (zi (zi τ 37 k (τ.1 26 0)) 36 k 0))) H locs := B
            refine lv_iinc (v := nI (k + 1)) (lv' := [(1, .int (nI (k + 1))), (0, .ref (aA κ 21))]) hx hb d_Mo_end_82 hl (k := 1) rfl (zinc _) (by decide) rfl (fun ls hl => ?_)
            refine lv_goto (tgt := 2) hx hb d_Mo_end_85 (by decide) ?_
            exact ih (k + 1) (zit fm_safe1 4 (4 * k) (fm_tell k 2 t (zi (zi τ 37 k (τ.1 26 0)) 36 k 0))) (by omega) (by rw [hst]; simp [zit, fm_end1, c_23, c_24, c_25]) (by have h := InvM_end1 (t1 := t) (u := k) hI; rw [fm_end1, if_pos ⟨c_24, c_25⟩] at h; exact h) _ _ B ls (lv_sub hl [1, 0] rfl)
  refine lv_iconst (v := nI 0) hx hb d_Mo_end_0 (by decide) ?_
  refine lv_istore_n (lv' := [(1, .int (nI 0)), (0, .ref (aA κ 21))]) hx hb d_Mo_end_1 rfl hl (by decide) rfl (fun ls hl => ?_)
  exact L_2 (nA κ) 0 σ (by omega) rfl hI _ _ B ls (lv_sub hl [1, 0] rfl)
set_option maxHeartbeats 4000000 in
set_option maxRecDepth 100000 in
theorem c_Mo_play (l : Launch) (κ : KA) (σ : zS) (v : Int64) (p2 : Int32) (hn : nA κ ≤ 8) (E b t : Nat) (hE3 : E ≤ 300) (hI : InvM E b t σ) (hb64 : b ≤ 64) (htb : t ≤ nA κ * b) : zMi l y_Mo_play (zws y_Mo_play prog_8_method_23_code 8 (some .int)) ({ frames := 4, cells := 0, slots := 0, locals := 91 }) κ.1 vwCl (tysA κ) nwA (wA κ) σ [.ref (aA κ 21), .long (v), .int (p2)] (fun r σ' => r = fm_playR (nA κ) E b t σ v p2 ∧ σ' = fm_playS (nA κ) E b t σ v p2) := by
  refine zintro (cc := prog_8_method_23_code) (maxL := 8) (ret := (some .int)) (by decide) rfl (Nat.le_of_ble_eq_true rfl) ?_
  intro p e s m below meth c ls hx hb hr hml hts hown hlocks hl B
  have hl : lv_has ls 8 [(0, .ref (aA κ 21)), (1, .long (v)), (3, .int (p2))] := hl
  have B : BA κ (va_A (wA κ σ) s.heap.size) s.heap s σ s.heap [] := B
  have hr : meth.sig.returnType = (some .int) := hr
  have hown : s.vm.findClass "UnitThreadsModel" = some m.cls := hown
  show W p l e (headSpec (zws y_Mo_play prog_8_method_23_code 8 (some .int)) ({ frames := 4, cells := 0, slots := 0, locals := 91 })).room s m [.ref (aA κ 21), .long (v), .int (p2)].toArray below meth c s.heap [] 0 0 (MQ below (va_Qi (fun r σ' => r = fm_playR (nA κ) E b t σ v p2 ∧ σ' = fm_playS (nA κ) E b t σ v p2) (zQ κ.1 vwCl (tysA κ) (wA κ) (va_A (wA κ σ) s.heap.size)) (va_A (wA κ σ) s.heap.size)) [.ref (aA κ 21), .long (v), .int (p2)].toArray s 0 0 (va_A (wA κ σ) s.heap.size)) (F0 m 0 ls [])
  generalize va_A (wA κ σ) s.heap.size = A at B ⊢
  have hts : ∀ w ∈ zW, w.before [.ref (aA κ 21), .long (v), .int (p2)].toArray s = true := fun w h => hts w (List.mem_cons_of_mem _ h)
  have L_50 : ∀ (k : Nat) (g : Int64) (τ0 : zS), (∀ (H : Heap) (locs : List Loc), BA κ A s.heap s (zit fm_ask0 128 0 τ0) H locs → ∀ (ls : Array Slot), lv_has ls 8 [(0, .ref (aA κ 21)), (1, .long (v)), (3, .int (p2)), (4, .long (g)), (6, .int (nI k))] → W p l e (headSpec (zws y_Mo_play prog_8_method_23_code 8 (some .int)) ({ frames := 4, cells := 0, slots := 0, locals := 91 })).room s m [.ref (aA κ 21), .long (v), .int (p2)].toArray below meth c H locs 0 0 (MQ below (va_Qi (fun r σ' => r = fm_playR (nA κ) E b t σ v p2 ∧ σ' = fm_playS (nA κ) E b t σ v p2) (zQ κ.1 vwCl (tysA κ) (wA κ) A) A) [.ref (aA κ 21), .long (v), .int (p2)].toArray s 0 0 A) (F0 m 72 ls [])) → ∀ (j : Nat) (i : Nat) (τ : zS), (i + j = 128) → (zit fm_ask0 128 0 τ0 = zit fm_ask0 j i τ) → ∀ (H : Heap) (locs : List Loc), BA κ A s.heap s τ H locs → ∀ (ls : Array Slot), lv_has ls 8 [(0, .ref (aA κ 21)), (1, .long (v)), (3, .int (p2)), (4, .long (g)), (6, .int (nI k)), (7, .int (nI i))] → W p l e (headSpec (zws y_Mo_play prog_8_method_23_code 8 (some .int)) ({ frames := 4, cells := 0, slots := 0, locals := 91 })).room s m [.ref (aA κ 21), .long (v), .int (p2)].toArray below meth c H locs 0 0 (MQ below (va_Qi (fun r σ' => r = fm_playR (nA κ) E b t σ v p2 ∧ σ' = fm_playS (nA κ) E b t σ v p2) (zQ κ.1 vwCl (tysA κ) (wA κ) A) A) [.ref (aA κ 21), .long (v), .int (p2)].toArray s 0 0 A) (F0 m 50 ls []) := by
    intro k g τ0
    intro hk
    intro j
    induction j with
    | zero =>
      intro i τ hj hin H locs B ls hl
      refine lv_iload hx hb d_Mo_play_50 (lv_at hl 5 rfl) ?_
      refine lv_sipush (v := nI 128) hx hb d_Mo_play_52 (by decide) ?_
      refine lv_icmp_ge (tgt := 72) hx hb d_Mo_play_55 (by decide) (fun c_1 => ?_) (fun c_1 => ?_)
      · have c_1 := (nI_leI (a := 128) (b := i) (by omega) (by omega)).mp c_1
        have B : BA κ A s.heap s (zit fm_ask0 128 0 τ0) H locs := by first | exact B | (rw [hin]; exact B)
        exact hk   _ _ B ls (lv_sub hl [0, 1, 2, 3, 4] rfl)
      · have c_1 := (not_congr (nI_leI (a := 128) (b := i) (by omega) (by omega))).mp c_1
        exact absurd c_1 (by omega)
    | succ j ih =>
      intro i τ hj hin H locs B ls hl
      refine lv_iload hx hb d_Mo_play_50 (lv_at hl 5 rfl) ?_
      refine lv_sipush (v := nI 128) hx hb d_Mo_play_52 (by decide) ?_
      refine lv_icmp_ge (tgt := 72) hx hb d_Mo_play_55 (by decide) (fun c_2 => ?_) (fun c_2 => ?_)
      · have c_2 := (nI_leI (a := 128) (b := i) (by omega) (by omega)).mp c_2
        exact absurd c_2 (by omega)
      · have c_2 := (not_congr (nI_leI (a := 128) (b := i) (by omega) (by omega))).mp c_2
        refine lv_aload_n hx hb d_Mo_play_58 rfl (lv_at hl 0 rfl) ?_
        refine va_get (D := κ.1) (ci := 6) (v := .ref (aA κ 42)) (C := "UnitThreadsModel") (T := T_Mo) (N := 26) hx hb hts in_Mo hown B.1 B.2.1 21 (wa_21 κ τ) rfl 25 (by decide) (hts _ w_433) (fun _ h9 => h9) rfl d_Mo_play_59 ?_
        refine lv_iload hx hb d_Mo_play_62 (lv_at hl 5 rfl) ?_
        refine lv_iconst (v := 0) hx hb d_Mo_play_64 (by decide) ?_
        refine zzast hx hb B 42 3 (wa_42 κ τ) rfl i rfl (by omega) (by decide) (y := 0) (rfl) (ws_42 κ τ i 0) d_Mo_play_65 (fun H locs B => ?_)
        have B : BA κ A s.heap s (zi τ 45 i 0) H locs := B
        refine lv_iinc (v := nI (i + 1)) (lv' := [(7, .int (nI (i + 1))), (0, .ref (aA κ 21)), (1, .long (v)), (3, .int (p2)), (4, .long (g)), (6, .int (nI k))]) hx hb d_Mo_play_66 hl (k := 5) rfl (zinc _) (by decide) rfl (fun ls hl => ?_)
        refine lv_goto (tgt := 50) hx hb d_Mo_play_69 (by decide) ?_
        exact ih (i + 1) (zi τ 45 i 0) (by omega) hin _ _ B ls (lv_sub hl [1, 2, 3, 4, 5, 0] rfl)
  have L_25 : ∀ (j : Nat) (k : Nat) (b1 : Nat) (t1 : Nat) (g : Int64) (τ : zS), (k + j = tn p2) → (fm_in p2 0 64 = true ∧ σ.1 25 0 = 0) → (p2 = nI (tn p2)) → (tn p2 ≤ 64) → (InvM E b1 t1 τ) → (b1 ≤ 64) → (t1 ≤ nA κ * b1) → (fm_play (nA κ) E (tn p2) b t 0 v σ = fm_play (nA κ) E j b1 t1 k g τ) → ∀ (H : Heap) (locs : List Loc), BA κ A s.heap s τ H locs → ∀ (ls : Array Slot), lv_has ls 8 [(0, .ref (aA κ 21)), (1, .long (v)), (3, .int (p2)), (4, .long (g)), (6, .int (nI k))] → W p l e (headSpec (zws y_Mo_play prog_8_method_23_code 8 (some .int)) ({ frames := 4, cells := 0, slots := 0, locals := 91 })).room s m [.ref (aA κ 21), .long (v), .int (p2)].toArray below meth c H locs 0 0 (MQ below (va_Qi (fun r σ' => r = fm_playR (nA κ) E b t σ v p2 ∧ σ' = fm_playS (nA κ) E b t σ v p2) (zQ κ.1 vwCl (tysA κ) (wA κ) A) A) [.ref (aA κ 21), .long (v), .int (p2)].toArray s 0 0 A) (F0 m 25 ls []) := by
    intro j
    induction j with
    | zero =>
      intro k b1 t1 g τ hj hok hP hP6 hI hb1 htb hst H locs B ls hl
      refine lv_iload hx hb d_Mo_play_25 (lv_at hl 4 rfl) ?_
      refine lv_iload_n hx hb d_Mo_play_27 rfl (lv_at hl 2 rfl) ?_
      refine zrwi (y := nI (tn p2)) (hP) ?_
      refine lv_icmp_ge (tgt := 90) hx hb d_Mo_play_28 (by decide) (fun c_3 => ?_) (fun c_3 => ?_)
      · have c_3 := (nI_leI (a := tn p2) (b := k) (by omega) (by omega)).mp c_3
        refine lv_iload hx hb d_Mo_play_90 (lv_at hl 4 rfl) ?_
        exact zret_i hx hb hr hlocks B (mplay_ret hok hst) d_Mo_play_92
      · have c_3 := (not_congr (nI_leI (a := tn p2) (b := k) (by omega) (by omega))).mp c_3
        exact absurd c_3 (by omega)
    | succ j ih =>
      intro k b1 t1 g τ hj hok hP hP6 hI hb1 htb hst H locs B ls hl
      refine lv_iload hx hb d_Mo_play_25 (lv_at hl 4 rfl) ?_
      refine lv_iload_n hx hb d_Mo_play_27 rfl (lv_at hl 2 rfl) ?_
      refine zrwi (y := nI (tn p2)) (hP) ?_
      refine lv_icmp_ge (tgt := 90) hx hb d_Mo_play_28 (by decide) (fun c_4 => ?_) (fun c_4 => ?_)
      · have c_4 := (nI_leI (a := tn p2) (b := k) (by omega) (by omega)).mp c_4
        exact absurd c_4 (by omega)
      · have c_4 := (not_congr (nI_leI (a := tn p2) (b := k) (by omega) (by omega))).mp c_4
        refine lv_aload_n hx hb d_Mo_play_31 rfl (lv_at hl 0 rfl) ?_
        refine va_get (D := κ.1) (ci := 6) (v := .int (τ.1 26 0)) (C := "UnitThreadsModel") (T := T_Mo) (N := 26) hx hb hts in_Mo hown B.1 B.2.1 21 (wa_21 κ τ) rfl 2 (by decide) (hts _ w_410) (fun _ h9 => h9) rfl d_Mo_play_32 ?_
        refine zrwi (y := nI b1) (hI.2.2.2.1) ?_
        refine lv_bipush (v := nI 64) hx hb d_Mo_play_35 (by decide) ?_
        refine lv_icmp_ge (tgt := 90) hx hb d_Mo_play_37 (by decide) (fun c_5 => ?_) (fun c_5 => ?_)
        · have c_5 := (nI_leI (a := 64) (b := b1) (by omega) (by omega)).mp c_5
          refine lv_iload hx hb d_Mo_play_90 (lv_at hl 4 rfl) ?_
          exact zret_i hx hb hr hlocks B (mplay_ret hok (hst.trans (if_neg (fun h => h.1 c_5)))) d_Mo_play_92
        · have c_5 := (not_congr (nI_leI (a := 64) (b := b1) (by omega) (by omega))).mp c_5
          refine lv_aload_n hx hb d_Mo_play_40 rfl (lv_at hl 0 rfl) ?_
          refine zcV_i (As := []) (rest := []) ⟨hx, hb, hml, hown, hts⟩ (c_Mo_going l κ τ  hn E hI.1 hE3) (cwV 0 hts (zgoodV w_531 w_533 s_16 w_9 w_534) rfl rfl rfl (by decide +kernel) ⟨Nat.le_of_ble_eq_true rfl, Nat.le_of_ble_eq_true rfl⟩) B (zrecv B (ci := 6) rfl (wa_21 κ τ)) rfl hl.1 rfl (Nat.le_of_ble_eq_true rfl) d_Mo_play_41 ⟨Nat.zero_le _, Nat.zero_le _⟩ (fun r σ' H locs hp B => ?_)
          obtain ⟨rfl, hp⟩ := hp
          rw [hp] at B
          have B : BA κ A s.heap s τ H locs := B
          refine lv_if_le (tgt := 90) hx hb d_Mo_play_44 (by decide) (fun c_6 => ?_) (fun c_6 => ?_)
          · refine lv_iload hx hb d_Mo_play_90 (lv_at hl 4 rfl) ?_
            exact zret_i hx hb hr hlocks B (mplay_ret hok (hst.trans (if_neg (fun h => h.2 c_6)))) d_Mo_play_92
          · refine lv_iconst (v := nI 0) hx hb d_Mo_play_47 (by decide) ?_
            refine lv_istore (lv' := [(7, .int (nI 0)), (0, .ref (aA κ 21)), (1, .long (v)), (3, .int (p2)), (4, .long (g)), (6, .int (nI k))]) hx hb d_Mo_play_48 hl (by decide) rfl (fun ls hl => ?_)
            refine L_50 k g τ ?_ 128 0 τ (by omega) rfl _ _ B ls (lv_sub hl [1, 2, 3, 4, 5, 0] rfl)
            intro   H locs B ls hl
            have hl : lv_has ls 8 [(0, .ref (aA κ 21)), (1, .long (v)), (3, .int (p2)), (4, .long (g)), (6, .int (nI k))] := hl
            have B : BA κ A s.heap s (zit fm_ask0 128 0 τ) H locs := B
            refine lv_aload_n hx hb d_Mo_play_72 rfl (lv_at hl 0 rfl) ?_
            refine lv_lload hx hb d_Mo_play_73 (lv_at hl 3 rfl) ?_
            refine zcV_l (As := [.long (g)]) (rest := []) ⟨hx, hb, hml, hown, hts⟩ (c_Mo_turnsOf l κ (zit fm_ask0 128 0 τ) g hn E b1 t1 hE3 (InvM_ask0 hI) (by have h := Nat.mul_le_mul_left (nA κ) (show b1 ≤ 63 by omega); omega)) (cwV 1 hts (zgoodV w_543 w_545 s_19 w_9 w_546) rfl rfl rfl (by decide +kernel) ⟨Nat.le_of_ble_eq_true rfl, Nat.le_of_ble_eq_true rfl⟩) B (zrecv B (ci := 6) rfl (wa_21 κ (zit fm_ask0 128 0 τ))) rfl hl.1 rfl (Nat.le_of_ble_eq_true rfl) d_Mo_play_75 ⟨Nat.zero_le _, Nat.zero_le _⟩ (fun r σ' H locs hp B => ?_)
            obtain ⟨rfl, hp⟩ := hp
            rw [hp] at B
            have B : BA κ A s.heap s ((fm_turnsOf (nA κ) E t1 g (zit fm_ask0 128 0 τ)).2) H locs := B
            refine lv_lstore (lv' := [(4, .long ((fm_turnsOf (nA κ) E t1 g (zit fm_ask0 128 0 τ)).1)), (0, .ref (aA κ 21)), (1, .long (v)), (3, .int (p2)), (6, .int (nI k))]) hx hb d_Mo_play_78 hl (by decide) rfl (fun ls hl => ?_)
            refine lv_aload_n hx hb d_Mo_play_80 rfl (lv_at hl 1 rfl) ?_
            refine zcV_v (As := []) (rest := []) ⟨hx, hb, hml, hown, hts⟩ (c_Mo_end l κ ((fm_turnsOf (nA κ) E t1 g (zit fm_ask0 128 0 τ)).2)  hn E b1 (t1 + fm_T E (nA κ) τ) hE3 (InvM_turnsOf (InvM_ask0 hI)) (by omega) (by have h := Nat.mul_le_mul_left (nA κ) (show b1 ≤ 63 by omega); have h2 := fm_T_le (nA κ) E τ; omega)) (cwV 0 hts (zgoodV w_561 w_563 s_23 w_9 w_564) rfl rfl rfl (by decide +kernel) ⟨Nat.le_of_ble_eq_true rfl, Nat.le_of_ble_eq_true rfl⟩) B (zrecv B (ci := 6) rfl (wa_21 κ ((fm_turnsOf (nA κ) E t1 g (zit fm_ask0 128 0 τ)).2))) rfl hl.1 rfl (Nat.le_of_ble_eq_true rfl) d_Mo_play_81 ⟨Nat.zero_le _, Nat.zero_le _⟩ (fun σ' H locs hp B => ?_)
            rw [hp] at B
            have B : BA κ A s.heap s (fm_end (nA κ) E b1 (t1 + fm_T E (nA κ) τ) ((fm_turnsOf (nA κ) E t1 g (zit fm_ask0 128 0 τ)).2)) H locs := B
            refine lv_iinc (v := nI (k + 1)) (lv' := [(6, .int (nI (k + 1))), (4, .long ((fm_turnsOf (nA κ) E t1 g (zit fm_ask0 128 0 τ)).1)), (0, .ref (aA κ 21)), (1, .long (v)), (3, .int (p2))]) hx hb d_Mo_play_84 hl (k := 4) rfl (zinc _) (by decide) rfl (fun ls hl => ?_)
            refine lv_goto (tgt := 25) hx hb d_Mo_play_87 (by decide) ?_
            exact ih (k + 1) (b1 + 1) (t1 + fm_T E (nA κ) τ) (fm_gg (nA κ) E t1 g τ) (fm_pass (nA κ) E b1 t1 g τ) (by omega) hok hP hP6 (InvM_pass hI) (by omega) (by have h2 := fm_T_le (nA κ) E τ; rw [Nat.mul_add]; omega) (hst.trans (if_pos ⟨c_5, c_6⟩)) _ _ B ls (lv_sub hl [2, 3, 4, 1, 0] rfl)
  refine lv_iload_n hx hb d_Mo_play_0 rfl (lv_at hl 2 rfl) ?_
  refine lv_iconst (v := 0) hx hb d_Mo_play_1 (by decide) ?_
  refine lv_bipush (v := 64) hx hb d_Mo_play_2 (by decide) ?_
  refine zcS_i (As := [.int (p2), .int (0), .int (64)]) (rest := []) ⟨hx, hb, hml, hown, hts⟩ (c_Mo_isIn l κ σ p2 0 64 ) (cwS 3 hts (zgoodS w_496 w_497 w_9 w_498) rfl rfl rfl (by decide +kernel) ⟨Nat.le_of_ble_eq_true rfl, Nat.le_of_ble_eq_true rfl⟩) B rfl hl.1 rfl (Nat.le_of_ble_eq_true rfl) d_Mo_play_4 ⟨Nat.zero_le _, Nat.zero_le _⟩ (fun r σ' H locs hp B => ?_)
  obtain ⟨rfl, hp⟩ := hp
  rw [hp] at B
  have B : BA κ A s.heap s σ H locs := B
  refine lv_if_eq (tgt := 17) hx hb d_Mo_play_7 (by decide) (fun c_7 => ?_) (fun c_7 => ?_)
  · have c_7 := zb_eq0.mp c_7
    refine lv_iconst (v := (-1)) hx hb d_Mo_play_17 (by decide) ?_
    exact zret_i hx hb hr hlocks B (mplay_no (fun h => absurd h.1 (by rw [c_7]; decide))) d_Mo_play_18
  · have c_7 := zb_ne0.mp c_7
    refine lv_aload_n hx hb d_Mo_play_10 rfl (lv_at hl 0 rfl) ?_
    refine va_get (D := κ.1) (ci := 6) (v := .int (σ.1 25 0)) (C := "UnitThreadsModel") (T := T_Mo) (N := 26) hx hb hts in_Mo hown B.1 B.2.1 21 (wa_21 κ σ) rfl 1 (by decide) (hts _ w_409) (fun _ h9 => h9) rfl d_Mo_play_11 ?_
    refine lv_if_eq (tgt := 19) hx hb d_Mo_play_14 (by decide) (fun c_8 => ?_) (fun c_8 => ?_)
    · refine lv_lload_n hx hb d_Mo_play_19 rfl (lv_at hl 1 rfl) ?_
      refine lv_lstore (lv' := [(4, .long (v)), (0, .ref (aA κ 21)), (1, .long (v)), (3, .int (p2))]) hx hb d_Mo_play_20 hl (by decide) rfl (fun ls hl => ?_)
      refine lv_iconst (v := nI 0) hx hb d_Mo_play_22 (by decide) ?_
      refine lv_istore (lv' := [(6, .int (nI 0)), (4, .long (v)), (0, .ref (aA κ 21)), (1, .long (v)), (3, .int (p2))]) hx hb d_Mo_play_23 hl (by decide) rfl (fun ls hl => ?_)
      exact L_25 (tn p2) 0 b t v σ (by omega) ⟨c_7, c_8⟩ (fm_in_nat (N := 64) c_7 (by omega)).1 (fm_in_nat (N := 64) c_7 (by omega)).2 hI hb64 htb rfl _ _ B ls (lv_sub hl [2, 3, 4, 1, 0] rfl)
    · refine lv_iconst (v := (-1)) hx hb d_Mo_play_17 (by decide) ?_
      exact zret_i hx hb hr hlocks B (mplay_no (fun h => c_8 h.2)) d_Mo_play_18
set_option maxHeartbeats 4000000 in
set_option maxRecDepth 100000 in
theorem c_Mo_close (l : Launch) (κ : KA) (σ : zS) (hn : nA κ ≤ 8) (E : Nat) (hE : σ.1 34 0 = nI E) (hE3 : E ≤ 300) : zMi l y_Mo_close (zws y_Mo_close prog_8_method_31_code 3 (some .int)) ({ frames := 2, cells := 0, slots := 0, locals := 44 }) κ.1 vwCl (tysA κ) nwA (wA κ) σ [.ref (aA κ 21)] (fun r σ' => r = fm_closeR (nA κ) E σ ∧ σ' = fm_closeS σ) := by
  refine zintro (cc := prog_8_method_31_code) (maxL := 3) (ret := (some .int)) (by decide) rfl (Nat.le_of_ble_eq_true rfl) ?_
  intro p e s m below meth c ls hx hb hr hml hts hown hlocks hl B
  have hl : lv_has ls 3 [(0, .ref (aA κ 21))] := hl
  have B : BA κ (va_A (wA κ σ) s.heap.size) s.heap s σ s.heap [] := B
  have hr : meth.sig.returnType = (some .int) := hr
  have hown : s.vm.findClass "UnitThreadsModel" = some m.cls := hown
  show W p l e (headSpec (zws y_Mo_close prog_8_method_31_code 3 (some .int)) ({ frames := 2, cells := 0, slots := 0, locals := 44 })).room s m [.ref (aA κ 21)].toArray below meth c s.heap [] 0 0 (MQ below (va_Qi (fun r σ' => r = fm_closeR (nA κ) E σ ∧ σ' = fm_closeS σ) (zQ κ.1 vwCl (tysA κ) (wA κ) (va_A (wA κ σ) s.heap.size)) (va_A (wA κ σ) s.heap.size)) [.ref (aA κ 21)].toArray s 0 0 (va_A (wA κ σ) s.heap.size)) (F0 m 0 ls [])
  generalize va_A (wA κ σ) s.heap.size = A at B ⊢
  have hts : ∀ w ∈ zW, w.before [.ref (aA κ 21)].toArray s = true := fun w h => hts w (List.mem_cons_of_mem _ h)
  have L_86 : ∀ (j : Nat) (k : Nat) (r : Int32) (τ : zS), (k + j = 16) → (r = fm_closeR (nA κ) E σ) → (fm_closeS σ = zi (zit fm_own1 j k τ) 25 0 1) → ∀ (H : Heap) (locs : List Loc), BA κ A s.heap s τ H locs → ∀ (ls : Array Slot), lv_has ls 3 [(0, .ref (aA κ 21)), (1, .int (r)), (2, .int (nI k))] → W p l e (headSpec (zws y_Mo_close prog_8_method_31_code 3 (some .int)) ({ frames := 2, cells := 0, slots := 0, locals := 44 })).room s m [.ref (aA κ 21)].toArray below meth c H locs 0 0 (MQ below (va_Qi (fun r σ' => r = fm_closeR (nA κ) E σ ∧ σ' = fm_closeS σ) (zQ κ.1 vwCl (tysA κ) (wA κ) A) A) [.ref (aA κ 21)].toArray s 0 0 A) (F0 m 86 ls []) := by
    intro j
    induction j with
    | zero =>
      intro k r τ hj h0 hst H locs B ls hl
      refine lv_iload_n hx hb d_Mo_close_86 rfl (lv_at hl 2 rfl) ?_
      refine lv_bipush (v := nI 16) hx hb d_Mo_close_87 (by decide) ?_
      refine lv_icmp_ge (tgt := 105) hx hb d_Mo_close_89 (by decide) (fun c_1 => ?_) (fun c_1 => ?_)
      · have c_1 := (nI_leI (a := 16) (b := k) (by omega) (by omega)).mp c_1
        refine lv_aload_n hx hb d_Mo_close_105 rfl (lv_at hl 0 rfl) ?_
        refine lv_iconst (v := 1) hx hb d_Mo_close_106 (by decide) ?_
        refine zput (ci := 6) (v := .int (1)) (ty := .boolean) (C := "UnitThreadsModel") (T := T_Mo) (N := 26) hx hb hts in_Mo ty_Mo tyok_Mo nm_Mo hown B 21 (wa_21 κ τ) rfl 1 (by decide) (hts _ w_409) (fun _ h9 => h9) rfl (by decide +kernel) rfl rfl (Nat.le_of_ble_eq_true rfl) (wp_21_1 κ τ 1) d_Mo_close_107 (fun H locs B => ?_)
        have B : BA κ A s.heap s (zi τ 25 0 1) H locs := B
        refine lv_iload_n hx hb d_Mo_close_110 rfl (lv_at hl 1 rfl) ?_
        exact zret_i hx hb hr hlocks B (⟨h0, hst.symm⟩) d_Mo_close_111
      · have c_1 := (not_congr (nI_leI (a := 16) (b := k) (by omega) (by omega))).mp c_1
        exact absurd c_1 (by omega)
    | succ j ih =>
      intro k r τ hj h0 hst H locs B ls hl
      refine lv_iload_n hx hb d_Mo_close_86 rfl (lv_at hl 2 rfl) ?_
      refine lv_bipush (v := nI 16) hx hb d_Mo_close_87 (by decide) ?_
      refine lv_icmp_ge (tgt := 105) hx hb d_Mo_close_89 (by decide) (fun c_2 => ?_) (fun c_2 => ?_)
      · have c_2 := (nI_leI (a := 16) (b := k) (by omega) (by omega)).mp c_2
        exact absurd c_2 (by omega)
      · have c_2 := (not_congr (nI_leI (a := 16) (b := k) (by omega) (by omega))).mp c_2
        refine lv_aload_n hx hb d_Mo_close_92 rfl (lv_at hl 0 rfl) ?_
        refine va_get (D := κ.1) (ci := 6) (v := .ref (aA κ 24)) (C := "UnitThreadsModel") (T := T_Mo) (N := 26) hx hb hts in_Mo hown B.1 B.2.1 21 (wa_21 κ τ) rfl 5 (by decide) (hts _ w_413) (fun _ h9 => h9) rfl d_Mo_close_93 ?_
        refine lv_iload_n hx hb d_Mo_close_96 rfl (lv_at hl 2 rfl) ?_
        refine lv_iconst (v := (-1)) hx hb d_Mo_close_97 (by decide) ?_
        refine ziast hx hb B 24 0 (wa_24 κ τ) rfl k rfl (by omega) (by decide) (ws_24 κ τ k (-1)) d_Mo_close_98 (fun H locs B => ?_)
        have B : BA κ A s.heap s (zi τ 27 k (-1)) H locs := B
        refine lv_iinc (v := nI (k + 1)) (lv' := [(2, .int (nI (k + 1))), (0, .ref (aA κ 21)), (1, .int (r))]) hx hb d_Mo_close_99 hl (k := 2) rfl (zinc _) (by decide) rfl (fun ls hl => ?_)
        refine lv_goto (tgt := 86) hx hb d_Mo_close_102 (by decide) ?_
        exact ih (k + 1) r (zi τ 27 k (-1)) (by omega) h0 hst _ _ B ls (lv_sub hl [1, 2, 0] rfl)
  have L_60 : ∀ (j : Nat) (k : Nat) (r : Int32) (τ : zS), (k + j = 32) → (r = fm_closeR (nA κ) E σ) → (fm_closeS σ = zi (zit fm_own1 16 0 (zit fm_safe1 j k τ)) 25 0 1) → ∀ (H : Heap) (locs : List Loc), BA κ A s.heap s τ H locs → ∀ (ls : Array Slot), lv_has ls 3 [(0, .ref (aA κ 21)), (1, .int (r)), (2, .int (nI k))] → W p l e (headSpec (zws y_Mo_close prog_8_method_31_code 3 (some .int)) ({ frames := 2, cells := 0, slots := 0, locals := 44 })).room s m [.ref (aA κ 21)].toArray below meth c H locs 0 0 (MQ below (va_Qi (fun r σ' => r = fm_closeR (nA κ) E σ ∧ σ' = fm_closeS σ) (zQ κ.1 vwCl (tysA κ) (wA κ) A) A) [.ref (aA κ 21)].toArray s 0 0 A) (F0 m 60 ls []) := by
    intro j
    induction j with
    | zero =>
      intro k r τ hj h0 hst H locs B ls hl
      refine lv_iload_n hx hb d_Mo_close_60 rfl (lv_at hl 2 rfl) ?_
      refine lv_bipush (v := nI 32) hx hb d_Mo_close_61 (by decide) ?_
      refine lv_icmp_ge (tgt := 84) hx hb d_Mo_close_63 (by decide) (fun c_3 => ?_) (fun c_3 => ?_)
      · have c_3 := (nI_leI (a := 32) (b := k) (by omega) (by omega)).mp c_3
        refine lv_iconst (v := nI 0) hx hb d_Mo_close_84 (by decide) ?_
        refine lv_istore_n (lv' := [(2, .int (nI 0)), (0, .ref (aA κ 21)), (1, .int (r))]) hx hb d_Mo_close_85 rfl hl (by decide) rfl (fun ls hl => ?_)
        exact L_86 16 0 r τ (by omega) h0 hst _ _ B ls (lv_sub hl [1, 2, 0] rfl)
      · have c_3 := (not_congr (nI_leI (a := 32) (b := k) (by omega) (by omega))).mp c_3
        exact absurd c_3 (by omega)
    | succ j ih =>
      intro k r τ hj h0 hst H locs B ls hl
      refine lv_iload_n hx hb d_Mo_close_60 rfl (lv_at hl 2 rfl) ?_
      refine lv_bipush (v := nI 32) hx hb d_Mo_close_61 (by decide) ?_
      refine lv_icmp_ge (tgt := 84) hx hb d_Mo_close_63 (by decide) (fun c_4 => ?_) (fun c_4 => ?_)
      · have c_4 := (nI_leI (a := 32) (b := k) (by omega) (by omega)).mp c_4
        exact absurd c_4 (by omega)
      · have c_4 := (not_congr (nI_leI (a := 32) (b := k) (by omega) (by omega))).mp c_4
        refine lv_aload_n hx hb d_Mo_close_66 rfl (lv_at hl 0 rfl) ?_
        refine va_get (D := κ.1) (ci := 6) (v := .ref (aA κ 22)) (C := "UnitThreadsModel") (T := T_Mo) (N := 26) hx hb hts in_Mo hown B.1 B.2.1 21 (wa_21 κ τ) rfl 3 (by decide) (hts _ w_411) (fun _ h9 => h9) rfl d_Mo_close_67 ?_
        refine lv_iload_n hx hb d_Mo_close_70 rfl (lv_at hl 2 rfl) ?_
        refine lv_aload_n hx hb d_Mo_close_71 rfl (lv_at hl 0 rfl) ?_
        refine va_get (D := κ.1) (ci := 6) (v := .ref (aA κ 23)) (C := "UnitThreadsModel") (T := T_Mo) (N := 26) hx hb hts in_Mo hown B.1 B.2.1 21 (wa_21 κ τ) rfl 4 (by decide) (hts _ w_412) (fun _ h9 => h9) rfl d_Mo_close_72 ?_
        refine lv_iload_n hx hb d_Mo_close_75 rfl (lv_at hl 2 rfl) ?_
        refine zlald hx hb B 23 1 (wa_23 κ τ) rfl k rfl (by omega) (by decide) d_Mo_close_76 ?_
        refine zlast hx hb B 22 1 (wa_22 κ τ) rfl k rfl (by omega) (by decide) (ws_22 κ τ k (τ.2 6 k)) d_Mo_close_77 (fun H locs B => ?_)
        have B : BA κ A s.heap s (zl τ 5 k (τ.2 6 k)) H locs := B
        refine lv_iinc (v := nI (k + 1)) (lv' := [(2, .int (nI (k + 1))), (0, .ref (aA κ 21)), (1, .int (r))]) hx hb d_Mo_close_78 hl (k := 2) rfl (zinc _) (by decide) rfl (fun ls hl => ?_)
        refine lv_goto (tgt := 60) hx hb d_Mo_close_81 (by decide) ?_
        exact ih (k + 1) r (zl τ 5 k (τ.2 6 k)) (by omega) h0 hst _ _ B ls (lv_sub hl [1, 2, 0] rfl)
  have L_4 : ∀ (j : Nat) (k : Nat) (r : Int32), (k + j = nA κ) → (σ.1 25 0 = 0 → fm_closeN σ E (nA κ) 0 0 = fm_closeN σ E j k r) → (¬ σ.1 25 0 = 0 → r = 0) → ∀ (H : Heap) (locs : List Loc), BA κ A s.heap s σ H locs → ∀ (ls : Array Slot), lv_has ls 3 [(0, .ref (aA κ 21)), (1, .int (r)), (2, .int (nI k))] → W p l e (headSpec (zws y_Mo_close prog_8_method_31_code 3 (some .int)) ({ frames := 2, cells := 0, slots := 0, locals := 44 })).room s m [.ref (aA κ 21)].toArray below meth c H locs 0 0 (MQ below (va_Qi (fun r σ' => r = fm_closeR (nA κ) E σ ∧ σ' = fm_closeS σ) (zQ κ.1 vwCl (tysA κ) (wA κ) A) A) [.ref (aA κ 21)].toArray s 0 0 A) (F0 m 4 ls []) := by
    intro j
    induction j with
    | zero =>
      intro k r hj hst hr0 H locs B ls hl
      refine lv_iload_n hx hb d_Mo_close_4 rfl (lv_at hl 2 rfl) ?_
      refine lv_aload_n hx hb d_Mo_close_5 rfl (lv_at hl 0 rfl) ?_
      refine va_get (D := κ.1) (ci := 6) (v := .int (nI (nA κ))) (C := "UnitThreadsModel") (T := T_Mo) (N := 26) hx hb hts in_Mo hown B.1 B.2.1 21 (wa_21 κ σ) rfl 0 (by decide) (hts _ w_408) (fun _ h9 => h9) rfl d_Mo_close_6 ?_
      refine lv_icmp_ge (tgt := 51) hx hb d_Mo_close_9 (by decide) (fun c_5 => ?_) (fun c_5 => ?_)
      · have c_5 := (nI_leI (a := nA κ) (b := k) (by omega) (by omega)).mp c_5
        refine lv_aload_n hx hb d_Mo_close_51 rfl (lv_at hl 0 rfl) ?_
        refine va_get (D := κ.1) (ci := 6) (v := .int (σ.1 25 0)) (C := "UnitThreadsModel") (T := T_Mo) (N := 26) hx hb hts in_Mo hown B.1 B.2.1 21 (wa_21 κ σ) rfl 1 (by decide) (hts _ w_409) (fun _ h9 => h9) rfl d_Mo_close_52 ?_
        refine lv_if_ne (tgt := 105) hx hb d_Mo_close_55 (by decide) (fun c_6 => ?_) (fun c_6 => ?_)
        · refine lv_aload_n hx hb d_Mo_close_105 rfl (lv_at hl 0 rfl) ?_
          refine lv_iconst (v := 1) hx hb d_Mo_close_106 (by decide) ?_
          refine zput (ci := 6) (v := .int (1)) (ty := .boolean) (C := "UnitThreadsModel") (T := T_Mo) (N := 26) hx hb hts in_Mo ty_Mo tyok_Mo nm_Mo hown B 21 (wa_21 κ σ) rfl 1 (by decide) (hts _ w_409) (fun _ h9 => h9) rfl (by decide +kernel) rfl rfl (Nat.le_of_ble_eq_true rfl) (wp_21_1 κ σ 1) d_Mo_close_107 (fun H locs B => ?_)
          have B : BA κ A s.heap s (zi σ 25 0 1) H locs := B
          refine lv_iload_n hx hb d_Mo_close_110 rfl (lv_at hl 1 rfl) ?_
          exact zret_i hx hb hr hlocks B (⟨by rw [fm_closeR, if_neg c_6]; exact hr0 c_6, by rw [fm_closeS, if_neg c_6]⟩) d_Mo_close_111
        · refine lv_iconst (v := nI 0) hx hb d_Mo_close_58 (by decide) ?_
          refine lv_istore_n (lv' := [(2, .int (nI 0)), (0, .ref (aA κ 21)), (1, .int (r))]) hx hb d_Mo_close_59 rfl hl (by decide) rfl (fun ls hl => ?_)
          exact L_60 32 0 r σ (by omega) (by rw [fm_closeR, if_pos c_6, hst c_6]; rfl) (by rw [fm_closeS, if_pos c_6]) _ _ B ls (lv_sub hl [1, 2, 0] rfl)
      · have c_5 := (not_congr (nI_leI (a := nA κ) (b := k) (by omega) (by omega))).mp c_5
        exact absurd c_5 (by omega)
    | succ j ih =>
      intro k r hj hst hr0 H locs B ls hl
      refine lv_iload_n hx hb d_Mo_close_4 rfl (lv_at hl 2 rfl) ?_
      refine lv_aload_n hx hb d_Mo_close_5 rfl (lv_at hl 0 rfl) ?_
      refine va_get (D := κ.1) (ci := 6) (v := .int (nI (nA κ))) (C := "UnitThreadsModel") (T := T_Mo) (N := 26) hx hb hts in_Mo hown B.1 B.2.1 21 (wa_21 κ σ) rfl 0 (by decide) (hts _ w_408) (fun _ h9 => h9) rfl d_Mo_close_6 ?_
      refine lv_icmp_ge (tgt := 51) hx hb d_Mo_close_9 (by decide) (fun c_7 => ?_) (fun c_7 => ?_)
      · have c_7 := (nI_leI (a := nA κ) (b := k) (by omega) (by omega)).mp c_7
        exact absurd c_7 (by omega)
      · have c_7 := (not_congr (nI_leI (a := nA κ) (b := k) (by omega) (by omega))).mp c_7
        refine lv_aload_n hx hb d_Mo_close_12 rfl (lv_at hl 0 rfl) ?_
        refine va_get (D := κ.1) (ci := 6) (v := .int (σ.1 25 0)) (C := "UnitThreadsModel") (T := T_Mo) (N := 26) hx hb hts in_Mo hown B.1 B.2.1 21 (wa_21 κ σ) rfl 1 (by decide) (hts _ w_409) (fun _ h9 => h9) rfl d_Mo_close_13 ?_
        refine lv_if_ne (tgt := 51) hx hb d_Mo_close_16 (by decide) (fun c_8 => ?_) (fun c_8 => ?_)
        · refine lv_aload_n hx hb d_Mo_close_51 rfl (lv_at hl 0 rfl) ?_
          refine va_get (D := κ.1) (ci := 6) (v := .int (σ.1 25 0)) (C := "UnitThreadsModel") (T := T_Mo) (N := 26) hx hb hts in_Mo hown B.1 B.2.1 21 (wa_21 κ σ) rfl 1 (by decide) (hts _ w_409) (fun _ h9 => h9) rfl d_Mo_close_52 ?_
          refine lv_if_ne (tgt := 105) hx hb d_Mo_close_55 (by decide) (fun c_9 => ?_) (fun c_9 => ?_)
          · refine lv_aload_n hx hb d_Mo_close_105 rfl (lv_at hl 0 rfl) ?_
            refine lv_iconst (v := 1) hx hb d_Mo_close_106 (by decide) ?_
            refine zput (ci := 6) (v := .int (1)) (ty := .boolean) (C := "UnitThreadsModel") (T := T_Mo) (N := 26) hx hb hts in_Mo ty_Mo tyok_Mo nm_Mo hown B 21 (wa_21 κ σ) rfl 1 (by decide) (hts _ w_409) (fun _ h9 => h9) rfl (by decide +kernel) rfl rfl (Nat.le_of_ble_eq_true rfl) (wp_21_1 κ σ 1) d_Mo_close_107 (fun H locs B => ?_)
            have B : BA κ A s.heap s (zi σ 25 0 1) H locs := B
            refine lv_iload_n hx hb d_Mo_close_110 rfl (lv_at hl 1 rfl) ?_
            exact zret_i hx hb hr hlocks B (⟨by rw [fm_closeR, if_neg c_8]; exact hr0 c_8, by rw [fm_closeS, if_neg c_8]⟩) d_Mo_close_111
          · exact absurd c_9 (c_8)
        · refine lv_iload_n hx hb d_Mo_close_19 rfl (lv_at hl 1 rfl) ?_
          refine lv_aload_n hx hb d_Mo_close_20 rfl (lv_at hl 0 rfl) ?_
          refine lv_iload_n hx hb d_Mo_close_21 rfl (lv_at hl 2 rfl) ?_
          refine zcV_i (As := [.int (nI k)]) (rest := [.int (r)]) ⟨hx, hb, hml, hown, hts⟩ (c_Mo_goes l κ σ k (by omega) hn E hE hE3) (cwV 1 hts (zgoodV w_535 w_537 s_17 w_9 w_538) rfl rfl rfl (by decide +kernel) ⟨Nat.le_of_ble_eq_true rfl, Nat.le_of_ble_eq_true rfl⟩) B (zrecv B (ci := 6) rfl (wa_21 κ σ)) rfl hl.1 rfl (Nat.le_of_ble_eq_true rfl) d_Mo_close_22 ⟨Nat.zero_le _, Nat.zero_le _⟩ (fun r σ' H locs hp B => ?_)
          obtain ⟨rfl, hp⟩ := hp
          rw [hp] at B
          have B : BA κ A s.heap s σ H locs := B
          refine lv_if_ne (tgt := 38) hx hb d_Mo_close_25 (by decide) (fun c_10 => ?_) (fun c_10 => ?_)
          · have c_10 := zb_ne0.mp c_10
            refine lv_iconst (v := 1) hx hb d_Mo_close_38 (by decide) ?_
            refine lv_goto (tgt := 43) hx hb d_Mo_close_39 (by decide) ?_
            refine lv_iadd hx hb d_Mo_close_43 ?_
            refine lv_istore_n (lv' := [(1, .int (r + 1)), (0, .ref (aA κ 21)), (2, .int (nI k))]) hx hb d_Mo_close_44 rfl hl (by decide) rfl (fun ls hl => ?_)
            refine lv_iinc (v := nI (k + 1)) (lv' := [(2, .int (nI (k + 1))), (1, .int (r + 1)), (0, .ref (aA κ 21))]) hx hb d_Mo_close_45 hl (k := 2) rfl (zinc _) (by decide) rfl (fun ls hl => ?_)
            refine lv_goto (tgt := 4) hx hb d_Mo_close_48 (by decide) ?_
            exact ih (k + 1) (r + 1) (by omega) (fun z => by rw [hst z]; simp [fm_closeN, c_7, c_8, c_10]) (fun z => absurd c_8 z) _ _ B ls (lv_sub hl [2, 1, 0] rfl)
          · have c_10 := zb_eq0.mp c_10
            refine lv_aload_n hx hb d_Mo_close_28 rfl (lv_at hl 0 rfl) ?_
            refine va_get (D := κ.1) (ci := 6) (v := .ref (aA κ 35)) (C := "UnitThreadsModel") (T := T_Mo) (N := 26) hx hb hts in_Mo hown B.1 B.2.1 21 (wa_21 κ σ) rfl 17 (by decide) (hts _ w_425) (fun _ h9 => h9) rfl d_Mo_close_29 ?_
            refine lv_iload_n hx hb d_Mo_close_32 rfl (lv_at hl 2 rfl) ?_
            refine ziald hx hb B 35 0 (wa_35 κ σ) rfl k rfl (by omega) (by decide) d_Mo_close_33 ?_
            refine lv_iconst (v := (-1)) hx hb d_Mo_close_34 (by decide) ?_
            refine lv_icmp_eq (tgt := 42) hx hb d_Mo_close_35 (by decide) (fun c_11 => ?_) (fun c_11 => ?_)
            · refine lv_iconst (v := 0) hx hb d_Mo_close_42 (by decide) ?_
              refine lv_iadd hx hb d_Mo_close_43 ?_
              refine lv_istore_n (lv' := [(1, .int (r + 0)), (0, .ref (aA κ 21)), (2, .int (nI k))]) hx hb d_Mo_close_44 rfl hl (by decide) rfl (fun ls hl => ?_)
              refine lv_iinc (v := nI (k + 1)) (lv' := [(2, .int (nI (k + 1))), (1, .int (r + 0)), (0, .ref (aA κ 21))]) hx hb d_Mo_close_45 hl (k := 2) rfl (zinc _) (by decide) rfl (fun ls hl => ?_)
              refine lv_goto (tgt := 4) hx hb d_Mo_close_48 (by decide) ?_
              exact ih (k + 1) (r + 0) (by omega) (fun z => by rw [hst z]; simp [fm_closeN, c_7, c_8, c_10, c_11]) (fun z => absurd c_8 z) _ _ B ls (lv_sub hl [2, 1, 0] rfl)
            · refine lv_iconst (v := 1) hx hb d_Mo_close_38 (by decide) ?_
              refine lv_goto (tgt := 43) hx hb d_Mo_close_39 (by decide) ?_
              refine lv_iadd hx hb d_Mo_close_43 ?_
              refine lv_istore_n (lv' := [(1, .int (r + 1)), (0, .ref (aA κ 21)), (2, .int (nI k))]) hx hb d_Mo_close_44 rfl hl (by decide) rfl (fun ls hl => ?_)
              refine lv_iinc (v := nI (k + 1)) (lv' := [(2, .int (nI (k + 1))), (1, .int (r + 1)), (0, .ref (aA κ 21))]) hx hb d_Mo_close_45 hl (k := 2) rfl (zinc _) (by decide) rfl (fun ls hl => ?_)
              refine lv_goto (tgt := 4) hx hb d_Mo_close_48 (by decide) ?_
              exact ih (k + 1) (r + 1) (by omega) (fun z => by rw [hst z]; simp [fm_closeN, c_7, c_8, c_10, c_11]) (fun z => absurd c_8 z) _ _ B ls (lv_sub hl [2, 1, 0] rfl)
  refine lv_iconst (v := 0) hx hb d_Mo_close_0 (by decide) ?_
  refine lv_istore_n (lv' := [(1, .int (0)), (0, .ref (aA κ 21))]) hx hb d_Mo_close_1 rfl hl (by decide) rfl (fun ls hl => ?_)
  refine lv_iconst (v := nI 0) hx hb d_Mo_close_2 (by decide) ?_
  refine lv_istore_n (lv' := [(2, .int (nI 0)), (1, .int (0)), (0, .ref (aA κ 21))]) hx hb d_Mo_close_3 rfl hl (by decide) rfl (fun ls hl => ?_)
  exact L_4 (nA κ) 0 0 (by omega) (fun _ => rfl) (fun _ => rfl) _ _ B ls (lv_sub hl [2, 1, 0] rfl)
