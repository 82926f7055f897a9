section ZS
variable {p : Program} {l : Launch} {e : Env} {s : State} {m : MethodId} {below : List Frame} {meth : Method} {c : Code} {H : Heap} {locs : List Loc} {cells slots : Nat} {Q : State → Prop}
variable {pc : Nat} {ls : Array Slot} {rest st0 : List Value} {D : va_G} {cl : List vw_C} {A : Nat → Prop} {tys : List (ClassId × FieldType)} {nw : List zN} {X : va_W}
/-- the law's own cell(script, 0) -/
theorem zcCell {b L : Nat} {xs : Nat → Int32} (SS : CallFix p m c code 4 s #[Value.ref b] zW "UnitThreadsLaw") (hL : L < 2 ^ 31) (hX : va_X b L xs s s.heap) (hbl : b < s.heap.size) (hbA : ¬ A b) (B : zB D cl tys nw (zk X) A s.heap s zz H locs) (hls : ls.size = 4) (hst : st0 = .int (nI 0) :: .ref b :: rest) (hW : (rest.map fun v => v.category).sum ≤ 8) (hdg : decode code pc = .ok (.invokestatic 9, 3)) (hf : cells ≤ room_1.cells ∧ slots ≤ room_1.slots)
    (kk : ∀ (H1 : Heap) (locs1 : List Loc), zB D cl tys nw (zk X) A s.heap s zz H1 locs1 → W p l e room_1 s m #[Value.ref b] below meth c H1 locs1 cells slots Q (F0 m (pc + 3) ls (.int (if 0 < L then xs 0 else 0) :: rest))) : W p l e room_1 s m #[Value.ref b] below meth c H locs cells slots Q (F0 m pc ls st0) := by
  have hts := SS.2.2.2.2
  have hk0 : H[b]? = s.heap[b]? := B.2.2.2.1.2.1 b hbl hbA
  refine va_calli (va_runS (g := F0 m pc ls st0) (As := [.ref b, .int (nI 0)]) (rest := rest) SS (c_La_cell l b L xs hL) (va_cwS 2 hts (zgoodT w_399 w_400 w_0 w_401) rfl rfl rfl (by decide +kernel) ⟨Nat.le_of_ble_eq_true rfl, Nat.le_of_ble_eq_true rfl⟩) ⟨fun a U g mk q => ?_, fun U hU hW => ⟨rfl, ?_, ?_⟩⟩ rfl rfl hls hst (lv_room (m := m) (pc := pc) (ls := ls) (rest := st0) hW) hdg hf) B.2.2.2.1 (fun q _ h => h.elim) (fun q h => h.elim) (fun r u t H1 locs1 ht hvm hp hB hz hk hS => ?_)
  · obtain ⟨q0, q1, q2⟩ := q
    exact ⟨q0, va_X.moved (u := U) (U := U.calling g mk a) (Vm.Alike.refl U.vm) q1, q2⟩
  · rw [hU]; exact (hX.kept hk0).moved hW.alike
  · rw [hU]; exact Nat.lt_of_lt_of_le hbl B.2.2.2.1.1
  · have hp : r = if 0 < L then xs 0 else 0 := hp
    rw [hp]
    exact kk H1 locs1 ⟨B.1, B.2.1.kept (fun k q hq => hk q.1 (B.2.1 k q hq).lt (fun h => h)), B.2.2.1, hS, B.2.2.2.2⟩
end ZS
set_option maxHeartbeats 8000000 in
set_option maxRecDepth 100000 in
/-- THE LAW, from its entry -/
theorem whole_start {p : Program} {e : Env} {s : State} {m : MethodId} {below : List Frame} {meth : Method} {c : Code} (l : Launch) {b L : Nat} {xs : Nat → Int32} (hL : L ≤ 3073) (C0 : lw_At p s m meth c b L xs) : W p l e room_1 s m #[Value.ref b] below meth c s.heap [] 0 0 (lw_Z below #[Value.ref b] s) (entryFrame m ([Value.ref b] : List Value).toArray 4) := by
  obtain ⟨hx, hb, hr, hml, hown, hts0, hX, hbl, hlocks, hgv⟩ := id C0
  have hown : s.vm.findClass "UnitThreadsLaw" = some m.cls := hown
  have hts : ∀ w ∈ zW, w.before #[Value.ref b] s = true := fun w h => hts0 w (zW_tbl w h)
  have htb : ∀ (i : Nat) (w : Cond), tables_1[i]? = some w → w.before #[Value.ref b] s = true := fun i w h => hts0 w (List.mem_append_right _ (List.mem_of_getElem? h))
  have hbA : ¬ (fun q : Nat => s.heap.size ≤ q) b := Nat.not_le.mpr hbl
  obtain ⟨c0, iS0, hKn0⟩ := u_known (C := "UnitThreads$Unit") (T := T_Un) (N := 8) (n := 8) hts in_Un (hts _ w_27)
  obtain ⟨c1, iS1, hKn1⟩ := u_known (C := "UnitThreads$Entries") (T := T_En) (N := 6) (n := 6) hts in_En (hts _ w_69)
  obtain ⟨c2, iS2, hKn2⟩ := u_known (C := "UnitThreads$Order") (T := T_Or) (N := 3) (n := 3) hts in_Or (hts _ w_97)
  obtain ⟨c3, iS3, hKn3⟩ := u_known (C := "UnitThreads$Turns") (T := T_Tu) (N := 4) (n := 4) hts in_Tu (hts _ w_116)
  obtain ⟨c4, iS4, hKn4⟩ := u_known (C := "UnitThreads$Board") (T := T_Bo) (N := 6) (n := 6) hts in_Bo (hts _ w_136)
  obtain ⟨c5, iS5, hKn5⟩ := u_known (C := "UnitThreads") (T := T_Ut) (N := 7) (n := 7) hts in_Ut (hts _ w_12)
  obtain ⟨c6, iS6, hKn6⟩ := u_known (C := "UnitThreadsModel") (T := T_Mo) (N := 26) (n := 26) hts in_Mo (hts _ w_403)
  obtain ⟨dC, dI, hKc⟩ : ∃ (dC : Nat → ClassId) (dI : Nat → Nat → Nat), ∀ (k : Nat) (q : vw_C), vwCl[k]? = some q → u_Kn s q.1 q.2.1 q.2.2 (dC k) (dI k) := by
    refine ⟨fun k => match k with | 0 => c0 | 1 => c1 | 2 => c2 | 3 => c3 | 4 => c4 | 5 => c5 | _ => c6, fun k => match k with | 0 => iS0 | 1 => iS1 | 2 => iS2 | 3 => iS3 | 4 => iS4 | 5 => iS5 | _ => iS6, ?_⟩
    intro k q hq
    match k, hq with
    | 0, hq => cases hq; exact hKn0
    | 1, hq => cases hq; exact hKn1
    | 2, hq => cases hq; exact hKn2
    | 3, hq => cases hq; exact hKn3
    | 4, hq => cases hq; exact hKn4
    | 5, hq => cases hq; exact hKn5
    | 6, hq => cases hq; exact hKn6
    | k + 7, hq => simp [vwCl] at hq
  obtain ⟨cI, kI, pI, fI, gI, hI⟩ := Cond.arrayClass_spec (hts _ w_94)
  obtain ⟨cJ, kJ, pJ, fJ, gJ, hJ⟩ := Cond.arrayClass_spec (hts _ w_95)
  obtain ⟨cZ, kZ, pZ, fZ, gZ, hZ⟩ := Cond.arrayClass_spec (hts _ w_487)
  have hao : va_AO "UnitThreads$Unit" s := va_AO.of (htb 26 _ rfl)
  obtain ⟨pQ, cQ, kQ, fQ, -, gQ, hQ, nQ⟩ := Cond.arrayOver_spec hao
  obtain ⟨n, h1n, h8n, hc1, hc2⟩ := clamp (if 0 < L then xs 0 else 0)
  obtain ⟨κ, hK, hnA⟩ : ∃ κ : KA, va_K κ.1 vwCl (tysA κ) s ∧ nA κ = n := by
    refine ⟨((dC, dI), fun _ => 0, (cI, cJ, cQ, cZ), n), ⟨hKc, fun k q hq => ?_⟩, rfl⟩
    match k, hq with
    | 0, hq => cases hq; exact ⟨fun n z => ⟨fun k h => (by cases h), kI, gI, pI, hI⟩, fI⟩
    | 1, hq => cases hq; exact ⟨fun n z => ⟨fun k h => (by cases h), kJ, gJ, pJ, hJ⟩, fJ⟩
    | 2, hq => cases hq; exact ⟨fun n z => ⟨fun k h => (by cases h), kQ, gQ, pQ, hQ⟩, kQ, pQ, gQ, hQ, fQ, nQ⟩
    | 3, hq => cases hq; exact ⟨fun n z => ⟨fun k h => (by cases h), kZ, gZ, pZ, hZ⟩, fZ⟩
    | k + 4, hq => simp at hq
  subst hnA
  have hNC : ∀ x ∈ nwC, va_Nw (zNw x) s := List.forall_mem_cons.mpr ⟨va_Nw.of rfl (htb 28 _ rfl), List.forall_mem_cons.mpr ⟨va_Nw.of rfl (htb 70 _ rfl), fun _ h => absurd h List.not_mem_nil⟩⟩
  have hNA : ∀ x ∈ nwA, va_Nw (zNw x) s := List.forall_mem_cons.mpr ⟨va_Nw.of rfl (htb 321 _ rfl), List.forall_mem_cons.mpr ⟨va_Nw.of rfl (htb 366 _ rfl), fun _ h => absurd h List.not_mem_nil⟩⟩
  have B : zB κ.1 vwCl (tysA κ) nwC (zk ([] ++ [])) (fun q : Nat => s.heap.size ≤ q) s.heap s zz s.heap [] := ⟨hK, fun k q h => by simp at h, ⟨fun i j p q h => by simp at h, fun k q h => by simp at h⟩, va_S.rf, fun _ h => h, hNC⟩
  have hl := lv_entry ([.ref b]) (n := 4) (Nat.le_of_ble_eq_true rfl)
  rw [lg_entry_eq]
  generalize (lg_sl ([.ref b]) ++ List.replicate (4 - (lg_sl ([.ref b])).length) Slot.unset).toArray = ls at hl ⊢
  have hl : lv_has ls 4 [(0, .ref b)] := hl
  refine zcnew (X := []) (pl := []) (ci := 5) (fs := [.null, .null, .null, .null, .null, .null, .int 0]) (C := "UnitThreads") (T := T_Ut) (N := 7) hx hb hts in_Ut ty_Ut tyok_Ut hown (hts _ w_11) (hts _ w_12) (hts _ w_1) B rfl (fun j hj => by rcases (show j = 0 ∨ j = 1 ∨ j = 2 ∨ j = 3 ∨ j = 4 ∨ j = 5 ∨ j = 6 by omega) with rfl | rfl | rfl | rfl | rfl | rfl | rfl <;> rfl) (Nat.le_of_ble_eq_true rfl) (Nat.le_of_ble_eq_true rfl) d_La_law_0 (fun h H B => ?_)
  refine W.widen (k := 1) (n := 7) (by omega) (by omega) ?_
  have B : zB κ.1 vwCl (tysA κ) nwC (zk [(h, .inr (5, [.null, .null, .null, .null, .null, .null, .int 0]))]) (fun q : Nat => s.heap.size ≤ q) s.heap s zz H [] := B
  refine lv_dup hx hb d_La_law_3 rfl ?_
  refine lv_aload_n hx hb d_La_law_4 rfl (lv_at hl 0 rfl) ?_
  refine lv_iconst (v := nI 0) hx hb d_La_law_5 (by decide) ?_
  refine zcCell ⟨hx, hb, hml, hown, hts⟩ (by omega) hX hbl hbA B hl.1 rfl (Nat.le_of_ble_eq_true rfl) d_La_law_6 ⟨Nat.le_of_ble_eq_true rfl, Nat.le_of_ble_eq_true rfl⟩ (fun H locs B => ?_)
  refine va_callv (va_runI (g := F0 m 9 ls [.int (if 0 < L then xs 0 else 0), .ref h, .ref h]) (As := [.int (if 0 < L then xs 0 else 0)]) (rest := [.ref h]) ⟨hx, hb, hml, hown, hts⟩ (c_Ut_init l κ h (if 0 < L then xs 0 else 0) h8n hc1 H.size) (cwI 1 hts (zgoodC w_15) rfl rfl rfl (hts _ w_1) (hts _ w_13) (hts _ w_14) rfl (by decide +kernel) ⟨Nat.le_of_ble_eq_true rfl, Nat.le_of_ble_eq_true rfl⟩) ⟨fun a U g mk q => ?_, fun U hU hW => ⟨rfl, (zB_pre (As := []) B U hU hW).2, va_AO.moved hW.alike hao⟩⟩ rfl rfl hl.1 rfl (lv_room (Nat.le_of_ble_eq_true rfl)) d_La_law_9 ⟨Nat.le_of_ble_eq_true rfl, Nat.le_of_ble_eq_true rfl⟩) B.2.2.2.1 (fun q _ hq => zB_free B q hq) (zB_free B) (fun u t H1 locs1 ht hvm hw hB hz1 hk1 hS => ?_)
  · obtain ⟨q0, q1, q2⟩ := q
    have z := zP_blind (As := [.ref h, .int (if 0 < L then xs 0 else 0)]) a U g mk ⟨q0, q1⟩
    exact ⟨z.1, z.2, va_AO.moved (u := U) (U := U.calling g mk a) (Vm.Alike.refl U.vm) q2⟩
  have B : zB κ.1 vwCl (tysA κ) nwC (zk (utW κ u.1 u.2 ++ utU (nA κ) (fun i => u.1 (64 + i)))) (fun q : Nat => s.heap.size ≤ q) s.heap s zz H1 locs1 := ⟨B.1, by rw [← ht]; exact hB.1, hB.2.2.weaken (fun _ q _ hq => zB_free B q.1 hq), hS, B.2.2.2.2⟩
  refine W.widen (k := 29) (n := 6358) (by omega) (by omega) ?_
  refine lv_astore_n (lv' := [(1, .ref h), (0, .ref b)]) hx hb d_La_law_12 rfl hl (by decide) rfl (fun ls hl => ?_)
  refine zcnew (X := utW κ u.1 u.2) (pl := utU (nA κ) (fun i => u.1 (64 + i))) (ci := 6) (fs := [.int 0, .int 0, .int 0, .null, .null, .null, .null, .null, .null, .null, .null, .null, .null, .null, .int 0, .null, .null, .null, .null, .null, .null, .int 0, .null, .null, .null, .null]) (C := "UnitThreadsModel") (T := T_Mo) (N := 26) hx hb hts in_Mo ty_Mo tyok_Mo hown (hts _ w_402) (hts _ w_403) (hts _ w_9) B rfl (fun j hj => by rcases (show j = 0 ∨ j = 1 ∨ j = 2 ∨ j = 3 ∨ j = 4 ∨ j = 5 ∨ j = 6 ∨ j = 7 ∨ j = 8 ∨ j = 9 ∨ j = 10 ∨ j = 11 ∨ j = 12 ∨ j = 13 ∨ j = 14 ∨ j = 15 ∨ j = 16 ∨ j = 17 ∨ j = 18 ∨ j = 19 ∨ j = 20 ∨ j = 21 ∨ j = 22 ∨ j = 23 ∨ j = 24 ∨ j = 25 by omega) with rfl | rfl | rfl | rfl | rfl | rfl | rfl | rfl | rfl | rfl | rfl | rfl | rfl | rfl | rfl | rfl | rfl | rfl | rfl | rfl | rfl | rfl | rfl | rfl | rfl | rfl <;> rfl) (Nat.le_of_ble_eq_true rfl) (Nat.le_of_ble_eq_true rfl) d_La_law_13 (fun h2 H B => ?_)
  refine W.widen (k := 30) (n := 6384) (by omega) (by omega) ?_
  refine lv_dup hx hb d_La_law_16 rfl ?_
  refine lv_aload_n hx hb d_La_law_17 rfl (lv_at hl 1 rfl) ?_
  refine lv_iconst (v := nI 0) hx hb d_La_law_18 (by decide) ?_
  refine zcCell ⟨hx, hb, hml, hown, hts⟩ (by omega) hX hbl hbA B hl.1 rfl (Nat.le_of_ble_eq_true rfl) d_La_law_19 ⟨Nat.le_of_ble_eq_true rfl, Nat.le_of_ble_eq_true rfl⟩ (fun H locs B => ?_)
  refine zcI (X := utW κ u.1 u.2 ++ [(h2, .inr (6, [.int 0, .int 0, .int 0, .null, .null, .null, .null, .null, .null, .null, .null, .null, .null, .null, .int 0, .null, .null, .null, .null, .null, .null, .int 0, .null, .null, .null, .null]))]) (pl := utU (nA κ) (fun i => u.1 (64 + i))) (wr := utW κ u.1 u.2) (As := [.int (if 0 < L then xs 0 else 0)]) (rest := [.ref h2]) ⟨hx, hb, hml, hown, hts⟩ (c_Mo_init l κ h2 (if 0 < L then xs 0 else 0) hc2) (cwI 1 hts (zgoodC w_406) rfl rfl rfl (hts _ w_9) (hts _ w_404) (hts _ w_405) rfl (by decide +kernel) ⟨Nat.le_of_ble_eq_true rfl, Nat.le_of_ble_eq_true rfl⟩) B [21] [0, 1, 2, 3, 4, 5, 6, 7, 8, 9, 10, 11, 12, 13, 14, 15, 16, 17, 18, 19, 20] rfl rfl rfl rfl (by decide) rfl hl.1 rfl (Nat.le_of_ble_eq_true rfl) d_La_law_22 ⟨Nat.le_of_ble_eq_true rfl, Nat.le_of_ble_eq_true rfl⟩ (fun v H locs hw2 B => ?_)
  have B := zB_start B hNA
  have e0 : aA (kap κ u.1 v.1) 0 = h := hw.1
  have e21 : aA (kap κ u.1 v.1) 21 = h2 := hw2.1
  refine W.widen (k := 51) (n := 13772) (by omega) (by omega) ?_
  refine lv_astore_n (lv' := [(2, .ref h2), (1, .ref h), (0, .ref b)]) hx hb d_La_law_25 rfl hl (by decide) rfl (fun ls hl => ?_)
  refine lv_iconst (v := nI 1) hx hb d_La_law_26 (by decide) ?_
  refine lv_istore_n (lv' := [(3, .int (nI 1)), (2, .ref h2), (1, .ref h), (0, .ref b)]) hx hb d_La_law_27 rfl hl (by decide) rfl (fun ls hl => ?_)
  have hl2 : lv_has ls 4 [(0, .ref b), (1, .ref (aA (kap κ u.1 v.1) 0)), (2, .ref (aA (kap κ u.1 v.1) 21)), (3, .int (nI 1))] := by rw [e0, e21]; exact lv_sub hl [3, 2, 1, 0] rfl
  exact law_loop hL C0 (kap κ u.1 v.1) h1n h8n (L + 1) 1 (by omega) (by omega) (st0 u.2 v.2.1 v.2.2) ⟨0, 0, 0, Rl_0 h8n hw.2 hw2.2.1 hw2.2.2⟩ _ _ B ls hl2
