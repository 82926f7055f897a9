abbrev nwC : List zN := [("UnitThreads", 24, y_Un_init, "UnitThreads"), ("UnitThreads", 27, y_En_init, "UnitThreads")]
/-- a new unit -/
def uP (q : Nat) : Nat × va_E := (q, .inr (0, [.int 0, .int (-1), .int 0, .int (-1), .int (-1), .int 0, .int 0, .int (-1)]))
def utW (κ : KA) (a : Nat → Nat) (g : Nat → Int32) : va_W := [(a 0, .inr (5, [.ref (a 1), .ref (a 2), .ref (a 8), .ref (a 10), .ref (a 14), .ref (a 20), .int 0])), (a 1, .inl (cQ κ, nA κ, .inr (.inr (.inr (.inr (fun u => some (a (64 + u)))))))),
  (a 2, .inr (1, [.ref (a 3), .ref (a 4), .ref (a 5), .ref (a 6), .ref (a 7), .int 0])), (a 3, .inl (cI κ, 300, .inl (fun _ => 0))), (a 4, .inl (cI κ, 300, .inl (fun _ => 0))), (a 5, .inl (cI κ, 300, .inl (fun _ => 0))), (a 6, .inl (cI κ, 300, .inl (fun _ => 0))), (a 7, .inl (cJ κ, 300, .inr (.inl (fun _ => 0)))),
  (a 8, .inr (2, [.ref (a 9), .int 0, .long 0])), (a 9, .inl (cI κ, nA κ, .inl (fun _ => 0))),
  (a 10, .inr (3, [.ref (a 11), .ref (a 12), .ref (a 13), .int 0])), (a 11, .inl (cI κ, nA κ * 64, .inl (fun _ => 0))), (a 12, .inl (cI κ, nA κ * 64, .inl (fun _ => 0))), (a 13, .inl (cI κ, nA κ * 64, .inl (fun _ => 0))),
  (a 14, .inr (4, [.ref (a 15), .ref (a 16), .ref (a 17), .ref (a 18), .ref (a 19), .int 0])), (a 19, .inl (cI κ, 1024, .inl (fun _ => 0))), (a 15, .inl (cJ κ, nA κ * 4, .inr (.inl (fun _ => 0)))), (a 16, .inl (cJ κ, nA κ * 4, .inr (.inl (fun _ => 0)))), (a 18, .inl (cJ κ, 64 * (nA κ * 4), .inr (.inl (fun _ => 0)))), (a 17, .inl (cI κ, 16, .inl g)),
  (a 20, .inl (cI κ, 64, .inl (fun _ => 0)))]
def utU (n : Nat) (a : Nat → Nat) : va_W := (List.range n).map (fun u => uP (a u))
def adr (f a : Nat → Nat) (i : Nat) : Nat := if i < 64 then f i else a (i - 64)
theorem adr_u (f a : Nat → Nat) (k : Nat) : adr f a (64 + k) = a k := by
  unfold adr
  rw [if_neg (by omega), Nat.add_sub_cancel_left]
theorem utU_push (a : Nat → Nat) (k q : Nat) : utU (k + 1) (va_up a k q) = utU k a ++ [uP q] := by
  unfold utU
  rw [List.range_succ, List.map_append]
  congr 1
  · refine List.map_congr_left (fun j hj => ?_)
    have := List.mem_range.mp hj
    rw [va_up_ne _ _ (by omega)]
  · show [uP (va_up a k q k)] = [uP q]
    rw [va_up_self]
theorem va_D_fst {A : Nat → Prop} {w w2 : va_W} (h : va_D A w) (e : w.map Prod.fst = w2.map Prod.fst) : va_D A w2 := by
  have key : ∀ (i : Nat) (q : Nat × va_E), w2[i]? = some q → ∃ r, w[i]? = some r ∧ r.1 = q.1 := by
    intro i q hq
    have h1 : (w.map Prod.fst)[i]? = some q.1 := by rw [e, List.getElem?_map, hq]; rfl
    rw [List.getElem?_map] at h1
    cases hr : w[i]? with
    | none => rw [hr] at h1; cases h1
    | some r => rw [hr] at h1; exact ⟨r, rfl, Option.some.inj h1⟩
  refine ⟨fun i j x y hx hy hxy => ?_, fun k q hk => ?_⟩
  · obtain ⟨x1, hx1, ex⟩ := key i x hx
    obtain ⟨y1, hy1, ey⟩ := key j y hy
    exact h.1 i j x1 y1 hx1 hy1 (by rw [ex, ey]; exact hxy)
  · obtain ⟨r, hr, er⟩ := key k q hk
    rw [← er]; exact h.2 k r hr
theorem va_P_c1 {D : va_G} {cl : List vw_C} {H : Heap} {p0 : Nat × va_E} {q : Nat} {c : ClassId} {x y : vp_A} {r : va_W} (e : vp_cell c x = vp_cell c y) (h : va_P D cl (p0 :: (q, .inl (c, x)) :: r) H) : va_P D cl (p0 :: (q, .inl (c, y)) :: r) H := by
  intro k z hk
  match k with
  | 0 => exact h 0 z hk
  | 1 =>
    have h1 := h 1 (q, .inl (c, x)) rfl
    have ez : (q, (.inl (c, y) : va_E)) = z := Option.some.inj hk
    rw [← ez]
    show H[q]? = some (vp_cell c y)
    rw [← e]
    exact h1
  | k + 2 => exact h (k + 2) z hk
theorem arrV_congr {cA : ClassId} {n : Nat} {f g : Nat → Value} (h : ∀ j, j < n → f j = g j) : arrV cA n f = arrV cA n g := by
  unfold arrV
  congr 2
  funext j
  exact h j.1 j.2
set_option maxHeartbeats 8000000 in
set_option maxRecDepth 100000 in
/-- UnitThreads(units) -/
theorem c_Ut_init (l : Launch) (κ : KA) (h : Nat) (arg : Int32) (hn : nA κ ≤ 8) (harg : (if (1 : Int32) < (if arg < nI 8 then arg else nI 8) then (if arg < nI 8 then arg else nI 8) else 1) = nI (nA κ)) (sz : Nat) : Met l y_Ut_init (zws y_Ut_init prog_1_method_1_code 4 none) ({ frames := 2, cells := 28, slots := 6351, locals := 45 }) (va_Pc [.ref h, .int arg] (fun U => zP κ.1 vwCl (tysA κ) nwC (zk [(h, .inr (5, [.null, .null, .null, .null, .null, .null, .int 0]))]) sz zz U ∧ va_AO "UnitThreads$Unit" U)) (va_Qv (S := (Nat → Nat) × (Nat → Int32)) (fun u => u.1 0 = h ∧ ∀ w, w < 16 → u.2 w = -1) (fun u t => va_P κ.1 vwCl (utW κ u.1 u.2 ++ utU (nA κ) (fun i => u.1 (64 + i))) t.heap ∧ va_K κ.1 vwCl (tysA κ) t ∧ va_D (va_A [(h, .inr (5, [.null, .null, .null, .null, .null, .null, .int 0]))] sz) (utW κ u.1 u.2 ++ utU (nA κ) (fun i => u.1 (64 + i)))) (va_A [(h, .inr (5, [.null, .null, .null, .null, .null, .null, .int 0]))] sz)) 28 6351 (va_A [(h, .inr (5, [.null, .null, .null, .null, .null, .null, .int 0]))] sz) := by
  refine Met.ofW (cc := prog_1_method_1_code) (maxL := 4) (ret := none) (by decide) rfl ?_
  intro p e s m args below meth c s₁ B0 hml hv
  obtain ⟨rfl, ⟨hsz, hP, hK, hD0, hN⟩, hao⟩ := hv
  subst hsz
  have hl := lv_entry [.ref h, .int arg] (n := 4) (Nat.le_of_ble_eq_true rfl)
  rw [lg_entry_eq]
  have hx := B0.exec
  have hb := B0.bytes
  have hr : meth.sig.returnType = none := B0.returns
  have hts1 := atoms_spec (ws := (zws y_Ut_init prog_1_method_1_code 4 none)) B0.pre
  have hts : ∀ w ∈ zW, w.before [.ref h, .int arg].toArray s = true := fun w h => hts1 w (List.mem_cons_of_mem _ h)
  have hown : s.vm.findClass "UnitThreads" = some m.cls := findClass_of_methodNamed B0.named
  have hlocks := B0.notSynchronized
  have hin : meth.name = "<init>" := (name_of_methodNamed B0.named B0.method).1
  have B : zB κ.1 vwCl (tysA κ) nwC (zk ([(h, .inr (5, [.null, .null, .null, .null, .null, .null, .int 0]))] ++ [])) (va_A [(h, .inr (5, [.null, .null, .null, .null, .null, .null, .int 0]))] s.heap.size) s.heap s zz s.heap [] := ⟨hK, hP, hD0.self, va_S.rf, fun q h => Or.inr h, hN⟩
  generalize (lg_sl [.ref h, .int arg] ++ List.replicate (4 - (lg_sl [.ref h, .int arg]).length) Slot.unset).toArray = ls at hl ⊢
  generalize va_A [(h, .inr (5, [.null, .null, .null, .null, .null, .null, .int 0]))] s.heap.size = A at B ⊢
  have hl : lv_has ls 4 [(0, .ref h), (1, .int arg)] := hl
  have after : ∀ (q0 : Nat) (f : Nat → Option Nat) (a : Nat → Nat), (∀ u, u < nA κ → f u = some (a u)) → ∀ (H : Heap) (locs : List Loc), zB κ.1 vwCl (tysA κ) nwC (zk ([(h, .inr (5, [.ref q0, .null, .null, .null, .null, .null, .int 0])), (q0, .inl (cQ κ, nA κ, .inr (.inr (.inr (.inr f)))))] ++ utU (nA κ) a)) A s.heap s zz H locs → ∀ (ls : Array Slot), lv_has ls 4 [(3, .int (nI (nA κ))), (2, .int (nI (nA κ))), (0, .ref h), (1, .int arg)] → W p l e (headSpec (zws y_Ut_init prog_1_method_1_code 4 none) ({ frames := 2, cells := 28, slots := 6351, locals := 45 })).room s m [.ref h, .int arg].toArray below meth c H locs 9 72 (MQ below (va_Qv (S := (Nat → Nat) × (Nat → Int32)) (fun u => u.1 0 = h ∧ ∀ w, w < 16 → u.2 w = -1) (fun u t => va_P κ.1 vwCl (utW κ u.1 u.2 ++ utU (nA κ) (fun i => u.1 (64 + i))) t.heap ∧ va_K κ.1 vwCl (tysA κ) t ∧ va_D (A) (utW κ u.1 u.2 ++ utU (nA κ) (fun i => u.1 (64 + i)))) (A)) [.ref h, .int arg].toArray s 28 6351 A) (F0 m 49 ls []) := by
    intro q0 f a hf H locs B ls hl
    refine lv_aload_n hx hb d_Ut_init_49 rfl (lv_at hl 2 rfl) ?_
    refine zcnew (pl := utU (nA κ) a) (ci := 1) (fs := [.null, .null, .null, .null, .null, .int 0]) (C := "UnitThreads$Entries") (T := T_En) (N := 6) hx hb hts in_En ty_En tyok_En hown (hts _ w_68) (hts _ w_69) (hts _ w_4) B rfl (fun j hj => by rcases (show j = 0 ∨ j = 1 ∨ j = 2 ∨ j = 3 ∨ j = 4 ∨ j = 5 by omega) with rfl | rfl | rfl | rfl | rfl | rfl <;> rfl) (Nat.le_of_ble_eq_true rfl) (Nat.le_of_ble_eq_true rfl) d_Ut_init_50 (fun qe H B => ?_)
    have B : zB κ.1 vwCl (tysA κ) nwC (zk ([(h, .inr (5, [.ref q0, .null, .null, .null, .null, .null, .int 0])), (q0, .inl (cQ κ, nA κ, .inr (.inr (.inr (.inr f))))), (qe, .inr (1, [.null, .null, .null, .null, .null, .int 0]))] ++ utU (nA κ) a)) A s.heap s zz H locs := B
    refine W.widen (k := 10) (n := 78) (by omega) (by omega) ?_
    refine lv_dup hx hb d_Ut_init_53 rfl ?_
    refine zcIN (pl := utU (nA κ) a) (wr := [(h, .inr (5, [.ref q0, .null, .null, .null, .null, .null, .int 0])), (q0, .inl (cQ κ, nA κ, .inr (.inr (.inr (.inr f)))))]) (As := []) (rest := [.ref qe, .ref h]) ⟨hx, hb, hml, hown, hts⟩ (c_En_init l κ qe) ⟨va_cnB 0 hts (zgoodC w_72) rfl rfl rfl (B.2.2.2.2.2 ("UnitThreads", 27, y_En_init, "UnitThreads") (by decide +kernel)) (hts _ w_4) (by decide +kernel) ⟨Nat.le_of_ble_eq_true rfl, Nat.le_of_ble_eq_true rfl⟩, rfl, hts _ w_71⟩ B [2] [0, 1] rfl rfl rfl rfl (by decide) rfl hl.1 rfl (Nat.le_of_ble_eq_true rfl) d_Ut_init_54 ⟨Nat.le_of_ble_eq_true rfl, Nat.le_of_ble_eq_true rfl⟩ (fun ue H locs hpue B => ?_)
    have B : zB κ.1 vwCl (tysA κ) nwC (zk ([(h, .inr (5, [.ref q0, .null, .null, .null, .null, .null, .int 0])), (q0, .inl (cQ κ, nA κ, .inr (.inr (.inr (.inr f))))), (qe, .inr (1, [.ref (ue 0), .ref (ue 1), .ref (ue 2), .ref (ue 3), .ref (ue 4), .int 0])), (ue 0, .inl (cI κ, 300, .inl (fun _ => 0))), (ue 1, .inl (cI κ, 300, .inl (fun _ => 0))), (ue 2, .inl (cI κ, 300, .inl (fun _ => 0))), (ue 3, .inl (cI κ, 300, .inl (fun _ => 0))), (ue 4, .inl (cJ κ, 300, .inr (.inl (fun _ => 0))))] ++ utU (nA κ) a)) A s.heap s zz H locs := B
    refine W.widen (k := 15) (n := 1578) (by omega) (by omega) ?_
    refine zcputF (pl := utU (nA κ) a) (C := "UnitThreads") (T := T_Ut) (N := 7) (ty := (.object "UnitThreads$Entries")) hx hb hts in_Ut ty_Ut tyok_Ut nm_Ut hown B rfl 1 (by decide) (hts _ w_168) (fun _ h9 => h9) rfl hin rfl (by decide +kernel) rfl rfl (Nat.le_of_ble_eq_true rfl) d_Ut_init_57 (fun H locs B => ?_)
    have B : zB κ.1 vwCl (tysA κ) nwC (zk ([(h, .inr (5, [.ref q0, .ref qe, .null, .null, .null, .null, .int 0])), (q0, .inl (cQ κ, nA κ, .inr (.inr (.inr (.inr f))))), (qe, .inr (1, [.ref (ue 0), .ref (ue 1), .ref (ue 2), .ref (ue 3), .ref (ue 4), .int 0])), (ue 0, .inl (cI κ, 300, .inl (fun _ => 0))), (ue 1, .inl (cI κ, 300, .inl (fun _ => 0))), (ue 2, .inl (cI κ, 300, .inl (fun _ => 0))), (ue 3, .inl (cI κ, 300, .inl (fun _ => 0))), (ue 4, .inl (cJ κ, 300, .inr (.inl (fun _ => 0))))] ++ utU (nA κ) a)) A s.heap s zz H locs := B
    refine lv_aload_n hx hb d_Ut_init_60 rfl (lv_at hl 2 rfl) ?_
    refine zcnew (pl := utU (nA κ) a) (ci := 2) (fs := [.null, .int 0, .long 0]) (C := "UnitThreads$Order") (T := T_Or) (N := 3) hx hb hts in_Or ty_Or tyok_Or hown (hts _ w_96) (hts _ w_97) (hts _ w_5) B rfl (fun j hj => by rcases (show j = 0 ∨ j = 1 ∨ j = 2 by omega) with rfl | rfl | rfl <;> rfl) (Nat.le_of_ble_eq_true rfl) (Nat.le_of_ble_eq_true rfl) d_Ut_init_61 (fun qo H B => ?_)
    have B : zB κ.1 vwCl (tysA κ) nwC (zk ([(h, .inr (5, [.ref q0, .ref qe, .null, .null, .null, .null, .int 0])), (q0, .inl (cQ κ, nA κ, .inr (.inr (.inr (.inr f))))), (qe, .inr (1, [.ref (ue 0), .ref (ue 1), .ref (ue 2), .ref (ue 3), .ref (ue 4), .int 0])), (ue 0, .inl (cI κ, 300, .inl (fun _ => 0))), (ue 1, .inl (cI κ, 300, .inl (fun _ => 0))), (ue 2, .inl (cI κ, 300, .inl (fun _ => 0))), (ue 3, .inl (cI κ, 300, .inl (fun _ => 0))), (ue 4, .inl (cJ κ, 300, .inr (.inl (fun _ => 0)))), (qo, .inr (2, [.null, .int 0, .long 0]))] ++ utU (nA κ) a)) A s.heap s zz H locs := B
    refine W.widen (k := 16) (n := 1581) (by omega) (by omega) ?_
    refine lv_dup hx hb d_Ut_init_64 rfl ?_
    refine lv_iload_n hx hb d_Ut_init_65 rfl (lv_at hl 1 rfl) ?_
    refine zcI (pl := utU (nA κ) a) (wr := [(h, .inr (5, [.ref q0, .ref qe, .null, .null, .null, .null, .int 0])), (q0, .inl (cQ κ, nA κ, .inr (.inr (.inr (.inr f))))), (qe, .inr (1, [.ref (ue 0), .ref (ue 1), .ref (ue 2), .ref (ue 3), .ref (ue 4), .int 0])), (ue 0, .inl (cI κ, 300, .inl (fun _ => 0))), (ue 1, .inl (cI κ, 300, .inl (fun _ => 0))), (ue 2, .inl (cI κ, 300, .inl (fun _ => 0))), (ue 3, .inl (cI κ, 300, .inl (fun _ => 0))), (ue 4, .inl (cJ κ, 300, .inr (.inl (fun _ => 0))))]) (As := [.int (nI (nA κ))]) (rest := [.ref qo, .ref h]) ⟨hx, hb, hml, hown, hts⟩ (c_Or_init l κ qo hn) (cwI 1 hts (zgoodC w_100) rfl rfl rfl (hts _ w_5) (hts _ w_98) (hts _ w_99) rfl (by decide +kernel) ⟨Nat.le_of_ble_eq_true rfl, Nat.le_of_ble_eq_true rfl⟩) B [8] [0, 1, 2, 3, 4, 5, 6, 7] rfl rfl rfl rfl (by decide) rfl hl.1 rfl (Nat.le_of_ble_eq_true rfl) d_Ut_init_66 ⟨Nat.le_of_ble_eq_true rfl, Nat.le_of_ble_eq_true rfl⟩ (fun uo H locs hpuo B => ?_)
    have B : zB κ.1 vwCl (tysA κ) nwC (zk ([(h, .inr (5, [.ref q0, .ref qe, .null, .null, .null, .null, .int 0])), (q0, .inl (cQ κ, nA κ, .inr (.inr (.inr (.inr f))))), (qe, .inr (1, [.ref (ue 0), .ref (ue 1), .ref (ue 2), .ref (ue 3), .ref (ue 4), .int 0])), (ue 0, .inl (cI κ, 300, .inl (fun _ => 0))), (ue 1, .inl (cI κ, 300, .inl (fun _ => 0))), (ue 2, .inl (cI κ, 300, .inl (fun _ => 0))), (ue 3, .inl (cI κ, 300, .inl (fun _ => 0))), (ue 4, .inl (cJ κ, 300, .inr (.inl (fun _ => 0)))), (qo, .inr (2, [.ref uo, .int 0, .long 0])), (uo, .inl (cI κ, nA κ, .inl (fun _ => 0)))] ++ utU (nA κ) a)) A s.heap s zz H locs := B
    refine W.widen (k := 17) (n := 1589) (by omega) (by omega) ?_
    refine zcputF (pl := utU (nA κ) a) (C := "UnitThreads") (T := T_Ut) (N := 7) (ty := (.object "UnitThreads$Order")) hx hb hts in_Ut ty_Ut tyok_Ut nm_Ut hown B rfl 2 (by decide) (hts _ w_169) (fun _ h9 => h9) rfl hin rfl (by decide +kernel) rfl rfl (Nat.le_of_ble_eq_true rfl) d_Ut_init_69 (fun H locs B => ?_)
    have B : zB κ.1 vwCl (tysA κ) nwC (zk ([(h, .inr (5, [.ref q0, .ref qe, .ref qo, .null, .null, .null, .int 0])), (q0, .inl (cQ κ, nA κ, .inr (.inr (.inr (.inr f))))), (qe, .inr (1, [.ref (ue 0), .ref (ue 1), .ref (ue 2), .ref (ue 3), .ref (ue 4), .int 0])), (ue 0, .inl (cI κ, 300, .inl (fun _ => 0))), (ue 1, .inl (cI κ, 300, .inl (fun _ => 0))), (ue 2, .inl (cI κ, 300, .inl (fun _ => 0))), (ue 3, .inl (cI κ, 300, .inl (fun _ => 0))), (ue 4, .inl (cJ κ, 300, .inr (.inl (fun _ => 0)))), (qo, .inr (2, [.ref uo, .int 0, .long 0])), (uo, .inl (cI κ, nA κ, .inl (fun _ => 0)))] ++ utU (nA κ) a)) A s.heap s zz H locs := B
    refine lv_aload_n hx hb d_Ut_init_72 rfl (lv_at hl 2 rfl) ?_
    refine zcnew (pl := utU (nA κ) a) (ci := 3) (fs := [.null, .null, .null, .int 0]) (C := "UnitThreads$Turns") (T := T_Tu) (N := 4) hx hb hts in_Tu ty_Tu tyok_Tu hown (hts _ w_115) (hts _ w_116) (hts _ w_6) B rfl (fun j hj => by rcases (show j = 0 ∨ j = 1 ∨ j = 2 ∨ j = 3 by omega) with rfl | rfl | rfl | rfl <;> rfl) (Nat.le_of_ble_eq_true rfl) (Nat.le_of_ble_eq_true rfl) d_Ut_init_73 (fun qt H B => ?_)
    have B : zB κ.1 vwCl (tysA κ) nwC (zk ([(h, .inr (5, [.ref q0, .ref qe, .ref qo, .null, .null, .null, .int 0])), (q0, .inl (cQ κ, nA κ, .inr (.inr (.inr (.inr f))))), (qe, .inr (1, [.ref (ue 0), .ref (ue 1), .ref (ue 2), .ref (ue 3), .ref (ue 4), .int 0])), (ue 0, .inl (cI κ, 300, .inl (fun _ => 0))), (ue 1, .inl (cI κ, 300, .inl (fun _ => 0))), (ue 2, .inl (cI κ, 300, .inl (fun _ => 0))), (ue 3, .inl (cI κ, 300, .inl (fun _ => 0))), (ue 4, .inl (cJ κ, 300, .inr (.inl (fun _ => 0)))), (qo, .inr (2, [.ref uo, .int 0, .long 0])), (uo, .inl (cI κ, nA κ, .inl (fun _ => 0))), (qt, .inr (3, [.null, .null, .null, .int 0]))] ++ utU (nA κ) a)) A s.heap s zz H locs := B
    refine W.widen (k := 18) (n := 1593) (by omega) (by omega) ?_
    refine lv_dup hx hb d_Ut_init_76 rfl ?_
    refine lv_iload_n hx hb d_Ut_init_77 rfl (lv_at hl 1 rfl) ?_
    refine zcI (pl := utU (nA κ) a) (wr := [(h, .inr (5, [.ref q0, .ref qe, .ref qo, .null, .null, .null, .int 0])), (q0, .inl (cQ κ, nA κ, .inr (.inr (.inr (.inr f))))), (qe, .inr (1, [.ref (ue 0), .ref (ue 1), .ref (ue 2), .ref (ue 3), .ref (ue 4), .int 0])), (ue 0, .inl (cI κ, 300, .inl (fun _ => 0))), (ue 1, .inl (cI κ, 300, .inl (fun _ => 0))), (ue 2, .inl (cI κ, 300, .inl (fun _ => 0))), (ue 3, .inl (cI κ, 300, .inl (fun _ => 0))), (ue 4, .inl (cJ κ, 300, .inr (.inl (fun _ => 0)))), (qo, .inr (2, [.ref uo, .int 0, .long 0])), (uo, .inl (cI κ, nA κ, .inl (fun _ => 0)))]) (As := [.int (nI (nA κ))]) (rest := [.ref qt, .ref h]) ⟨hx, hb, hml, hown, hts⟩ (c_Tu_init l κ qt hn) (cwI 1 hts (zgoodC w_119) rfl rfl rfl (hts _ w_6) (hts _ w_117) (hts _ w_118) rfl (by decide +kernel) ⟨Nat.le_of_ble_eq_true rfl, Nat.le_of_ble_eq_true rfl⟩) B [10] [0, 1, 2, 3, 4, 5, 6, 7, 8, 9] rfl rfl rfl rfl (by decide) rfl hl.1 rfl (Nat.le_of_ble_eq_true rfl) d_Ut_init_78 ⟨Nat.le_of_ble_eq_true rfl, Nat.le_of_ble_eq_true rfl⟩ (fun ut H locs hput B => ?_)
    have B : zB κ.1 vwCl (tysA κ) nwC (zk ([(h, .inr (5, [.ref q0, .ref qe, .ref qo, .null, .null, .null, .int 0])), (q0, .inl (cQ κ, nA κ, .inr (.inr (.inr (.inr f))))), (qe, .inr (1, [.ref (ue 0), .ref (ue 1), .ref (ue 2), .ref (ue 3), .ref (ue 4), .int 0])), (ue 0, .inl (cI κ, 300, .inl (fun _ => 0))), (ue 1, .inl (cI κ, 300, .inl (fun _ => 0))), (ue 2, .inl (cI κ, 300, .inl (fun _ => 0))), (ue 3, .inl (cI κ, 300, .inl (fun _ => 0))), (ue 4, .inl (cJ κ, 300, .inr (.inl (fun _ => 0)))), (qo, .inr (2, [.ref uo, .int 0, .long 0])), (uo, .inl (cI κ, nA κ, .inl (fun _ => 0))), (qt, .inr (3, [.ref (ut 0), .ref (ut 1), .ref (ut 2), .int 0])), (ut 0, .inl (cI κ, nA κ * 64, .inl (fun _ => 0))), (ut 1, .inl (cI κ, nA κ * 64, .inl (fun _ => 0))), (ut 2, .inl (cI κ, nA κ * 64, .inl (fun _ => 0)))] ++ utU (nA κ) a)) A s.heap s zz H locs := B
    refine W.widen (k := 21) (n := 3129) (by omega) (by omega) ?_
    refine zcputF (pl := utU (nA κ) a) (C := "UnitThreads") (T := T_Ut) (N := 7) (ty := (.object "UnitThreads$Turns")) hx hb hts in_Ut ty_Ut tyok_Ut nm_Ut hown B rfl 3 (by decide) (hts _ w_170) (fun _ h9 => h9) rfl hin rfl (by decide +kernel) rfl rfl (Nat.le_of_ble_eq_true rfl) d_Ut_init_81 (fun H locs B => ?_)
    have B : zB κ.1 vwCl (tysA κ) nwC (zk ([(h, .inr (5, [.ref q0, .ref qe, .ref qo, .ref qt, .null, .null, .int 0])), (q0, .inl (cQ κ, nA κ, .inr (.inr (.inr (.inr f))))), (qe, .inr (1, [.ref (ue 0), .ref (ue 1), .ref (ue 2), .ref (ue 3), .ref (ue 4), .int 0])), (ue 0, .inl (cI κ, 300, .inl (fun _ => 0))), (ue 1, .inl (cI κ, 300, .inl (fun _ => 0))), (ue 2, .inl (cI κ, 300, .inl (fun _ => 0))), (ue 3, .inl (cI κ, 300, .inl (fun _ => 0))), (ue 4, .inl (cJ κ, 300, .inr (.inl (fun _ => 0)))), (qo, .inr (2, [.ref uo, .int 0, .long 0])), (uo, .inl (cI κ, nA κ, .inl (fun _ => 0))), (qt, .inr (3, [.ref (ut 0), .ref (ut 1), .ref (ut 2), .int 0])), (ut 0, .inl (cI κ, nA κ * 64, .inl (fun _ => 0))), (ut 1, .inl (cI κ, nA κ * 64, .inl (fun _ => 0))), (ut 2, .inl (cI κ, nA κ * 64, .inl (fun _ => 0)))] ++ utU (nA κ) a)) A s.heap s zz H locs := B
    refine lv_aload_n hx hb d_Ut_init_84 rfl (lv_at hl 2 rfl) ?_
    refine zcnew (pl := utU (nA κ) a) (ci := 4) (fs := [.null, .null, .null, .null, .null, .int 0]) (C := "UnitThreads$Board") (T := T_Bo) (N := 6) hx hb hts in_Bo ty_Bo tyok_Bo hown (hts _ w_135) (hts _ w_136) (hts _ w_7) B rfl (fun j hj => by rcases (show j = 0 ∨ j = 1 ∨ j = 2 ∨ j = 3 ∨ j = 4 ∨ j = 5 by omega) with rfl | rfl | rfl | rfl | rfl | rfl <;> rfl) (Nat.le_of_ble_eq_true rfl) (Nat.le_of_ble_eq_true rfl) d_Ut_init_85 (fun qb H B => ?_)
    have B : zB κ.1 vwCl (tysA κ) nwC (zk ([(h, .inr (5, [.ref q0, .ref qe, .ref qo, .ref qt, .null, .null, .int 0])), (q0, .inl (cQ κ, nA κ, .inr (.inr (.inr (.inr f))))), (qe, .inr (1, [.ref (ue 0), .ref (ue 1), .ref (ue 2), .ref (ue 3), .ref (ue 4), .int 0])), (ue 0, .inl (cI κ, 300, .inl (fun _ => 0))), (ue 1, .inl (cI κ, 300, .inl (fun _ => 0))), (ue 2, .inl (cI κ, 300, .inl (fun _ => 0))), (ue 3, .inl (cI κ, 300, .inl (fun _ => 0))), (ue 4, .inl (cJ κ, 300, .inr (.inl (fun _ => 0)))), (qo, .inr (2, [.ref uo, .int 0, .long 0])), (uo, .inl (cI κ, nA κ, .inl (fun _ => 0))), (qt, .inr (3, [.ref (ut 0), .ref (ut 1), .ref (ut 2), .int 0])), (ut 0, .inl (cI κ, nA κ * 64, .inl (fun _ => 0))), (ut 1, .inl (cI κ, nA κ * 64, .inl (fun _ => 0))), (ut 2, .inl (cI κ, nA κ * 64, .inl (fun _ => 0))), (qb, .inr (4, [.null, .null, .null, .null, .null, .int 0]))] ++ utU (nA κ) a)) A s.heap s zz H locs := B
    refine W.widen (k := 22) (n := 3135) (by omega) (by omega) ?_
    refine lv_dup hx hb d_Ut_init_88 rfl ?_
    refine lv_iload_n hx hb d_Ut_init_89 rfl (lv_at hl 1 rfl) ?_
    refine zcI (pl := utU (nA κ) a) (wr := [(h, .inr (5, [.ref q0, .ref qe, .ref qo, .ref qt, .null, .null, .int 0])), (q0, .inl (cQ κ, nA κ, .inr (.inr (.inr (.inr f))))), (qe, .inr (1, [.ref (ue 0), .ref (ue 1), .ref (ue 2), .ref (ue 3), .ref (ue 4), .int 0])), (ue 0, .inl (cI κ, 300, .inl (fun _ => 0))), (ue 1, .inl (cI κ, 300, .inl (fun _ => 0))), (ue 2, .inl (cI κ, 300, .inl (fun _ => 0))), (ue 3, .inl (cI κ, 300, .inl (fun _ => 0))), (ue 4, .inl (cJ κ, 300, .inr (.inl (fun _ => 0)))), (qo, .inr (2, [.ref uo, .int 0, .long 0])), (uo, .inl (cI κ, nA κ, .inl (fun _ => 0))), (qt, .inr (3, [.ref (ut 0), .ref (ut 1), .ref (ut 2), .int 0])), (ut 0, .inl (cI κ, nA κ * 64, .inl (fun _ => 0))), (ut 1, .inl (cI κ, nA κ * 64, .inl (fun _ => 0))), (ut 2, .inl (cI κ, nA κ * 64, .inl (fun _ => 0)))]) (As := [.int (nI (nA κ))]) (rest := [.ref qb, .ref h]) ⟨hx, hb, hml, hown, hts⟩ (c_Bo_init l κ qb hn) (cwI 1 hts (zgoodC w_139) rfl rfl rfl (hts _ w_7) (hts _ w_137) (hts _ w_138) rfl (by decide +kernel) ⟨Nat.le_of_ble_eq_true rfl, Nat.le_of_ble_eq_true rfl⟩) B [14] [0, 1, 2, 3, 4, 5, 6, 7, 8, 9, 10, 11, 12, 13] rfl rfl rfl rfl (by decide) rfl hl.1 rfl (Nat.le_of_ble_eq_true rfl) d_Ut_init_90 ⟨Nat.le_of_ble_eq_true rfl, Nat.le_of_ble_eq_true rfl⟩ (fun ub H locs hpub B => ?_)
    have B : zB κ.1 vwCl (tysA κ) nwC (zk ([(h, .inr (5, [.ref q0, .ref qe, .ref qo, .ref qt, .null, .null, .int 0])), (q0, .inl (cQ κ, nA κ, .inr (.inr (.inr (.inr f))))), (qe, .inr (1, [.ref (ue 0), .ref (ue 1), .ref (ue 2), .ref (ue 3), .ref (ue 4), .int 0])), (ue 0, .inl (cI κ, 300, .inl (fun _ => 0))), (ue 1, .inl (cI κ, 300, .inl (fun _ => 0))), (ue 2, .inl (cI κ, 300, .inl (fun _ => 0))), (ue 3, .inl (cI κ, 300, .inl (fun _ => 0))), (ue 4, .inl (cJ κ, 300, .inr (.inl (fun _ => 0)))), (qo, .inr (2, [.ref uo, .int 0, .long 0])), (uo, .inl (cI κ, nA κ, .inl (fun _ => 0))), (qt, .inr (3, [.ref (ut 0), .ref (ut 1), .ref (ut 2), .int 0])), (ut 0, .inl (cI κ, nA κ * 64, .inl (fun _ => 0))), (ut 1, .inl (cI κ, nA κ * 64, .inl (fun _ => 0))), (ut 2, .inl (cI κ, nA κ * 64, .inl (fun _ => 0))), (qb, .inr (4, [.ref (ub.1 0), .ref (ub.1 1), .ref (ub.1 2), .ref (ub.1 3), .ref (ub.1 4), .int 0])), (ub.1 4, .inl (cI κ, 1024, .inl (fun _ => 0))), (ub.1 0, .inl (cJ κ, nA κ * 4, .inr (.inl (fun _ => 0)))), (ub.1 1, .inl (cJ κ, nA κ * 4, .inr (.inl (fun _ => 0)))), (ub.1 3, .inl (cJ κ, 64 * (nA κ * 4), .inr (.inl (fun _ => 0)))), (ub.1 2, .inl (cI κ, 16, .inl ub.2))] ++ utU (nA κ) a)) A s.heap s zz H locs := B
    refine W.widen (k := 27) (n := 6287) (by omega) (by omega) ?_
    refine zcputF (pl := utU (nA κ) a) (C := "UnitThreads") (T := T_Ut) (N := 7) (ty := (.object "UnitThreads$Board")) hx hb hts in_Ut ty_Ut tyok_Ut nm_Ut hown B rfl 4 (by decide) (hts _ w_171) (fun _ h9 => h9) rfl hin rfl (by decide +kernel) rfl rfl (Nat.le_of_ble_eq_true rfl) d_Ut_init_93 (fun H locs B => ?_)
    have B : zB κ.1 vwCl (tysA κ) nwC (zk ([(h, .inr (5, [.ref q0, .ref qe, .ref qo, .ref qt, .ref qb, .null, .int 0])), (q0, .inl (cQ κ, nA κ, .inr (.inr (.inr (.inr f))))), (qe, .inr (1, [.ref (ue 0), .ref (ue 1), .ref (ue 2), .ref (ue 3), .ref (ue 4), .int 0])), (ue 0, .inl (cI κ, 300, .inl (fun _ => 0))), (ue 1, .inl (cI κ, 300, .inl (fun _ => 0))), (ue 2, .inl (cI κ, 300, .inl (fun _ => 0))), (ue 3, .inl (cI κ, 300, .inl (fun _ => 0))), (ue 4, .inl (cJ κ, 300, .inr (.inl (fun _ => 0)))), (qo, .inr (2, [.ref uo, .int 0, .long 0])), (uo, .inl (cI κ, nA κ, .inl (fun _ => 0))), (qt, .inr (3, [.ref (ut 0), .ref (ut 1), .ref (ut 2), .int 0])), (ut 0, .inl (cI κ, nA κ * 64, .inl (fun _ => 0))), (ut 1, .inl (cI κ, nA κ * 64, .inl (fun _ => 0))), (ut 2, .inl (cI κ, nA κ * 64, .inl (fun _ => 0))), (qb, .inr (4, [.ref (ub.1 0), .ref (ub.1 1), .ref (ub.1 2), .ref (ub.1 3), .ref (ub.1 4), .int 0])), (ub.1 4, .inl (cI κ, 1024, .inl (fun _ => 0))), (ub.1 0, .inl (cJ κ, nA κ * 4, .inr (.inl (fun _ => 0)))), (ub.1 1, .inl (cJ κ, nA κ * 4, .inr (.inl (fun _ => 0)))), (ub.1 3, .inl (cJ κ, 64 * (nA κ * 4), .inr (.inl (fun _ => 0)))), (ub.1 2, .inl (cI κ, 16, .inl ub.2))] ++ utU (nA κ) a)) A s.heap s zz H locs := B
    refine lv_aload_n hx hb d_Ut_init_96 rfl (lv_at hl 2 rfl) ?_
    refine lv_bipush (v := nI 64) hx hb d_Ut_init_97 (by decide) ?_
    refine zcnaF (pl := utU (nA κ) a) (C := "UnitThreads") (T := T_Ut) (N := 7) (atype := .int) (ty := .int) (tyf := (.array .int)) hx hb (hts _ w_94) rfl 0 rfl B (64) (a0 := (64, .inl (fun _ => 0))) (fun _ => rfl) rfl (by decide) (by decide) (Nat.le_of_ble_eq_true rfl) (Nat.le_of_ble_eq_true rfl) d_Ut_init_99 hts in_Ut ty_Ut tyok_Ut nm_Ut hown rfl 5 (by decide) (hts _ w_172) (fun _ h9 => h9) rfl hin rfl (by decide +kernel) (fun _ => rfl) (fun _ => rfl) (Nat.le_of_ble_eq_true rfl) d_Ut_init_101 (fun qr H locs B => ?_)
    have B : zB κ.1 vwCl (tysA κ) nwC (zk ([(h, .inr (5, [.ref q0, .ref qe, .ref qo, .ref qt, .ref qb, .ref qr, .int 0])), (q0, .inl (cQ κ, nA κ, .inr (.inr (.inr (.inr f))))), (qe, .inr (1, [.ref (ue 0), .ref (ue 1), .ref (ue 2), .ref (ue 3), .ref (ue 4), .int 0])), (ue 0, .inl (cI κ, 300, .inl (fun _ => 0))), (ue 1, .inl (cI κ, 300, .inl (fun _ => 0))), (ue 2, .inl (cI κ, 300, .inl (fun _ => 0))), (ue 3, .inl (cI κ, 300, .inl (fun _ => 0))), (ue 4, .inl (cJ κ, 300, .inr (.inl (fun _ => 0)))), (qo, .inr (2, [.ref uo, .int 0, .long 0])), (uo, .inl (cI κ, nA κ, .inl (fun _ => 0))), (qt, .inr (3, [.ref (ut 0), .ref (ut 1), .ref (ut 2), .int 0])), (ut 0, .inl (cI κ, nA κ * 64, .inl (fun _ => 0))), (ut 1, .inl (cI κ, nA κ * 64, .inl (fun _ => 0))), (ut 2, .inl (cI κ, nA κ * 64, .inl (fun _ => 0))), (qb, .inr (4, [.ref (ub.1 0), .ref (ub.1 1), .ref (ub.1 2), .ref (ub.1 3), .ref (ub.1 4), .int 0])), (ub.1 4, .inl (cI κ, 1024, .inl (fun _ => 0))), (ub.1 0, .inl (cJ κ, nA κ * 4, .inr (.inl (fun _ => 0)))), (ub.1 1, .inl (cJ κ, nA κ * 4, .inr (.inl (fun _ => 0)))), (ub.1 3, .inl (cJ κ, 64 * (nA κ * 4), .inr (.inl (fun _ => 0)))), (ub.1 2, .inl (cI κ, 16, .inl ub.2)), (qr, .inl (cI κ, 64, .inl (fun _ => 0)))] ++ utU (nA κ) a)) A s.heap s zz H locs := B
    refine W.widen (k := 28) (n := 6351) (by omega) (by omega) ?_
    refine lv_aload_n hx hb d_Ut_init_104 rfl (lv_at hl 2 rfl) ?_
    refine lv_iconst (v := 0) hx hb d_Ut_init_105 (by decide) ?_
    refine zcput (pl := utU (nA κ) a) (C := "UnitThreads") (T := T_Ut) (N := 7) (ty := .boolean) hx hb hts in_Ut ty_Ut tyok_Ut nm_Ut hown B rfl 6 (by decide) (hts _ w_173) (fun _ h9 => h9) rfl (by decide +kernel) rfl rfl (Nat.le_of_ble_eq_true rfl) d_Ut_init_106 (fun H locs B => ?_)
    have B : zB κ.1 vwCl (tysA κ) nwC (zk ([(h, .inr (5, [.ref q0, .ref qe, .ref qo, .ref qt, .ref qb, .ref qr, .int 0])), (q0, .inl (cQ κ, nA κ, .inr (.inr (.inr (.inr f))))), (qe, .inr (1, [.ref (ue 0), .ref (ue 1), .ref (ue 2), .ref (ue 3), .ref (ue 4), .int 0])), (ue 0, .inl (cI κ, 300, .inl (fun _ => 0))), (ue 1, .inl (cI κ, 300, .inl (fun _ => 0))), (ue 2, .inl (cI κ, 300, .inl (fun _ => 0))), (ue 3, .inl (cI κ, 300, .inl (fun _ => 0))), (ue 4, .inl (cJ κ, 300, .inr (.inl (fun _ => 0)))), (qo, .inr (2, [.ref uo, .int 0, .long 0])), (uo, .inl (cI κ, nA κ, .inl (fun _ => 0))), (qt, .inr (3, [.ref (ut 0), .ref (ut 1), .ref (ut 2), .int 0])), (ut 0, .inl (cI κ, nA κ * 64, .inl (fun _ => 0))), (ut 1, .inl (cI κ, nA κ * 64, .inl (fun _ => 0))), (ut 2, .inl (cI κ, nA κ * 64, .inl (fun _ => 0))), (qb, .inr (4, [.ref (ub.1 0), .ref (ub.1 1), .ref (ub.1 2), .ref (ub.1 3), .ref (ub.1 4), .int 0])), (ub.1 4, .inl (cI κ, 1024, .inl (fun _ => 0))), (ub.1 0, .inl (cJ κ, nA κ * 4, .inr (.inl (fun _ => 0)))), (ub.1 1, .inl (cJ κ, nA κ * 4, .inr (.inl (fun _ => 0)))), (ub.1 3, .inl (cJ κ, 64 * (nA κ * 4), .inr (.inl (fun _ => 0)))), (ub.1 2, .inl (cI κ, 16, .inl ub.2)), (qr, .inl (cI κ, 64, .inl (fun _ => 0)))] ++ utU (nA κ) a)) A s.heap s zz H locs := B
    obtain ⟨aa, haa⟩ : ∃ aa, aa = adr (fun i => match i with | 0 => h | 1 => q0 | 2 => qe | 3 => ue 0 | 4 => ue 1 | 5 => ue 2 | 6 => ue 3 | 7 => ue 4 | 8 => qo | 9 => uo | 10 => qt | 11 => ut 0 | 12 => ut 1 | 13 => ut 2 | 14 => qb | 15 => ub.1 0 | 16 => ub.1 1 | 17 => ub.1 2 | 18 => ub.1 3 | 19 => ub.1 4 | _ => qr) a := ⟨_, rfl⟩
    have hau : ∀ k, aa (64 + k) = a k := fun k => by rw [haa]; exact adr_u _ a k
    have ha0 : aa 0 = h := by rw [haa]; rfl
    have ha1 : aa 1 = q0 := by rw [haa]; rfl
    have ha2 : aa 2 = qe := by rw [haa]; rfl
    have ha3 : aa 3 = ue 0 := by rw [haa]; rfl
    have ha4 : aa 4 = ue 1 := by rw [haa]; rfl
    have ha5 : aa 5 = ue 2 := by rw [haa]; rfl
    have ha6 : aa 6 = ue 3 := by rw [haa]; rfl
    have ha7 : aa 7 = ue 4 := by rw [haa]; rfl
    have ha8 : aa 8 = qo := by rw [haa]; rfl
    have ha9 : aa 9 = uo := by rw [haa]; rfl
    have ha10 : aa 10 = qt := by rw [haa]; rfl
    have ha11 : aa 11 = ut 0 := by rw [haa]; rfl
    have ha12 : aa 12 = ut 1 := by rw [haa]; rfl
    have ha13 : aa 13 = ut 2 := by rw [haa]; rfl
    have ha14 : aa 14 = qb := by rw [haa]; rfl
    have ha15 : aa 15 = ub.1 0 := by rw [haa]; rfl
    have ha16 : aa 16 = ub.1 1 := by rw [haa]; rfl
    have ha17 : aa 17 = ub.1 2 := by rw [haa]; rfl
    have ha18 : aa 18 = ub.1 3 := by rw [haa]; rfl
    have ha19 : aa 19 = ub.1 4 := by rw [haa]; rfl
    have ha20 : aa 20 = qr := by rw [haa]; rfl
    have eU : utU (nA κ) (fun i => aa (64 + i)) = utU (nA κ) a := by unfold utU; refine List.map_congr_left (fun j _ => ?_); show uP (aa (64 + j)) = uP (a j); rw [hau]
    have eC : vp_cell (cQ κ) (nA κ, .inr (.inr (.inr (.inr f)))) = vp_cell (cQ κ) (nA κ, .inr (.inr (.inr (.inr (fun u => some (aa (64 + u))))))) := by
      rw [vp_cell_q, vp_cell_q]
      exact arrV_congr (fun j hj => by rw [hf j hj, hau])
    have B : zB κ.1 vwCl (tysA κ) nwC (zk (utW κ aa ub.2 ++ utU (nA κ) (fun i => aa (64 + i)))) A s.heap s zz H locs := by
      rw [eU]
      unfold utW
      rw [ha0, ha1, ha2, ha3, ha4, ha5, ha6, ha7, ha8, ha9, ha10, ha11, ha12, ha13, ha14, ha15, ha16, ha17, ha18, ha19, ha20]
      exact ⟨B.1, va_P_c1 eC B.2.1, va_D_fst B.2.2.1 rfl, B.2.2.2⟩
    exact W.vret hx hb hr (fun t ht hW => ⟨⟨(aa, ub.2), rfl, ⟨ha0, hpub⟩, by rw [ht]; exact B.2.1, va_K.moved hW.alike B.1, B.2.2.1⟩, B.2.2.2.1.F ht⟩) B.2.2.2.1.2.2 d_Ut_init_109 hlocks
  have loop : ∀ (j k q0 : Nat) (f : Nat → Option Nat) (a : Nat → Nat), k + j = nA κ → (∀ u, u < k → f u = some (a u)) → ∀ (H : Heap) (locs : List Loc), zB κ.1 vwCl (tysA κ) nwC (zk ([(h, .inr (5, [.ref q0, .null, .null, .null, .null, .null, .int 0])), (q0, .inl (cQ κ, nA κ, .inr (.inr (.inr (.inr f)))))] ++ utU k a)) A s.heap s zz H locs → ∀ (ls : Array Slot), lv_has ls 4 [(3, .int (nI k)), (2, .int (nI (nA κ))), (0, .ref h), (1, .int arg)] → W p l e (headSpec (zws y_Ut_init prog_1_method_1_code 4 none) ({ frames := 2, cells := 28, slots := 6351, locals := 45 })).room s m [.ref h, .int arg].toArray below meth c H locs (1 + k) (8 + 8 * k) (MQ below (va_Qv (S := (Nat → Nat) × (Nat → Int32)) (fun u => u.1 0 = h ∧ ∀ w, w < 16 → u.2 w = -1) (fun u t => va_P κ.1 vwCl (utW κ u.1 u.2 ++ utU (nA κ) (fun i => u.1 (64 + i))) t.heap ∧ va_K κ.1 vwCl (tysA κ) t ∧ va_D (A) (utW κ u.1 u.2 ++ utU (nA κ) (fun i => u.1 (64 + i)))) (A)) [.ref h, .int arg].toArray s 28 6351 A) (F0 m 25 ls []) := by
    intro j
    induction j with
    | zero =>
      intro k q0 f a hj hf H locs B ls hl
      have ek : k = nA κ := by omega
      subst ek
      refine lv_iload_n hx hb d_Ut_init_25 rfl (lv_at hl 0 rfl) ?_
      refine lv_iload_n hx hb d_Ut_init_26 rfl (lv_at hl 1 rfl) ?_
      refine lv_icmp_ge (tgt := 49) hx hb d_Ut_init_27 (by decide) (fun c_1 => ?_) (fun c_1 => ?_)
      · refine W.widen (k := 9) (n := 72) (by omega) (by omega) ?_
        exact after q0 f a hf _ _ B ls hl
      · exact absurd (nI_le (Nat.le_refl _) (by omega)) c_1
    | succ j ih =>
      intro k q0 f a hj hf H locs B ls hl
      refine lv_iload_n hx hb d_Ut_init_25 rfl (lv_at hl 0 rfl) ?_
      refine lv_iload_n hx hb d_Ut_init_26 rfl (lv_at hl 1 rfl) ?_
      refine lv_icmp_ge (tgt := 49) hx hb d_Ut_init_27 (by decide) (fun c_1 => ?_) (fun c_1 => ?_)
      · exact absurd ((nI_leI (by omega) (by omega)).mp c_1) (by omega)
      · refine lv_aload_n hx hb d_Ut_init_30 rfl (lv_at hl 2 rfl) ?_
        refine va_get (D := κ.1) (ci := 5) (v := .ref q0) (C := "UnitThreads") (T := T_Ut) (N := 7) hx hb hts in_Ut hown B.1 B.2.1 0 rfl rfl 0 (by decide) (hts _ w_167) (fun _ h9 => h9) rfl d_Ut_init_31 ?_
        refine lv_iload_n hx hb d_Ut_init_34 rfl (lv_at hl 0 rfl) ?_
        refine zcnew (pl := utU k a) (ci := 0) (fs := [.int 0, .int 0, .int 0, .int 0, .int 0, .int 0, .int 0, .int 0]) (C := "UnitThreads$Unit") (T := T_Un) (N := 8) hx hb hts in_Un ty_Un tyok_Un hown (hts _ w_25) (hts _ w_27) (hts _ w_3) B rfl (fun j hj => by rcases (show j = 0 ∨ j = 1 ∨ j = 2 ∨ j = 3 ∨ j = 4 ∨ j = 5 ∨ j = 6 ∨ j = 7 by omega) with rfl | rfl | rfl | rfl | rfl | rfl | rfl | rfl <;> rfl) (by show 1 + k + 1 ≤ 28; omega) (by show 8 + 8 * k + 8 ≤ 6351; omega) d_Ut_init_35 (fun q H B => ?_)
        have B : zB κ.1 vwCl (tysA κ) nwC (zk ([(h, .inr (5, [.ref q0, .null, .null, .null, .null, .null, .int 0])), (q0, .inl (cQ κ, nA κ, .inr (.inr (.inr (.inr f))))), (q, .inr (0, [.int 0, .int 0, .int 0, .int 0, .int 0, .int 0, .int 0, .int 0]))] ++ utU k a)) A s.heap s zz H locs := B
        refine lv_dup hx hb d_Ut_init_38 rfl ?_
        refine zcIN (pl := utU k a) (wr := [(h, .inr (5, [.ref q0, .null, .null, .null, .null, .null, .int 0])), (q0, .inl (cQ κ, nA κ, .inr (.inr (.inr (.inr f)))))]) (As := []) (rest := [.ref q, .int (nI k), .ref q0]) ⟨hx, hb, hml, hown, hts⟩ (c_Un_init l κ q) ⟨va_cnB 0 hts (zgoodC w_30) rfl rfl rfl (B.2.2.2.2.2 ("UnitThreads", 24, y_Un_init, "UnitThreads") (by decide +kernel)) (hts _ w_3) (by decide +kernel) ⟨Nat.le_of_ble_eq_true rfl, Nat.le_of_ble_eq_true rfl⟩, rfl, hts _ w_29⟩ B [2] [0, 1] rfl rfl rfl rfl (by decide) rfl hl.1 rfl (Nat.le_of_ble_eq_true rfl) d_Ut_init_39 ⟨by show 1 + k + 1 + 0 ≤ 28; omega, by show 8 + 8 * k + 8 + 0 ≤ 6351; omega⟩ (fun _ H locs _ B => ?_)
        have B : zB κ.1 vwCl (tysA κ) nwC (zk ([(h, .inr (5, [.ref q0, .null, .null, .null, .null, .null, .int 0])), (q0, .inl (cQ κ, nA κ, .inr (.inr (.inr (.inr f))))), uP q] ++ utU k a)) A s.heap s zz H locs := B
        refine va_astq (n := nA κ) (cA := cQ κ) (f := f) (r := ("UnitThreads$Unit", T_Un, 8)) hx hb B.1 B.2.1 B.2.2.1 B.2.2.2.1 1 2 2 0 rfl rfl rfl rfl (vp_in_nI (by omega) (by omega)) d_Ut_init_42 (fun H locs hP hD hS => ?_)
        rw [nI_clamp (show k < 2 ^ 31 by omega)] at hP hD
        have hP : va_P κ.1 vwCl (([(h, .inr (5, [.ref q0, .null, .null, .null, .null, .null, .int 0])), (q0, .inl (cQ κ, nA κ, .inr (.inr (.inr (.inr (va_up f k (some q)))))))] ++ [uP q]) ++ utU k a) H := hP
        have hD : va_D A (([(h, .inr (5, [.ref q0, .null, .null, .null, .null, .null, .int 0])), (q0, .inl (cQ κ, nA κ, .inr (.inr (.inr (.inr (va_up f k (some q)))))))] ++ [uP q]) ++ utU k a) := hD
        have B : zB κ.1 vwCl (tysA κ) nwC (zk ([(h, .inr (5, [.ref q0, .null, .null, .null, .null, .null, .int 0])), (q0, .inl (cQ κ, nA κ, .inr (.inr (.inr (.inr (va_up f k (some q)))))))] ++ utU (k + 1) (va_up a k q))) A s.heap s zz H locs := by
          rw [utU_push, ← List.append_assoc]
          exact ⟨B.1, hP.swap, hD.swap, hS, B.2.2.2.2⟩
        refine lv_iinc (v := nI (k + 1)) (lv' := [(3, .int (nI (k + 1))), (2, .int (nI (nA κ))), (0, .ref h), (1, .int arg)]) hx hb d_Ut_init_43 hl (k := 0) rfl (zinc _) (by decide) rfl (fun ls hl => ?_)
        refine lv_goto (tgt := 25) hx hb d_Ut_init_46 (by decide) ?_
        refine W.widen (k := 1 + (k + 1)) (n := 8 + 8 * (k + 1)) (by omega) (by omega) ?_
        refine ih (k + 1) q0 (va_up f k (some q)) (va_up a k q) (by omega) (fun u hu => ?_) _ _ B ls hl
        by_cases eu : u = k
        · subst eu; rw [va_up_self, va_up_self]
        · rw [va_up_ne _ _ eu, va_up_ne _ _ eu]; exact hf u (by omega)
  refine lv_aload_n hx hb d_Ut_init_0 rfl (lv_at hl 0 rfl) ?_
  refine W.objInit hx hb hown (hts _ w_16) (hts _ w_17) (hts _ w_18) rfl (by rw [hml]; exact hl.1) rfl d_Ut_init_1 (Nat.le_of_ble_eq_true rfl) (Nat.le_of_ble_eq_true rfl) ?_
  refine W.eq (g2 := F0 m 4 ls []) rfl ?_
  refine lv_iconst (v := 1) hx hb d_Ut_init_4 (by decide) ?_
  refine lv_bipush (v := nI 8) hx hb d_Ut_init_5 (by decide) ?_
  refine lv_iload_n hx hb d_Ut_init_7 rfl (lv_at hl 1 rfl) ?_
  refine va_mmin hx hb (hml.trans hl.1.symm) hown (hts _ w_19) (hts _ w_20) (hts _ w_2) (hts _ w_21) (Nat.le_of_ble_eq_true rfl) (Nat.le_of_ble_eq_true rfl) (Nat.zero_le _) (Nat.zero_le _) d_Ut_init_8 ?_
  refine va_mmax hx hb (hml.trans hl.1.symm) hown (hts _ w_22) (hts _ w_23) (hts _ w_2) (hts _ w_24) (Nat.le_of_ble_eq_true rfl) (Nat.le_of_ble_eq_true rfl) (Nat.zero_le _) (Nat.zero_le _) d_Ut_init_11 ?_
  refine zrwi harg ?_
  refine lv_istore_n (lv' := [(2, .int (nI (nA κ))), (0, .ref h), (1, .int arg)]) hx hb d_Ut_init_14 rfl hl (by decide) rfl (fun ls hl => ?_)
  refine lv_aload_n hx hb d_Ut_init_15 rfl (lv_at hl 1 rfl) ?_
  refine lv_iload_n hx hb d_Ut_init_16 rfl (lv_at hl 0 rfl) ?_
  refine zcnq (pl := []) (cA := cQ κ) hx hb hown (hts _ w_25) hao 2 rfl B (nA κ) rfl (by omega) (Nat.le_of_ble_eq_true rfl) (by show 0 + nA κ ≤ 6351; omega) d_Ut_init_17 (fun q0 H B => ?_)
  refine W.widen (k := 1) (n := 8) (by omega) (by omega) ?_
  refine zcputF (pl := []) (X := [(q0, .inl (cQ κ, nA κ, .inr (.inr (.inr (.inr (fun _ => none))))))]) (C := "UnitThreads") (T := T_Ut) (N := 7) (ty := (.array (.object "UnitThreads$Unit"))) hx hb hts in_Ut ty_Ut tyok_Ut nm_Ut hown B rfl 0 (by decide) (hts _ w_167) (fun _ h9 => h9) rfl hin rfl (by decide +kernel) rfl rfl (Nat.le_of_ble_eq_true rfl) d_Ut_init_20 (fun H locs B => ?_)
  refine lv_iconst (v := nI 0) hx hb d_Ut_init_23 (by decide) ?_
  refine lv_istore_n (lv' := [(3, .int (nI 0)), (2, .int (nI (nA κ))), (0, .ref h), (1, .int arg)]) hx hb d_Ut_init_24 rfl hl (by decide) rfl (fun ls hl => ?_)
  exact loop (nA κ) 0 q0 (fun _ => none) (fun _ => 0) (by omega) (fun u hu => absurd hu (Nat.not_lt_zero u)) _ _ B ls hl
