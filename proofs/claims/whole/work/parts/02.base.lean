/-! A state is a table of ints and a table of longs, by a field's number and a place; a world is a list of cells that a state lays. -/
abbrev zS : Type := (Nat → Nat → Int32) × (Nat → Nat → Int64)
def zi (σ : zS) (f i : Nat) (v : Int32) : zS := (fun g j => if g = f ∧ j = i then v else σ.1 g j, σ.2)
def zl (σ : zS) (f i : Nat) (v : Int64) : zS := (σ.1, fun g j => if g = f ∧ j = i then v else σ.2 g j)
theorem zi_2 (σ : zS) (f i : Nat) (v : Int32) : (zi σ f i v).2 = σ.2 := rfl
theorem zl_1 (σ : zS) (f i : Nat) (v : Int64) : (zl σ f i v).1 = σ.1 := rfl
theorem zi_eq (σ : zS) (f i : Nat) (v : Int32) : (zi σ f i v).1 f i = v := if_pos ⟨rfl, rfl⟩
theorem zi_nf (σ : zS) {f i g : Nat} (v : Int32) (h : g ≠ f) : (zi σ f i v).1 g = σ.1 g := funext fun _ => if_neg (fun q => h q.1)
theorem zi_ni (σ : zS) {f i j : Nat} (v : Int32) (h : j ≠ i) : (zi σ f i v).1 f j = σ.1 f j := if_neg (fun q => h q.2)
theorem zi_upd (σ : zS) (f i : Nat) (v : Int32) : (zi σ f i v).1 f = upd (σ.1 f) i v := by
  funext j
  by_cases h : j = i
  · subst h; rw [zi_eq, pk_us]
  · rw [zi_ni _ _ h, pk_un h]
theorem zl_eq (σ : zS) (f i : Nat) (v : Int64) : (zl σ f i v).2 f i = v := if_pos ⟨rfl, rfl⟩
theorem zl_nf (σ : zS) {f i g : Nat} (v : Int64) (h : g ≠ f) : (zl σ f i v).2 g = σ.2 g := funext fun _ => if_neg (fun q => h q.1)
theorem zl_ni (σ : zS) {f i j : Nat} (v : Int64) (h : j ≠ i) : (zl σ f i v).2 f j = σ.2 f j := if_neg (fun q => h q.2)
theorem zl_upd (σ : zS) (f i : Nat) (v : Int64) : (zl σ f i v).2 f = vp_updL (σ.2 f) i v := by
  funext j
  by_cases h : j = i
  · subst h; rw [zl_eq, pk_uLs]
  · rw [zl_ni _ _ h, pk_uLn h]
/-- a nest mate's link: owner, place, method, host -/
abbrev zN : Type := String × Nat × MethodName × String
def zNw (x : zN) : Cond := .methodLinkNest x.1 x.2.1 x.2.2.1 x.2.2.2
/-- the walk's bundle -/
def zB (D : va_G) (cl : List vw_C) (tys : List (ClassId × FieldType)) (nw : List zN) (w : zS → va_W) (A : Nat → Prop) (H0 : Heap) (s : State) (σ : zS) (H : Heap) (locs : List Loc) : Prop :=
  va_K D cl tys s ∧ va_P D cl (w σ) H ∧ va_D A (w σ) ∧ va_S A H0 H locs ∧ (∀ q, H0.size ≤ q → A q) ∧ ∀ x ∈ nw, va_Nw (zNw x) s
def zP (D : va_G) (cl : List vw_C) (tys : List (ClassId × FieldType)) (nw : List zN) (w : zS → va_W) (sz : Nat) (σ : zS) (U : State) : Prop :=
  U.heap.size = sz ∧ va_P D cl (w σ) U.heap ∧ va_K D cl tys U ∧ va_D (fun _ => True) (w σ) ∧ ∀ x ∈ nw, va_Nw (zNw x) U
def zQ (D : va_G) (cl : List vw_C) (tys : List (ClassId × FieldType)) (w : zS → va_W) (A : Nat → Prop) (σ : zS) (t : State) : Prop :=
  va_P D cl (w σ) t.heap ∧ va_K D cl tys t ∧ va_D A (w σ)
abbrev zMi (l : Launch) (y : MethodName) (ws : List Cond) (rm : Room) (D : va_G) (cl : List vw_C) (tys : List (ClassId × FieldType)) (nw : List zN) (w : zS → va_W) (σ : zS) (As : List Value) (post : Int32 → zS → Prop) : Prop :=
  ∀ sz : Nat, Met l y ws rm (va_Pc As (zP D cl tys nw w sz σ)) (va_Qi post (zQ D cl tys w (va_A (w σ) sz)) (va_A (w σ) sz)) 0 0 (va_A (w σ) sz)
abbrev zMl (l : Launch) (y : MethodName) (ws : List Cond) (rm : Room) (D : va_G) (cl : List vw_C) (tys : List (ClassId × FieldType)) (nw : List zN) (w : zS → va_W) (σ : zS) (As : List Value) (post : Int64 → zS → Prop) : Prop :=
  ∀ sz : Nat, Met l y ws rm (va_Pc As (zP D cl tys nw w sz σ)) (va_Ql post (zQ D cl tys w (va_A (w σ) sz)) (va_A (w σ) sz)) 0 0 (va_A (w σ) sz)
abbrev zMv (l : Launch) (y : MethodName) (ws : List Cond) (rm : Room) (D : va_G) (cl : List vw_C) (tys : List (ClassId × FieldType)) (nw : List zN) (w : zS → va_W) (σ : zS) (As : List Value) (post : zS → Prop) : Prop :=
  ∀ sz : Nat, Met l y ws rm (va_Pc As (zP D cl tys nw w sz σ)) (va_Qv post (zQ D cl tys w (va_A (w σ) sz)) (va_A (w σ) sz)) 0 0 (va_A (w σ) sz)
theorem zP_blind {D : va_G} {cl : List vw_C} {tys : List (ClassId × FieldType)} {nw : List zN} {w : zS → va_W} {σ : zS} {sz : Nat} {As : List Value} : FrameBlind (va_Pc As (zP D cl tys nw w sz σ)) := fun a U g mk q => by
  obtain ⟨q0, q1, qP, qK, qD, qN⟩ := q
  exact ⟨q0, q1, qP, va_K.moved (u := U) (U := U.calling g mk a) (Vm.Alike.refl U.vm) qK, qD, fun x hx => va_Nw.same rfl (u := U) (U := U.calling g mk a) rfl (qN x hx)⟩
theorem zB_pre {D : va_G} {cl : List vw_C} {tys : List (ClassId × FieldType)} {nw : List zN} {w : zS → va_W} {A : Nat → Prop} {H0 : Heap} {s : State} {σ : zS} {H : Heap} {locs : List Loc} {As : List Value} (B : zB D cl tys nw w A H0 s σ H locs) : ∀ U : State, U.heap = H → s.WarmedH U.vm → va_Pc As (zP D cl tys nw w H.size σ) As.toArray U := fun U hU hW =>
  ⟨rfl, by rw [hU], by rw [hU]; exact B.2.1, va_K.moved hW.alike B.1, B.2.2.1.weaken (fun _ _ _ _ => trivial), fun x hx => va_Nw.warmM hW (B.2.2.2.2.2 x hx)⟩
theorem zB_free {D : va_G} {cl : List vw_C} {tys : List (ClassId × FieldType)} {nw : List zN} {w : zS → va_W} {A : Nat → Prop} {H0 : Heap} {s : State} {σ : zS} {H : Heap} {locs : List Loc} (B : zB D cl tys nw w A H0 s σ H locs) : ∀ q, va_A (w σ) H.size q → A q := fun q h => by
  rcases h with ⟨k, e, h⟩ | h
  · exact B.2.2.1.2 k (q, e) h
  · exact B.2.2.2.2.1 q (Nat.le_trans B.2.2.2.1.1 h)
theorem zB_next {D : va_G} {cl : List vw_C} {tys : List (ClassId × FieldType)} {nw : List zN} {w : zS → va_W} {A A1 : Nat → Prop} {H0 : Heap} {s t : State} {σ σ' : zS} {H H1 : Heap} {locs locs1 : List Loc} (B : zB D cl tys nw w A H0 s σ H locs) (ht : t.heap = H1) (hB : zQ D cl tys w A1 σ' t) (hA : ∀ q, A1 q → A q) (hS : va_S A H0 H1 locs1) : zB D cl tys nw w A H0 s σ' H1 locs1 :=
  ⟨B.1, by rw [← ht]; exact hB.1, hB.2.2.weaken (fun _ q _ h => hA q.1 h), hS, B.2.2.2.2.1, B.2.2.2.2.2⟩
section ZB
variable {p : Program} {l : Launch} {e : Env} {R : Room} {s : State} {m : MethodId} {args : Array Value} {below : List Frame} {meth : Method} {c : Code} {H : Heap} {locs : List Loc} {cells slots : Nat} {Q : State → Prop}
variable {cc : ByteArray} {pc : Nat} {ls : Array Slot} {rest st0 : List Value} {D : va_G} {cl : List vw_C} {A : Nat → Prop} {a : Nat} {tys : List (ClassId × FieldType)} {nw : List zN} {w : zS → va_W} {σ : zS} {H0 : Heap}
variable {y : MethodName} {bytes : ByteArray} {maxL nL n index : Nat} {ret : Option FieldType} {ws ws' Ts : List Cond} {rm : Room} {own C host : String} {b : Addr} {As : List Value}
theorem zrecv (B : zB D cl tys nw w A H0 s σ H locs) {ci q0 : Nat} {q : vw_C} {fs : List Value} (hc : cl[ci]? = some q) (he : (w σ)[q0]? = some (a, .inr (ci, fs))) : ∃ cell : Cell, H[a]? = some cell ∧ cell.vm.isStatics = false ∧ s.vm.findClass q.1 = some cell.cls := va_recv B.1 B.2.1 hc he
theorem ziald (hexec : p.tables.exec = Jvm.exec) (hb : c.code = cc) (B : zB D cl tys nw w A H0 s σ H locs) (q0 t0 : Nat) {cA : ClassId} {N : Nat} {f : Nat → Int32} (ha : (w σ)[q0]? = some (a, .inl (cA, N, .inl f))) (ht : tys[t0]? = some (cA, .int)) {i : Int32} (k : Nat) (hi : i = nI k) (hk : k < N) (hN : N < 2 ^ 31) (hdg : decode cc pc = .ok (.iaload, 1))
    (kk : W p l e R s m args below meth c H locs cells slots Q (F0 m (pc + 1) ls (.int (f k) :: rest))) : W p l e R s m args below meth c H locs cells slots Q (F0 m pc ls (.int i :: .ref a :: rest)) := by
  subst hi
  refine va_iald hexec hb B.1 B.2.1 q0 t0 ha ht (vp_in_nI hk hN) hdg ?_
  rw [nI_clamp (Nat.lt_trans hk hN)]
  exact kk
theorem zlald (hexec : p.tables.exec = Jvm.exec) (hb : c.code = cc) (B : zB D cl tys nw w A H0 s σ H locs) (q0 t0 : Nat) {cA : ClassId} {N : Nat} {f : Nat → Int64} (ha : (w σ)[q0]? = some (a, .inl (cA, N, .inr (.inl f)))) (ht : tys[t0]? = some (cA, .long)) {i : Int32} (k : Nat) (hi : i = nI k) (hk : k < N) (hN : N < 2 ^ 31) (hdg : decode cc pc = .ok (.laload, 1))
    (kk : W p l e R s m args below meth c H locs cells slots Q (F0 m (pc + 1) ls (.long (f k) :: rest))) : W p l e R s m args below meth c H locs cells slots Q (F0 m pc ls (.int i :: .ref a :: rest)) := by
  subst hi
  refine va_lald hexec hb B.1 B.2.1 q0 t0 ha ht (vp_in_nI hk hN) hdg ?_
  rw [nI_clamp (Nat.lt_trans hk hN)]
  exact kk
theorem zaald (hexec : p.tables.exec = Jvm.exec) (hb : c.code = cc) (B : zB D cl tys nw w A H0 s σ H locs) (q0 t0 : Nat) {cA : ClassId} {C0 : String} {N v : Nat} {f : Nat → Option Nat} (ha : (w σ)[q0]? = some (a, .inl (cA, N, .inr (.inr (.inr (.inr f)))))) (ht : tys[t0]? = some (cA, .object C0)) {i : Int32} (k : Nat) (hi : i = nI k) (hk : k < N) (hN : N < 2 ^ 31) (hv : f k = some v) (hdg : decode cc pc = .ok (.aaload, 1))
    (kk : W p l e R s m args below meth c H locs cells slots Q (F0 m (pc + 1) ls (.ref v :: rest))) : W p l e R s m args below meth c H locs cells slots Q (F0 m pc ls (.int i :: .ref a :: rest)) := by
  subst hi
  refine va_aldq hexec hb B.1 B.2.1 q0 t0 ha ht (vp_in_nI hk hN) hdg ?_
  rw [nI_clamp (Nat.lt_trans hk hN), hv]
  exact kk
theorem zalen (hexec : p.tables.exec = Jvm.exec) (hb : c.code = cc) (B : zB D cl tys nw w A H0 s σ H locs) (q0 t0 : Nat) {cA : ClassId} {x : vp_A} (ha : (w σ)[q0]? = some (a, .inl (cA, x))) {ty : FieldType} (ht : tys[t0]? = some (cA, ty)) (hdg : decode cc pc = .ok (.arraylength, 1))
    (kk : W p l e R s m args below meth c H locs cells slots Q (F0 m (pc + 1) ls (.int (nI x.1) :: rest))) : W p l e R s m args below meth c H locs cells slots Q (F0 m pc ls (.ref a :: rest)) := va_alen hexec hb B.1 B.2.1 q0 t0 ha ht rfl hdg kk
theorem ziast (hexec : p.tables.exec = Jvm.exec) (hb : c.code = cc) (B : zB D cl tys nw w A H0 s σ H locs) (q0 t0 : Nat) {cA : ClassId} {N f : Nat} (ha : (w σ)[q0]? = some (a, .inl (cA, N, .inl (σ.1 f)))) (ht : tys[t0]? = some (cA, .int)) {i x : Int32} (k : Nat) (hi : i = nI k) (hk : k < N) (hN : N < 2 ^ 31) (hset : (w σ).set q0 (a, .inl (cA, N, .inl ((zi σ f k x).1 f))) = w (zi σ f k x)) (hdg : decode cc pc = .ok (.iastore, 1))
    (kk : ∀ (H1 : Heap) (locs1 : List Loc), zB D cl tys nw w A H0 s (zi σ f k x) H1 locs1 → W p l e R s m args below meth c H1 locs1 cells slots Q (F0 m (pc + 1) ls rest)) : W p l e R s m args below meth c H locs cells slots Q (F0 m pc ls (.int x :: .int i :: .ref a :: rest)) := by
  subst hi
  rw [zi_upd] at hset
  refine va_iast hexec hb B.1 B.2.1 B.2.2.1 B.2.2.2.1 q0 t0 ha ht (vp_in_nI hk hN) hdg (fun H1 locs1 hP hD hS => ?_)
  rw [nI_clamp (Nat.lt_trans hk hN), hset] at hP hD
  exact kk H1 locs1 ⟨B.1, hP, hD, hS, B.2.2.2.2⟩
theorem zlast (hexec : p.tables.exec = Jvm.exec) (hb : c.code = cc) (B : zB D cl tys nw w A H0 s σ H locs) (q0 t0 : Nat) {cA : ClassId} {N f : Nat} (ha : (w σ)[q0]? = some (a, .inl (cA, N, .inr (.inl (σ.2 f))))) (ht : tys[t0]? = some (cA, .long)) {i : Int32} {x : Int64} (k : Nat) (hi : i = nI k) (hk : k < N) (hN : N < 2 ^ 31) (hset : (w σ).set q0 (a, .inl (cA, N, .inr (.inl ((zl σ f k x).2 f)))) = w (zl σ f k x)) (hdg : decode cc pc = .ok (.lastore, 1))
    (kk : ∀ (H1 : Heap) (locs1 : List Loc), zB D cl tys nw w A H0 s (zl σ f k x) H1 locs1 → W p l e R s m args below meth c H1 locs1 cells slots Q (F0 m (pc + 1) ls rest)) : W p l e R s m args below meth c H locs cells slots Q (F0 m pc ls (.long x :: .int i :: .ref a :: rest)) := by
  subst hi
  rw [zl_upd] at hset
  refine va_last hexec hb B.1 B.2.1 B.2.2.1 B.2.2.2.1 q0 t0 ha ht (vp_in_nI hk hN) hdg (fun H1 locs1 hP hD hS => ?_)
  rw [nI_clamp (Nat.lt_trans hk hN), hset] at hP hD
  exact kk H1 locs1 ⟨B.1, hP, hD, hS, B.2.2.2.2⟩
theorem zput (hexec : p.tables.exec = Jvm.exec) (hb : c.code = cc) {ref : String} {T : u_T} {N ci : Nat} (hts : ∀ w ∈ Ts, w.before args s = true) (hin : ∀ w ∈ u_ws C T N, w ∈ Ts) (ty0 : Nat → FieldType) (hty : ∀ k, k < N → parseFieldDescriptor (T k).2.2.1 = some (ty0 k)) (hnm : ∀ a, a < N → ∀ b, b < N → a ≠ b → (T a).2.1 ≠ (T b).2.1) (hown : s.vm.findClass own = some m.cls) (B : zB D cl tys nw w A H0 s σ H locs) (q0 : Nat) {fs : List Value} (he : (w σ)[q0]? = some (a, .inr (ci, fs))) (hc : cl[ci]? = some (C, T, N)) (k : Nat) (hk : k < N) (hlink : (Cond.fieldLink own index ref (T k).2.1 (T k).2.2.1).before args s = true) (hsame : ∀ x, s.fieldFound? (T k).1 (T k).2.1 (T k).2.2.1 = some x → s.fieldFound? ref (T k).2.1 (T k).2.2.1 = some x) (hfin : (T k).2.2.2 = false) {ty : FieldType} {v : Value} (hd : parseFieldDescriptor (T k).2.2.1 = some ty) (hn : narrow ty v = v) (hfit : fits ty v = true) (hl : k < fs.length) {σ' : zS} (hset : (w σ).set q0 (a, .inr (ci, fs.set k v)) = w σ')
    (hdg : decode cc pc = .ok (.putfield index, 3)) (kk : ∀ (H1 : Heap) (locs1 : List Loc), zB D cl tys nw w A H0 s σ' H1 locs1 → W p l e R s m args below meth c H1 locs1 cells slots Q (F0 m (pc + 3) ls rest)) : W p l e R s m args below meth c H locs cells slots Q (F0 m pc ls (v :: .ref a :: rest)) := by
  refine va_put hexec hb hts hin ty0 hty hnm hown B.1 B.2.1 B.2.2.1 B.2.2.2.1 q0 he hc k hk hlink hsame hfin hd hn hfit hl hdg (fun H1 locs1 hP hD hS => ?_)
  rw [hset] at hP hD
  exact kk H1 locs1 ⟨B.1, hP, hD, hS, B.2.2.2.2⟩
theorem zcV_i {post : Int32 → zS → Prop} (S : CallFix p m c cc nL s args Ts own) (hM : zMi l y ws rm D cl tys nw w σ (.ref b :: As) post) (cw : CallW R s args own C index y bytes maxL ret ws rm 0 0 n) (B : zB D cl tys nw w A H0 s σ H locs) (hrec : ∃ cell : Cell, H[b]? = some cell ∧ cell.vm.isStatics = false ∧ s.vm.findClass C = some cell.cls) (hn : As.length = n) (hls : ls.size = nL) (hst : st0 = As.reverse ++ .ref b :: rest) (hW : (rest.map fun v => v.category).sum ≤ 8) (hdg : decode cc pc = .ok (.invokevirtual index, 3)) (hf : cells ≤ R.cells ∧ slots ≤ R.slots)
    (kk : ∀ (r : Int32) (σ' : zS) (H1 : Heap) (locs1 : List Loc), post r σ' → zB D cl tys nw w A H0 s σ' H1 locs1 → W p l e R s m args below meth c H1 locs1 cells slots Q (F0 m (pc + 3) ls (.int r :: rest))) : W p l e R s m args below meth c H locs cells slots Q (F0 m pc ls st0) :=
  va_calli (va_runV (g := F0 m pc ls st0) S (hM H.size) cw ⟨zP_blind, hrec, zB_pre B⟩ rfl hn hls hst (lv_room (m := m) (pc := pc) (ls := ls) (rest := st0) hW) hdg hf) B.2.2.2.1 (fun q _ h => zB_free B q h) (zB_free B) (fun r u t H1 locs1 ht hvm hp hB hz hk hS => kk r u H1 locs1 hp (zB_next B ht hB (zB_free B) hS))
theorem zcS_i {post : Int32 → zS → Prop} (S : CallFix p m c cc nL s args Ts own) (hM : zMi l y ws rm D cl tys nw w σ As post) (cw : CallB R s args own index y bytes maxL ret ws rm 0 0 n ∧ (Cond.static y).before args s = true) (B : zB D cl tys nw w A H0 s σ H locs) (hn : As.length = n) (hls : ls.size = nL) (hst : st0 = As.reverse ++ rest) (hW : (rest.map fun v => v.category).sum ≤ 8) (hdg : decode cc pc = .ok (.invokestatic index, 3)) (hf : cells ≤ R.cells ∧ slots ≤ R.slots)
    (kk : ∀ (r : Int32) (σ' : zS) (H1 : Heap) (locs1 : List Loc), post r σ' → zB D cl tys nw w A H0 s σ' H1 locs1 → W p l e R s m args below meth c H1 locs1 cells slots Q (F0 m (pc + 3) ls (.int r :: rest))) : W p l e R s m args below meth c H locs cells slots Q (F0 m pc ls st0) :=
  va_calli (va_runS (g := F0 m pc ls st0) S (hM H.size) cw ⟨zP_blind, zB_pre B⟩ rfl hn hls hst (lv_room (m := m) (pc := pc) (ls := ls) (rest := st0) hW) hdg hf) B.2.2.2.1 (fun q _ h => zB_free B q h) (zB_free B) (fun r u t H1 locs1 ht hvm hp hB hz hk hS => kk r u H1 locs1 hp (zB_next B ht hB (zB_free B) hS))
theorem zcSN_i {post : Int32 → zS → Prop} (S : CallFix p m c cc nL s args Ts own) (hM : zMi l y ws rm D cl tys nw w σ As post) (cw : va_CN R s args own index y host bytes maxL ret ws rm 0 0 n ∧ (Cond.static y).before args s = true ∧ True) (B : zB D cl tys nw w A H0 s σ H locs) (hn : As.length = n) (hls : ls.size = nL) (hst : st0 = As.reverse ++ rest) (hW : (rest.map fun v => v.category).sum ≤ 8) (hdg : decode cc pc = .ok (.invokestatic index, 3)) (hf : cells ≤ R.cells ∧ slots ≤ R.slots)
    (kk : ∀ (r : Int32) (σ' : zS) (H1 : Heap) (locs1 : List Loc), post r σ' → zB D cl tys nw w A H0 s σ' H1 locs1 → W p l e R s m args below meth c H1 locs1 cells slots Q (F0 m (pc + 3) ls (.int r :: rest))) : W p l e R s m args below meth c H locs cells slots Q (F0 m pc ls st0) :=
  va_calli (va_runSN (g := F0 m pc ls st0) S (hM H.size) cw ⟨zP_blind, zB_pre B⟩ rfl hn hls hst (lv_room (m := m) (pc := pc) (ls := ls) (rest := st0) hW) hdg hf) B.2.2.2.1 (fun q _ h => zB_free B q h) (zB_free B) (fun r u t H1 locs1 ht hvm hp hB hz hk hS => kk r u H1 locs1 hp (zB_next B ht hB (zB_free B) hS))
theorem zcVN_i {post : Int32 → zS → Prop} (S : CallFix p m c cc nL s args Ts own) (hM : zMi l y ws rm D cl tys nw w σ (.ref b :: As) post) (cw : va_CN R s args own index y host bytes maxL ret ws rm 0 0 n ∧ (Cond.instanceMethod y).before args s = true ∧ (Cond.selects C y y).before args s = true) (B : zB D cl tys nw w A H0 s σ H locs) (hrec : ∃ cell : Cell, H[b]? = some cell ∧ cell.vm.isStatics = false ∧ s.vm.findClass C = some cell.cls) (hn : As.length = n) (hls : ls.size = nL) (hst : st0 = As.reverse ++ .ref b :: rest) (hW : (rest.map fun v => v.category).sum ≤ 8) (hdg : decode cc pc = .ok (.invokevirtual index, 3)) (hf : cells ≤ R.cells ∧ slots ≤ R.slots)
    (kk : ∀ (r : Int32) (σ' : zS) (H1 : Heap) (locs1 : List Loc), post r σ' → zB D cl tys nw w A H0 s σ' H1 locs1 → W p l e R s m args below meth c H1 locs1 cells slots Q (F0 m (pc + 3) ls (.int r :: rest))) : W p l e R s m args below meth c H locs cells slots Q (F0 m pc ls st0) :=
  va_calli (va_runVN (g := F0 m pc ls st0) S (hM H.size) cw ⟨zP_blind, hrec, zB_pre B⟩ rfl hn hls hst (lv_room (m := m) (pc := pc) (ls := ls) (rest := st0) hW) hdg hf) B.2.2.2.1 (fun q _ h => zB_free B q h) (zB_free B) (fun r u t H1 locs1 ht hvm hp hB hz hk hS => kk r u H1 locs1 hp (zB_next B ht hB (zB_free B) hS))
theorem zcV_l {post : Int64 → zS → Prop} (S : CallFix p m c cc nL s args Ts own) (hM : zMl l y ws rm D cl tys nw w σ (.ref b :: As) post) (cw : CallW R s args own C index y bytes maxL ret ws rm 0 0 n) (B : zB D cl tys nw w A H0 s σ H locs) (hrec : ∃ cell : Cell, H[b]? = some cell ∧ cell.vm.isStatics = false ∧ s.vm.findClass C = some cell.cls) (hn : As.length = n) (hls : ls.size = nL) (hst : st0 = As.reverse ++ .ref b :: rest) (hW : (rest.map fun v => v.category).sum ≤ 8) (hdg : decode cc pc = .ok (.invokevirtual index, 3)) (hf : cells ≤ R.cells ∧ slots ≤ R.slots)
    (kk : ∀ (r : Int64) (σ' : zS) (H1 : Heap) (locs1 : List Loc), post r σ' → zB D cl tys nw w A H0 s σ' H1 locs1 → W p l e R s m args below meth c H1 locs1 cells slots Q (F0 m (pc + 3) ls (.long r :: rest))) : W p l e R s m args below meth c H locs cells slots Q (F0 m pc ls st0) :=
  va_calll (va_runV (g := F0 m pc ls st0) S (hM H.size) cw ⟨zP_blind, hrec, zB_pre B⟩ rfl hn hls hst (lv_room (m := m) (pc := pc) (ls := ls) (rest := st0) hW) hdg hf) B.2.2.2.1 (fun q _ h => zB_free B q h) (zB_free B) (fun r u t H1 locs1 ht hvm hp hB hz hk hS => kk r u H1 locs1 hp (zB_next B ht hB (zB_free B) hS))
theorem zcS_l {post : Int64 → zS → Prop} (S : CallFix p m c cc nL s args Ts own) (hM : zMl l y ws rm D cl tys nw w σ As post) (cw : CallB R s args own index y bytes maxL ret ws rm 0 0 n ∧ (Cond.static y).before args s = true) (B : zB D cl tys nw w A H0 s σ H locs) (hn : As.length = n) (hls : ls.size = nL) (hst : st0 = As.reverse ++ rest) (hW : (rest.map fun v => v.category).sum ≤ 8) (hdg : decode cc pc = .ok (.invokestatic index, 3)) (hf : cells ≤ R.cells ∧ slots ≤ R.slots)
    (kk : ∀ (r : Int64) (σ' : zS) (H1 : Heap) (locs1 : List Loc), post r σ' → zB D cl tys nw w A H0 s σ' H1 locs1 → W p l e R s m args below meth c H1 locs1 cells slots Q (F0 m (pc + 3) ls (.long r :: rest))) : W p l e R s m args below meth c H locs cells slots Q (F0 m pc ls st0) :=
  va_calll (va_runS (g := F0 m pc ls st0) S (hM H.size) cw ⟨zP_blind, zB_pre B⟩ rfl hn hls hst (lv_room (m := m) (pc := pc) (ls := ls) (rest := st0) hW) hdg hf) B.2.2.2.1 (fun q _ h => zB_free B q h) (zB_free B) (fun r u t H1 locs1 ht hvm hp hB hz hk hS => kk r u H1 locs1 hp (zB_next B ht hB (zB_free B) hS))
theorem zcSN_l {post : Int64 → zS → Prop} (S : CallFix p m c cc nL s args Ts own) (hM : zMl l y ws rm D cl tys nw w σ As post) (cw : va_CN R s args own index y host bytes maxL ret ws rm 0 0 n ∧ (Cond.static y).before args s = true ∧ True) (B : zB D cl tys nw w A H0 s σ H locs) (hn : As.length = n) (hls : ls.size = nL) (hst : st0 = As.reverse ++ rest) (hW : (rest.map fun v => v.category).sum ≤ 8) (hdg : decode cc pc = .ok (.invokestatic index, 3)) (hf : cells ≤ R.cells ∧ slots ≤ R.slots)
    (kk : ∀ (r : Int64) (σ' : zS) (H1 : Heap) (locs1 : List Loc), post r σ' → zB D cl tys nw w A H0 s σ' H1 locs1 → W p l e R s m args below meth c H1 locs1 cells slots Q (F0 m (pc + 3) ls (.long r :: rest))) : W p l e R s m args below meth c H locs cells slots Q (F0 m pc ls st0) :=
  va_calll (va_runSN (g := F0 m pc ls st0) S (hM H.size) cw ⟨zP_blind, zB_pre B⟩ rfl hn hls hst (lv_room (m := m) (pc := pc) (ls := ls) (rest := st0) hW) hdg hf) B.2.2.2.1 (fun q _ h => zB_free B q h) (zB_free B) (fun r u t H1 locs1 ht hvm hp hB hz hk hS => kk r u H1 locs1 hp (zB_next B ht hB (zB_free B) hS))
theorem zcVN_l {post : Int64 → zS → Prop} (S : CallFix p m c cc nL s args Ts own) (hM : zMl l y ws rm D cl tys nw w σ (.ref b :: As) post) (cw : va_CN R s args own index y host bytes maxL ret ws rm 0 0 n ∧ (Cond.instanceMethod y).before args s = true ∧ (Cond.selects C y y).before args s = true) (B : zB D cl tys nw w A H0 s σ H locs) (hrec : ∃ cell : Cell, H[b]? = some cell ∧ cell.vm.isStatics = false ∧ s.vm.findClass C = some cell.cls) (hn : As.length = n) (hls : ls.size = nL) (hst : st0 = As.reverse ++ .ref b :: rest) (hW : (rest.map fun v => v.category).sum ≤ 8) (hdg : decode cc pc = .ok (.invokevirtual index, 3)) (hf : cells ≤ R.cells ∧ slots ≤ R.slots)
    (kk : ∀ (r : Int64) (σ' : zS) (H1 : Heap) (locs1 : List Loc), post r σ' → zB D cl tys nw w A H0 s σ' H1 locs1 → W p l e R s m args below meth c H1 locs1 cells slots Q (F0 m (pc + 3) ls (.long r :: rest))) : W p l e R s m args below meth c H locs cells slots Q (F0 m pc ls st0) :=
  va_calll (va_runVN (g := F0 m pc ls st0) S (hM H.size) cw ⟨zP_blind, hrec, zB_pre B⟩ rfl hn hls hst (lv_room (m := m) (pc := pc) (ls := ls) (rest := st0) hW) hdg hf) B.2.2.2.1 (fun q _ h => zB_free B q h) (zB_free B) (fun r u t H1 locs1 ht hvm hp hB hz hk hS => kk r u H1 locs1 hp (zB_next B ht hB (zB_free B) hS))
theorem zcV_v {post : zS → Prop} (S : CallFix p m c cc nL s args Ts own) (hM : zMv l y ws rm D cl tys nw w σ (.ref b :: As) post) (cw : CallW R s args own C index y bytes maxL ret ws rm 0 0 n) (B : zB D cl tys nw w A H0 s σ H locs) (hrec : ∃ cell : Cell, H[b]? = some cell ∧ cell.vm.isStatics = false ∧ s.vm.findClass C = some cell.cls) (hn : As.length = n) (hls : ls.size = nL) (hst : st0 = As.reverse ++ .ref b :: rest) (hW : (rest.map fun v => v.category).sum ≤ 8) (hdg : decode cc pc = .ok (.invokevirtual index, 3)) (hf : cells ≤ R.cells ∧ slots ≤ R.slots)
    (kk : ∀ (σ' : zS) (H1 : Heap) (locs1 : List Loc), post σ' → zB D cl tys nw w A H0 s σ' H1 locs1 → W p l e R s m args below meth c H1 locs1 cells slots Q (F0 m (pc + 3) ls (rest))) : W p l e R s m args below meth c H locs cells slots Q (F0 m pc ls st0) :=
  va_callv (va_runV (g := F0 m pc ls st0) S (hM H.size) cw ⟨zP_blind, hrec, zB_pre B⟩ rfl hn hls hst (lv_room (m := m) (pc := pc) (ls := ls) (rest := st0) hW) hdg hf) B.2.2.2.1 (fun q _ h => zB_free B q h) (zB_free B) (fun u t H1 locs1 ht hvm hp hB hz hk hS => kk u H1 locs1 hp (zB_next B ht hB (zB_free B) hS))
theorem zcS_v {post : zS → Prop} (S : CallFix p m c cc nL s args Ts own) (hM : zMv l y ws rm D cl tys nw w σ As post) (cw : CallB R s args own index y bytes maxL ret ws rm 0 0 n ∧ (Cond.static y).before args s = true) (B : zB D cl tys nw w A H0 s σ H locs) (hn : As.length = n) (hls : ls.size = nL) (hst : st0 = As.reverse ++ rest) (hW : (rest.map fun v => v.category).sum ≤ 8) (hdg : decode cc pc = .ok (.invokestatic index, 3)) (hf : cells ≤ R.cells ∧ slots ≤ R.slots)
    (kk : ∀ (σ' : zS) (H1 : Heap) (locs1 : List Loc), post σ' → zB D cl tys nw w A H0 s σ' H1 locs1 → W p l e R s m args below meth c H1 locs1 cells slots Q (F0 m (pc + 3) ls (rest))) : W p l e R s m args below meth c H locs cells slots Q (F0 m pc ls st0) :=
  va_callv (va_runS (g := F0 m pc ls st0) S (hM H.size) cw ⟨zP_blind, zB_pre B⟩ rfl hn hls hst (lv_room (m := m) (pc := pc) (ls := ls) (rest := st0) hW) hdg hf) B.2.2.2.1 (fun q _ h => zB_free B q h) (zB_free B) (fun u t H1 locs1 ht hvm hp hB hz hk hS => kk u H1 locs1 hp (zB_next B ht hB (zB_free B) hS))
theorem zcSN_v {post : zS → Prop} (S : CallFix p m c cc nL s args Ts own) (hM : zMv l y ws rm D cl tys nw w σ As post) (cw : va_CN R s args own index y host bytes maxL ret ws rm 0 0 n ∧ (Cond.static y).before args s = true ∧ True) (B : zB D cl tys nw w A H0 s σ H locs) (hn : As.length = n) (hls : ls.size = nL) (hst : st0 = As.reverse ++ rest) (hW : (rest.map fun v => v.category).sum ≤ 8) (hdg : decode cc pc = .ok (.invokestatic index, 3)) (hf : cells ≤ R.cells ∧ slots ≤ R.slots)
    (kk : ∀ (σ' : zS) (H1 : Heap) (locs1 : List Loc), post σ' → zB D cl tys nw w A H0 s σ' H1 locs1 → W p l e R s m args below meth c H1 locs1 cells slots Q (F0 m (pc + 3) ls (rest))) : W p l e R s m args below meth c H locs cells slots Q (F0 m pc ls st0) :=
  va_callv (va_runSN (g := F0 m pc ls st0) S (hM H.size) cw ⟨zP_blind, zB_pre B⟩ rfl hn hls hst (lv_room (m := m) (pc := pc) (ls := ls) (rest := st0) hW) hdg hf) B.2.2.2.1 (fun q _ h => zB_free B q h) (zB_free B) (fun u t H1 locs1 ht hvm hp hB hz hk hS => kk u H1 locs1 hp (zB_next B ht hB (zB_free B) hS))
theorem zcVN_v {post : zS → Prop} (S : CallFix p m c cc nL s args Ts own) (hM : zMv l y ws rm D cl tys nw w σ (.ref b :: As) post) (cw : va_CN R s args own index y host bytes maxL ret ws rm 0 0 n ∧ (Cond.instanceMethod y).before args s = true ∧ (Cond.selects C y y).before args s = true) (B : zB D cl tys nw w A H0 s σ H locs) (hrec : ∃ cell : Cell, H[b]? = some cell ∧ cell.vm.isStatics = false ∧ s.vm.findClass C = some cell.cls) (hn : As.length = n) (hls : ls.size = nL) (hst : st0 = As.reverse ++ .ref b :: rest) (hW : (rest.map fun v => v.category).sum ≤ 8) (hdg : decode cc pc = .ok (.invokevirtual index, 3)) (hf : cells ≤ R.cells ∧ slots ≤ R.slots)
    (kk : ∀ (σ' : zS) (H1 : Heap) (locs1 : List Loc), post σ' → zB D cl tys nw w A H0 s σ' H1 locs1 → W p l e R s m args below meth c H1 locs1 cells slots Q (F0 m (pc + 3) ls (rest))) : W p l e R s m args below meth c H locs cells slots Q (F0 m pc ls st0) :=
  va_callv (va_runVN (g := F0 m pc ls st0) S (hM H.size) cw ⟨zP_blind, hrec, zB_pre B⟩ rfl hn hls hst (lv_room (m := m) (pc := pc) (ls := ls) (rest := st0) hW) hdg hf) B.2.2.2.1 (fun q _ h => zB_free B q h) (zB_free B) (fun u t H1 locs1 ht hvm hp hB hz hk hS => kk u H1 locs1 hp (zB_next B ht hB (zB_free B) hS))
theorem zret_i {post : Int32 → zS → Prop} {v : Int32} (hexec : p.tables.exec = Jvm.exec) (hb : c.code = cc) (hr : meth.sig.returnType = some .int) (hlocks : meth.locks = false) (B : zB D cl tys nw w A s.heap s σ H locs) (hp : post v σ) (hdg : decode cc pc = .ok (.ireturn, 1)) : W p l e R s m args below meth c H locs 0 0 (MQ below (va_Qi post (zQ D cl tys w A) A) args s 0 0 A) (F0 m pc ls [.int v]) :=
  W.iret hexec hb hr (fun t ht hW => ⟨⟨v, σ, rfl, hp, by rw [ht]; exact B.2.1, va_K.moved hW.alike B.1, B.2.2.1⟩, B.2.2.2.1.F ht⟩) B.2.2.2.1.2.2 hdg hlocks
theorem zret_z {post : Int32 → zS → Prop} {v : Int32} (hexec : p.tables.exec = Jvm.exec) (hb : c.code = cc) (hr : meth.sig.returnType = some .boolean) (hn : narrow .boolean (.int v) = .int v) (hlocks : meth.locks = false) (B : zB D cl tys nw w A s.heap s σ H locs) (hp : post v σ) (hdg : decode cc pc = .ok (.ireturn, 1)) : W p l e R s m args below meth c H locs 0 0 (MQ below (va_Qi post (zQ D cl tys w A) A) args s 0 0 A) (F0 m pc ls [.int v]) :=
  W.zret hexec hb hr hn (fun t ht hW => ⟨⟨v, σ, rfl, hp, by rw [ht]; exact B.2.1, va_K.moved hW.alike B.1, B.2.2.1⟩, B.2.2.2.1.F ht⟩) B.2.2.2.1.2.2 hdg hlocks
theorem zret_l {post : Int64 → zS → Prop} {v : Int64} (hexec : p.tables.exec = Jvm.exec) (hb : c.code = cc) (hr : meth.sig.returnType = some .long) (hlocks : meth.locks = false) (B : zB D cl tys nw w A s.heap s σ H locs) (hp : post v σ) (hdg : decode cc pc = .ok (.lreturn, 1)) : W p l e R s m args below meth c H locs 0 0 (MQ below (va_Ql post (zQ D cl tys w A) A) args s 0 0 A) (F0 m pc ls [.long v]) :=
  W.lret hexec hb hr (fun t ht hW => ⟨⟨v, σ, rfl, hp, by rw [ht]; exact B.2.1, va_K.moved hW.alike B.1, B.2.2.1⟩, B.2.2.2.1.F ht⟩) B.2.2.2.1.2.2 hdg hlocks
theorem zret_v {post : zS → Prop} (hexec : p.tables.exec = Jvm.exec) (hb : c.code = cc) (hr : meth.sig.returnType = none) (hlocks : meth.locks = false) (B : zB D cl tys nw w A s.heap s σ H locs) (hp : post σ) (hdg : decode cc pc = .ok (.return_, 1)) : W p l e R s m args below meth c H locs 0 0 (MQ below (va_Qv post (zQ D cl tys w A) A) args s 0 0 A) (F0 m pc ls []) :=
  W.vret hexec hb hr (fun t ht hW => ⟨⟨σ, rfl, hp, by rw [ht]; exact B.2.1, va_K.moved hW.alike B.1, B.2.2.1⟩, B.2.2.2.1.F ht⟩) B.2.2.2.1.2.2 hdg hlocks
theorem zcopyl (hexec : p.tables.exec = Jvm.exec) (hb : c.code = cc) (hml : c.maxLocals = ls.size) (hown : s.vm.findClass own = some m.cls) (hlink : (Cond.methodLink own index arraycopyName).before args s = true) (hnat : (Cond.native arraycopyName).before args s = true) (hstat : (Cond.static arraycopyName).before args s = true) (hini : (Cond.initialized "java/lang/System").before args s = true) (B : zB D cl tys nw w A H0 s σ H locs) (q0 q1 : Nat) {a0 : Nat} {c0 c1 : ClassId} {n0 n1 : Nat} {f g : Nat → Int64} (ha0 : (w σ)[q0]? = some (a0, .inl (c0, n0, .inr (.inl f)))) (ha1 : (w σ)[q1]? = some (a, .inl (c1, n1, .inr (.inl g)))) {t0 t1 : Nat} (ht0 : tys[t0]? = some (c0, .long)) (ht1 : tys[t1]? = some (c1, .long)) (sp dp k : Nat) {isp idp ik : Int32} (hsp : isp = nI sp) (hdp : idp = nI dp) (hk : ik = nI k) (h4 : sp + k ≤ n0) (h5 : dp + k ≤ n1) (hbig : n0 < 2 ^ 31 ∧ n1 < 2 ^ 31)
    (hframes : 1 ≤ R.frames) (hlocals : (rest.map fun v => v.category).sum + (nativeFrameWords "java/lang/System" "arraycopy" 5 + 11) ≤ R.locals) {σ' : zS} (hset : (w σ).set q1 (a, .inl (c1, n1, .inr (.inl (va_cpy f g sp dp k)))) = w σ') (hdg : decode cc pc = .ok (.invokestatic index, 3))
    (kk : ∀ (H1 : Heap) (locs1 : List Loc), zB D cl tys nw w A H0 s σ' H1 locs1 → W p l e R s m args below meth c H1 locs1 cells slots Q (F0 m (pc + 3) ls rest)) : W p l e R s m args below meth c H locs cells slots Q (F0 m pc ls (.int ik :: .int idp :: .ref a :: .int isp :: .ref a0 :: rest)) := by
  subst hsp; subst hdp; subst hk
  have e1 := nI_clamp (n := sp) (by omega)
  have e2 := nI_clamp (n := dp) (by omega)
  have e3 := nI_clamp (n := k) (by omega)
  refine va_copyl hexec hb hml hown hlink hnat hstat hini B.1 B.2.1 B.2.2.1 B.2.2.2.1 q0 q1 t0 t1 ha0 ha1 ht0 ht1 rfl (nI_pos (by omega)) (nI_pos (by omega)) (nI_pos (by omega)) (by rw [e1, e3]; exact h4) (by rw [e2, e3]; exact h5) (fun _ _ => rfl) hframes hlocals hdg (fun H1 locs1 hP hD hS => ?_)
  rw [e1, e2, e3, hset] at hP hD
  exact kk H1 locs1 ⟨B.1, hP, hD, hS, B.2.2.2.2⟩
theorem zcopyi (hexec : p.tables.exec = Jvm.exec) (hb : c.code = cc) (hml : c.maxLocals = ls.size) (hown : s.vm.findClass own = some m.cls) (hlink : (Cond.methodLink own index arraycopyName).before args s = true) (hnat : (Cond.native arraycopyName).before args s = true) (hstat : (Cond.static arraycopyName).before args s = true) (hini : (Cond.initialized "java/lang/System").before args s = true) (B : zB D cl tys nw w A H0 s σ H locs) (q0 q1 : Nat) {a0 : Nat} {c0 c1 : ClassId} {n0 n1 : Nat} {f g : Nat → Int32} (ha0 : (w σ)[q0]? = some (a0, .inl (c0, n0, .inl f))) (ha1 : (w σ)[q1]? = some (a, .inl (c1, n1, .inl g))) {t0 t1 : Nat} (ht0 : tys[t0]? = some (c0, .int)) (ht1 : tys[t1]? = some (c1, .int)) (sp dp k : Nat) {isp idp ik : Int32} (hsp : isp = nI sp) (hdp : idp = nI dp) (hk : ik = nI k) (h4 : sp + k ≤ n0) (h5 : dp + k ≤ n1) (hbig : n0 < 2 ^ 31 ∧ n1 < 2 ^ 31)
    (hframes : 1 ≤ R.frames) (hlocals : (rest.map fun v => v.category).sum + (nativeFrameWords "java/lang/System" "arraycopy" 5 + 11) ≤ R.locals) {σ' : zS} (hset : (w σ).set q1 (a, .inl (c1, n1, .inl (va_cpy f g sp dp k))) = w σ') (hdg : decode cc pc = .ok (.invokestatic index, 3))
    (kk : ∀ (H1 : Heap) (locs1 : List Loc), zB D cl tys nw w A H0 s σ' H1 locs1 → W p l e R s m args below meth c H1 locs1 cells slots Q (F0 m (pc + 3) ls rest)) : W p l e R s m args below meth c H locs cells slots Q (F0 m pc ls (.int ik :: .int idp :: .ref a :: .int isp :: .ref a0 :: rest)) := by
  subst hsp; subst hdp; subst hk
  have e1 := nI_clamp (n := sp) (by omega)
  have e2 := nI_clamp (n := dp) (by omega)
  have e3 := nI_clamp (n := k) (by omega)
  refine va_copyi hexec hb hml hown hlink hnat hstat hini B.1 B.2.1 B.2.2.1 B.2.2.2.1 q0 q1 t0 t1 ha0 ha1 ht0 ht1 rfl (nI_pos (by omega)) (nI_pos (by omega)) (nI_pos (by omega)) (by rw [e1, e3]; exact h4) (by rw [e2, e3]; exact h5) (fun _ _ => rfl) hframes hlocals hdg (fun H1 locs1 hP hD hS => ?_)
  rw [e1, e2, e3, hset] at hP hD
  exact kk H1 locs1 ⟨B.1, hP, hD, hS, B.2.2.2.2⟩
theorem zrwi {x y : Int32} (h : x = y) (k : W p l e R s m args below meth c H locs cells slots Q (F0 m pc ls (.int y :: rest))) : W p l e R s m args below meth c H locs cells slots Q (F0 m pc ls (.int x :: rest)) := by
  rw [h]; exact k
theorem zrwl {x y : Int64} (h : x = y) (k : W p l e R s m args below meth c H locs cells slots Q (F0 m pc ls (.long y :: rest))) : W p l e R s m args below meth c H locs cells slots Q (F0 m pc ls (.long x :: rest)) := by
  rw [h]; exact k
/-- a contract out of a walk of its body -/
theorem zintro {Qc : Nat → Array Value → State → Outcome → State → Prop} (hy : plainName y.cls = true) (hw : ws = Cond.code y cc maxL ret :: ws') (hsl : (lg_sl As).length ≤ maxL)
    (body : ∀ (p : Program) (e : Env) (s : State) (m : MethodId) (below : List Frame) (meth : Method) (c : Code) (ls : Array Slot), p.tables.exec = Jvm.exec → c.code = cc → meth.sig.returnType = ret → c.maxLocals = maxL → (∀ w ∈ ws, w.before As.toArray s = true) → s.vm.findClass y.cls = some m.cls → meth.locks = false → lv_has ls maxL (lv_args 0 As) → zB D cl tys nw w (va_A (w σ) s.heap.size) s.heap s σ s.heap [] →
      W p l e (headSpec ws rm).room s m As.toArray below meth c s.heap [] 0 0 (MQ below (Qc s.heap.size) As.toArray s 0 0 (va_A (w σ) s.heap.size)) (F0 m 0 ls [])) : ∀ sz : Nat, Met l y ws rm (va_Pc As (zP D cl tys nw w sz σ)) (Qc sz) 0 0 (va_A (w σ) sz) := by
  intro sz
  refine Met.ofW (cc := cc) (maxL := maxL) (ret := ret) hy hw ?_
  intro p e s m args below meth c s₁ B hml hv
  obtain ⟨rfl, hsz, hP, hK, hD0, hN⟩ := hv
  subst hsz
  have hl := lv_entry As (n := maxL) hsl
  rw [lg_entry_eq]
  exact body p e s m below meth c _ B.exec B.bytes B.returns hml (atoms_spec (ws := ws) B.pre) (findClass_of_methodNamed B.named) B.notSynchronized hl ⟨hK, hP, hD0.self, va_S.rf, fun q h => Or.inr h, hN⟩
end ZB
theorem zinc (k : Nat) : nI k + Int32.ofInt 1 = nI (k + 1) := nI_1 k
/-- a counting loop over states: c turns from place k on -/
def zit (step : Nat → zS → zS) : Nat → Nat → zS → zS
  | 0, _, σ => σ
  | c + 1, k, σ => zit step c (k + 1) (step k σ)
def zb (b : Bool) : Int32 := if b = true then 1 else 0
theorem zb_t : zb true = 1 := rfl
theorem zb_f : zb false = 0 := rfl
theorem zb_eq0 {b : Bool} : zb b = 0 ↔ b = false := by cases b <;> decide
theorem zb_ne0 {b : Bool} : ¬ zb b = 0 ↔ b = true := by cases b <;> decide
theorem zb_nar (b : Bool) : narrow .boolean (.int (zb b)) = .int (zb b) := by cases b <;> rfl
theorem ztab2 {x : Int32} (h0 : ¬ x = 0) (h1 : ¬ x = 1) (h2 : ¬ x = 2) : x.toInt < 0 ∨ 2 < x.toInt := by
  have a0 := lv_neT h0 (a := 0) rfl
  have a1 := lv_neT h1 (a := 1) rfl
  have a2 := lv_neT h2 (a := 2) rfl
  omega
theorem ztab3 {x : Int32} (h0 : ¬ x = 0) (h1 : ¬ x = 1) (h2 : ¬ x = 2) (h3 : ¬ x = 3) : x.toInt < 0 ∨ 3 < x.toInt := by
  have a0 := lv_neT h0 (a := 0) rfl
  have a1 := lv_neT h1 (a := 1) rfl
  have a2 := lv_neT h2 (a := 2) rfl
  have a3 := lv_neT h3 (a := 3) rfl
  omega
