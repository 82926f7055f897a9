/-! Constructors: worlds that grow. -/
def zz : zS := (fun _ _ => 0, fun _ _ => 0)
/-- the world is ws, whatever the state -/
abbrev zk (ws : va_W) : zS → va_W := fun _ => ws
abbrev zMc {S : Type} (l : Launch) (y : MethodName) (ws : List Cond) (rm : Room) (D : va_G) (cl : List vw_C) (tys : List (ClassId × FieldType)) (nw : List zN) (w0 : va_W) (As : List Value) (post : S → Prop) (w1 : S → va_W) (mc ms : Nat) : Prop :=
  ∀ sz : Nat, Met l y ws rm (va_Pc As (zP D cl tys nw (zk w0) sz zz)) (va_Qv post (fun u t => va_P D cl (w1 u) t.heap ∧ va_K D cl tys t ∧ va_D (va_A w0 sz) (w1 u)) (va_A w0 sz)) mc ms (va_A w0 sz)
theorem zRA_one {U : State} {ty : FieldType} {a b : ClassId} (h1 : va_RA U a ty) (h2 : va_RA U b ty) : a = b := by
  cases ty with
  | object C =>
    obtain ⟨_, _, _, _, _, q1⟩ := h1
    obtain ⟨_, _, _, _, _, q2⟩ := h2
    exact Option.some.inj (q1.symm.trans q2)
  | _ => exact Option.some.inj (Eq.trans (Eq.symm h1) h2)
theorem va_P_left {D : va_G} {cl : List vw_C} {a b : va_W} {H : Heap} (h : va_P D cl (a ++ b) H) : va_P D cl a H := h.by id (fun k q hk => by rw [id, List.getElem?_append_left (List.getElem?_eq_some_iff.mp hk).1]; exact hk)
theorem va_D_left {A : Nat → Prop} {a b : va_W} (h : va_D A (a ++ b)) : va_D A a := h.by id (fun k q hk => by rw [id, List.getElem?_append_left (List.getElem?_eq_some_iff.mp hk).1]; exact hk) (fun _ _ _ _ e => e)
section ZC
variable {p : Program} {l : Launch} {e : Env} {R : Room} {s : State} {m : MethodId} {args : Array Value} {below : List Frame} {meth : Method} {c : Code} {H : Heap} {locs : List Loc} {cells slots : Nat} {Q : State → Prop}
variable {cc : ByteArray} {pc : Nat} {ls : Array Slot} {rest st0 : List Value} {D : va_G} {cl : List vw_C} {A : Nat → Prop} {a : Nat} {tys : List (ClassId × FieldType)} {nw : List zN} {H0 : Heap}
variable {y : MethodName} {bytes : ByteArray} {maxL nL n index : Nat} {ret : Option FieldType} {ws ws' Ts : List Cond} {rm : Room} {own C host : String} {b : Addr} {As : List Value} {X cx wr pl w0 : va_W} {mc ms : Nat}
/-- a contract of a constructor out of a walk of its body -/
theorem zintroC {Qc : Nat → Array Value → State → Outcome → State → Prop} (hy : plainName y.cls = true) (hw : ws = Cond.code y cc maxL ret :: ws') (hsl : (lg_sl As).length ≤ maxL)
    (body : ∀ (p : Program) (e : Env) (s : State) (m : MethodId) (below : List Frame) (meth : Method) (c : Code) (ls : Array Slot), p.tables.exec = Jvm.exec → c.code = cc → meth.sig.returnType = ret → c.maxLocals = maxL → (∀ w ∈ ws, w.before As.toArray s = true) → s.vm.findClass y.cls = some m.cls → meth.locks = false → meth.name = y.name → lv_has ls maxL (lv_args 0 As) → zB D cl tys nw (zk w0) (va_A w0 s.heap.size) s.heap s zz s.heap [] →
      W p l e (headSpec ws rm).room s m As.toArray below meth c s.heap [] 0 0 (MQ below (Qc s.heap.size) As.toArray s mc ms (va_A w0 s.heap.size)) (F0 m 0 ls [])) : ∀ sz : Nat, Met l y ws rm (va_Pc As (zP D cl tys nw (zk w0) sz zz)) (Qc sz) mc ms (va_A w0 sz) := by
  intro sz
  refine Met.ofW (cc := cc) (maxL := maxL) (ret := ret) hy hw ?_
  intro p e s m args below meth c s₁ B hml hv
  obtain ⟨rfl, hsz, hP, hK, hD0, hN⟩ := hv
  subst hsz
  have hl := lv_entry As (n := maxL) hsl
  rw [lg_entry_eq]
  exact body p e s m below meth c _ B.exec B.bytes B.returns hml (atoms_spec (ws := ws) B.pre) (findClass_of_methodNamed B.named) B.notSynchronized (name_of_methodNamed B.named B.method).1 hl ⟨hK, hP, hD0.self, va_S.rf, fun q h => Or.inr h, hN⟩
theorem zretC {S : Type} {post : S → Prop} {w1 : S → va_W} (hexec : p.tables.exec = Jvm.exec) (hb : c.code = cc) (hr : meth.sig.returnType = none) (hlocks : meth.locks = false) (u : S) (hp : post u) (B : zB D cl tys nw (zk (w1 u)) A s.heap s zz H locs) (hdg : decode cc pc = .ok (.return_, 1)) : W p l e R s m args below meth c H locs mc ms (MQ below (va_Qv post (fun u t => va_P D cl (w1 u) t.heap ∧ va_K D cl tys t ∧ va_D A (w1 u)) A) args s mc ms A) (F0 m pc ls []) :=
  W.vret hexec hb hr (fun t ht hW => ⟨⟨u, rfl, hp, by rw [ht]; exact B.2.1, va_K.moved hW.alike B.1, B.2.2.1⟩, B.2.2.2.1.F ht⟩) B.2.2.2.1.2.2 hdg hlocks
/-- the callee's part -/
theorem zsub (B : zB D cl tys nw (zk (X ++ pl)) A H0 s zz H locs) (isC : List Nat) (hC : isC.map (fun i => X[i]?) = cx.map some) (hnC : va_nd isC = true) : zB D cl tys [] (zk cx) A H0 s zz H locs :=
  ⟨B.1, va_P_left (B.2.1.part isC hC), va_D_left (B.2.2.1.part isC hnC hC), B.2.2.2.1, B.2.2.2.2.1, fun _ hx => absurd hx List.not_mem_nil⟩
theorem zcI {S : Type} {post : S → Prop} {w1 : S → va_W} (SS : CallFix p m c cc nL s args Ts own) (hM : zMc l y ws rm D cl tys [] cx (.ref b :: As) post w1 mc ms) (cw : CallB R s args own index y bytes maxL none ws rm mc ms n ∧ y.name = "<init>" ∧ (Cond.instanceMethod y).before args s = true) (B : zB D cl tys nw (zk (X ++ pl)) A H0 s zz H locs) (isC isR : List Nat) (hC : isC.map (fun i => X[i]?) = cx.map some) (hR : isR.map (fun i => X[i]?) = wr.map some) (hnC : va_nd isC = true) (hnR : va_nd isR = true) (hdis : ∀ i ∈ isR, i ∉ isC) (hn : As.length = n) (hls : ls.size = nL) (hst : st0 = As.reverse ++ .ref b :: rest) (hW : (rest.map fun v => v.category).sum ≤ 8) (hdg : decode cc pc = .ok (.invokespecial index, 3)) (hf : cells + mc ≤ R.cells ∧ slots + ms ≤ R.slots)
    (kk : ∀ (u : S) (H1 : Heap) (locs1 : List Loc), post u → zB D cl tys nw (zk ((wr ++ w1 u) ++ pl)) A H0 s zz H1 locs1 → W p l e R s m args below meth c H1 locs1 (cells + mc) (slots + ms) Q (F0 m (pc + 3) ls rest)) : W p l e R s m args below meth c H locs cells slots Q (F0 m pc ls st0) := by
  have B2 := zsub B isC hC hnC
  refine va_callv (va_runI (g := F0 m pc ls st0) SS (hM H.size) cw ⟨zP_blind, zB_pre B2⟩ rfl hn hls hst (lv_room (m := m) (pc := pc) (ls := ls) (rest := st0) hW) hdg hf) B.2.2.2.1 (fun q _ h => zB_free B2 q h) (zB_free B2) (fun u t H1 locs1 ht hvm hp hB hz hk hS => ?_)
  obtain ⟨P1, P2⟩ := va_joinQ B.2.1 B.2.2.1 isC isR hC hR hnR hdis hk (zB_free B2) (by rw [← ht]; exact hB.1) hB.2.2
  exact kk u H1 locs1 hp ⟨B.1, P1, P2, hS, B.2.2.2.2⟩
theorem zcIN {S : Type} {post : S → Prop} {w1 : S → va_W} (SS : CallFix p m c cc nL s args Ts own) (hM : zMc l y ws rm D cl tys [] cx (.ref b :: As) post w1 mc ms) (cw : va_CN R s args own index y host bytes maxL none ws rm mc ms n ∧ y.name = "<init>" ∧ (Cond.instanceMethod y).before args s = true) (B : zB D cl tys nw (zk (X ++ pl)) A H0 s zz H locs) (isC isR : List Nat) (hC : isC.map (fun i => X[i]?) = cx.map some) (hR : isR.map (fun i => X[i]?) = wr.map some) (hnC : va_nd isC = true) (hnR : va_nd isR = true) (hdis : ∀ i ∈ isR, i ∉ isC) (hn : As.length = n) (hls : ls.size = nL) (hst : st0 = As.reverse ++ .ref b :: rest) (hW : (rest.map fun v => v.category).sum ≤ 8) (hdg : decode cc pc = .ok (.invokespecial index, 3)) (hf : cells + mc ≤ R.cells ∧ slots + ms ≤ R.slots)
    (kk : ∀ (u : S) (H1 : Heap) (locs1 : List Loc), post u → zB D cl tys nw (zk ((wr ++ w1 u) ++ pl)) A H0 s zz H1 locs1 → W p l e R s m args below meth c H1 locs1 (cells + mc) (slots + ms) Q (F0 m (pc + 3) ls rest)) : W p l e R s m args below meth c H locs cells slots Q (F0 m pc ls st0) := by
  have B2 := zsub B isC hC hnC
  refine va_callv (va_runIN (g := F0 m pc ls st0) SS (hM H.size) cw ⟨zP_blind, zB_pre B2⟩ rfl hn hls hst (lv_room (m := m) (pc := pc) (ls := ls) (rest := st0) hW) hdg hf) B.2.2.2.1 (fun q _ h => zB_free B2 q h) (zB_free B2) (fun u t H1 locs1 ht hvm hp hB hz hk hS => ?_)
  obtain ⟨P1, P2⟩ := va_joinQ B.2.1 B.2.2.1 isC isR hC hR hnR hdis hk (zB_free B2) (by rw [← ht]; exact hB.1) hB.2.2
  exact kk u H1 locs1 hp ⟨B.1, P1, P2, hS, B.2.2.2.2⟩
/-- a static method over a part that is a state's -/
theorem zcSc {w : zS → va_W} {σ : zS} {post : zS → Prop} (SS : CallFix p m c cc nL s args Ts own) (hM : zMv l y ws rm D cl tys [] w σ As post) (cw : CallB R s args own index y bytes maxL ret ws rm 0 0 n ∧ (Cond.static y).before args s = true) (B : zB D cl tys nw (zk (X ++ pl)) A H0 s zz H locs) (isC isR : List Nat) (hC : isC.map (fun i => X[i]?) = (w σ).map some) (hR : isR.map (fun i => X[i]?) = wr.map some) (hnC : va_nd isC = true) (hnR : va_nd isR = true) (hdis : ∀ i ∈ isR, i ∉ isC) (hn : As.length = n) (hls : ls.size = nL) (hst : st0 = As.reverse ++ rest) (hW : (rest.map fun v => v.category).sum ≤ 8) (hdg : decode cc pc = .ok (.invokestatic index, 3)) (hf : cells ≤ R.cells ∧ slots ≤ R.slots)
    (kk : ∀ (σ' : zS) (H1 : Heap) (locs1 : List Loc), post σ' → zB D cl tys nw (zk ((wr ++ w σ') ++ pl)) A H0 s zz H1 locs1 → W p l e R s m args below meth c H1 locs1 cells slots Q (F0 m (pc + 3) ls rest)) : W p l e R s m args below meth c H locs cells slots Q (F0 m pc ls st0) := by
  have B1 := zsub B isC hC hnC
  have B2 : zB D cl tys [] w A H0 s σ H locs := B1
  refine va_callv (va_runS (g := F0 m pc ls st0) SS (hM H.size) cw ⟨zP_blind, zB_pre B2⟩ rfl hn hls hst (lv_room (m := m) (pc := pc) (ls := ls) (rest := st0) hW) hdg hf) B.2.2.2.1 (fun q _ h => zB_free B2 q h) (zB_free B2) (fun u t H1 locs1 ht hvm hp hB hz hk hS => ?_)
  obtain ⟨P1, P2⟩ := va_joinQ B.2.1 B.2.2.1 isC isR hC hR hnR hdis hk (zB_free B2) (by rw [← ht]; exact hB.1) hB.2.2
  exact kk u H1 locs1 hp ⟨B.1, P1, P2, hS, B.2.2.2.2⟩
theorem zcnew (hexec : p.tables.exec = Jvm.exec) (hb : c.code = cc) {T : u_T} {N ci : Nat} (hts : ∀ w ∈ Ts, w.before args s = true) (hin : ∀ w ∈ u_ws C T N, w ∈ Ts) (ty : Nat → FieldType) (hty : ∀ k, k < N → parseFieldDescriptor (T k).2.2.1 = some (ty k)) (hown : s.vm.findClass own = some m.cls) (hcl : (Cond.classLink own index C).before args s = true) (hinst : (Cond.instantiable C N).before args s = true) (hini : (Cond.initialized C).before args s = true)
    (B : zB D cl tys nw (zk (X ++ pl)) A H0 s zz H locs) (hc : cl[ci]? = some (C, T, N)) {fs : List Value} (hfs : ∀ j, j < N → defaultValue (ty j) = vp_V fs j) (hcells : cells + 1 ≤ R.cells) (hslots : slots + N ≤ R.slots) (hdg : decode cc pc = .ok (.new index, 3))
    (kk : ∀ (q : Nat) (H1 : Heap), zB D cl tys nw (zk ((X ++ [(q, .inr (ci, fs))]) ++ pl)) A H0 s zz H1 locs → W p l e R s m args below meth c H1 locs (cells + 1) (slots + N) Q (F0 m (pc + 3) ls (.ref q :: rest))) : W p l e R s m args below meth c H locs cells slots Q (F0 m pc ls rest) :=
  va_new hexec hb hts hin ty hty hown hcl hinst hini B.1 B.2.1 B.2.2.1 B.2.2.2.1 B.2.2.2.2.1 hc hfs hcells hslots hdg (fun q H1 hP hD hS => kk q H1 ⟨B.1, hP.swap, hD.swap, hS, B.2.2.2.2⟩)
theorem zcput (hexec : p.tables.exec = Jvm.exec) (hb : c.code = cc) {ref : String} {T : u_T} {N ci : Nat} (hts : ∀ w ∈ Ts, w.before args s = true) (hin : ∀ w ∈ u_ws C T N, w ∈ Ts) (ty0 : Nat → FieldType) (hty : ∀ k, k < N → parseFieldDescriptor (T k).2.2.1 = some (ty0 k)) (hnm : ∀ a, a < N → ∀ b, b < N → a ≠ b → (T a).2.1 ≠ (T b).2.1) (hown : s.vm.findClass own = some m.cls) {fs : List Value} (B : zB D cl tys nw (zk (((a, .inr (ci, fs)) :: X) ++ pl)) A H0 s zz H locs) (hc : cl[ci]? = some (C, T, N)) (k : Nat) (hk : k < N) (hlink : (Cond.fieldLink own index ref (T k).2.1 (T k).2.2.1).before args s = true) (hsame : ∀ x, s.fieldFound? (T k).1 (T k).2.1 (T k).2.2.1 = some x → s.fieldFound? ref (T k).2.1 (T k).2.2.1 = some x) (hfin : (T k).2.2.2 = false) {ty : FieldType} {v : Value} (hd : parseFieldDescriptor (T k).2.2.1 = some ty) (hn : narrow ty v = v) (hfit : fits ty v = true) (hl : k < fs.length)
    (hdg : decode cc pc = .ok (.putfield index, 3)) (kk : ∀ (H1 : Heap) (locs1 : List Loc), zB D cl tys nw (zk (((a, .inr (ci, fs.set k v)) :: X) ++ pl)) A H0 s zz H1 locs1 → W p l e R s m args below meth c H1 locs1 cells slots Q (F0 m (pc + 3) ls rest)) : W p l e R s m args below meth c H locs cells slots Q (F0 m pc ls (v :: .ref a :: rest)) :=
  va_put hexec hb hts hin ty0 hty hnm hown B.1 B.2.1 B.2.2.1 B.2.2.2.1 0 rfl hc k hk hlink hsame hfin hd hn hfit hl hdg (fun H1 locs1 hP hD hS => kk H1 locs1 ⟨B.1, hP, hD, hS, B.2.2.2.2⟩)
theorem zcputF (hexec : p.tables.exec = Jvm.exec) (hb : c.code = cc) {ref : String} {T : u_T} {N ci : Nat} (hts : ∀ w ∈ Ts, w.before args s = true) (hin : ∀ w ∈ u_ws C T N, w ∈ Ts) (ty0 : Nat → FieldType) (hty : ∀ k, k < N → parseFieldDescriptor (T k).2.2.1 = some (ty0 k)) (hnm : ∀ a, a < N → ∀ b, b < N → a ≠ b → (T a).2.1 ≠ (T b).2.1) (hown : s.vm.findClass own = some m.cls) {fs : List Value} (B : zB D cl tys nw (zk (((a, .inr (ci, fs)) :: X) ++ pl)) A H0 s zz H locs) (hc : cl[ci]? = some (C, T, N)) (k : Nat) (hk : k < N) (hlink : (Cond.fieldLink own index ref (T k).2.1 (T k).2.2.1).before args s = true) (hsame : ∀ x, s.fieldFound? (T k).1 (T k).2.1 (T k).2.2.1 = some x → s.fieldFound? ref (T k).2.1 (T k).2.2.1 = some x) (hfin : (T k).2.2.2 = true) (hin2 : meth.name = "<init>") (hdecl : (T k).1 = own) {ty : FieldType} {v : Value} (hd : parseFieldDescriptor (T k).2.2.1 = some ty) (hn : narrow ty v = v) (hfit : fits ty v = true) (hl : k < fs.length)
    (hdg : decode cc pc = .ok (.putfield index, 3)) (kk : ∀ (H1 : Heap) (locs1 : List Loc), zB D cl tys nw (zk (((a, .inr (ci, fs.set k v)) :: X) ++ pl)) A H0 s zz H1 locs1 → W p l e R s m args below meth c H1 locs1 cells slots Q (F0 m (pc + 3) ls rest)) : W p l e R s m args below meth c H locs cells slots Q (F0 m pc ls (v :: .ref a :: rest)) :=
  va_putF hexec hb hts hin ty0 hty hnm hown B.1 B.2.1 B.2.2.1 B.2.2.2.1 0 rfl hc k hk hlink hsame hfin hin2 hdecl hd hn hfit hl hdg (fun H1 locs1 hP hD hS => kk H1 locs1 ⟨B.1, hP, hD, hS, B.2.2.2.2⟩)
/-- newarray with its class known -/
theorem zcna (hexec : p.tables.exec = Jvm.exec) (hb : c.code = cc) {atype : ArrayType} (harr : (Cond.arrayClass (newarray.typeOf atype)).before args s = true) {ty : FieldType} (hty : newarray.typeOf atype = ty) (t0 : Nat) {cA : ClassId} (ht : tys[t0]? = some (cA, ty)) (B : zB D cl tys nw (zk (X ++ pl)) A H0 s zz H locs)
    {i : Int32} (N' : Nat) {a0 : vp_A} (ha : ∀ cA : ClassId, vp_cell cA a0 = arrV cA N' (fun _ => defaultValue ty)) (hi : i = nI N') (hN : N' < 2 ^ 31) (hbytes : N' * componentBytes ty ≤ 536870912) (hcells : cells + 1 ≤ R.cells) (hslots : slots + N' ≤ R.slots) (hdg : decode cc pc = .ok (.newarray atype, 2))
    (kk : ∀ (q : Nat) (H1 : Heap), zB D cl tys nw (zk ((X ++ [(q, .inl (cA, a0))]) ++ pl)) A H0 s zz H1 locs → W p l e R s m args below meth c H1 locs (cells + 1) (slots + N') Q (F0 m (pc + 2) ls (.ref q :: rest))) : W p l e R s m args below meth c H locs cells slots Q (F0 m pc ls (.int i :: rest)) := by
  subst hi
  refine va_newa hexec hb harr hty B.1 B.2.1 B.2.2.1 B.2.2.2.1 B.2.2.2.2.1 ha (nI_pos hN) (nI_clamp hN) hbytes hcells hslots hdg (fun q cB H1 hK hP hD hS => ?_)
  have e1 : (tys ++ [(cB, ty)])[tys.length]? = some (cB, ty) := by rw [List.getElem?_append_right (Nat.le_refl _), Nat.sub_self]; rfl
  have e : cB = cA := zRA_one (hK.2 _ _ e1).2 (B.1.2 t0 _ ht).2
  subst e
  exact kk q H1 ⟨B.1, hP.swap, hD.swap, hS, B.2.2.2.2⟩
theorem zcnq (hexec : p.tables.exec = Jvm.exec) (hb : c.code = cc) (hown : s.vm.findClass own = some m.cls) (hclink : (Cond.classLink own index C).before args s = true) (hover : va_AO C s) (t0 : Nat) {cA : ClassId} (ht : tys[t0]? = some (cA, .object C)) (B : zB D cl tys nw (zk (X ++ pl)) A H0 s zz H locs)
    {i : Int32} (N' : Nat) (hi : i = nI N') (hN : N' < 2 ^ 20) (hcells : cells + 1 ≤ R.cells) (hslots : slots + N' ≤ R.slots) (hdg : decode cc pc = .ok (.anewarray index, 3))
    (kk : ∀ (q : Nat) (H1 : Heap), zB D cl tys nw (zk ((X ++ [(q, .inl (cA, N', .inr (.inr (.inr (.inr (fun _ => none))))))]) ++ pl)) A H0 s zz H1 locs → W p l e R s m args below meth c H1 locs (cells + 1) (slots + N') Q (F0 m (pc + 3) ls (.ref q :: rest))) : W p l e R s m args below meth c H locs cells slots Q (F0 m pc ls (.int i :: rest)) := by
  subst hi
  refine va_newq hexec hb hown hclink hover B.1 B.2.1 B.2.2.1 B.2.2.2.1 B.2.2.2.2.1 (nI_pos (by omega)) (nI_clamp (by omega)) (by omega) hcells hslots hdg (fun q cB H1 hK hP hD hS => ?_)
  have e1 : (tys ++ [(cB, .object C)])[tys.length]? = some (cB, .object C) := by rw [List.getElem?_append_right (Nat.le_refl _), Nat.sub_self]; rfl
  have e : cB = cA := zRA_one (hK.2 _ _ e1).2 (B.1.2 t0 _ ht).2
  subst e
  exact kk q H1 ⟨B.1, hP.swap, hD.swap, hS, B.2.2.2.2⟩
/-- newarray, then a final field of the object at the head -/
theorem zcnaF (hexec : p.tables.exec = Jvm.exec) (hb : c.code = cc) {atype : ArrayType} (harr : (Cond.arrayClass (newarray.typeOf atype)).before args s = true) {ty : FieldType} (hty : newarray.typeOf atype = ty) (t0 : Nat) {cA : ClassId} (ht : tys[t0]? = some (cA, ty)) {ref : String} {T : u_T} {N ci : Nat} {fs : List Value} (B : zB D cl tys nw (zk (((a, .inr (ci, fs)) :: X) ++ pl)) A H0 s zz H locs)
    {i : Int32} (N' : Nat) {a0 : vp_A} (ha : ∀ cA : ClassId, vp_cell cA a0 = arrV cA N' (fun _ => defaultValue ty)) (hi : i = nI N') (hN : N' < 2 ^ 31) (hbytes : N' * componentBytes ty ≤ 536870912) (hcells : cells + 1 ≤ R.cells) (hslots : slots + N' ≤ R.slots) (hdg : decode cc pc = .ok (.newarray atype, 2))
    (hts : ∀ w ∈ Ts, w.before args s = true) (hin : ∀ w ∈ u_ws C T N, w ∈ Ts) (ty0 : Nat → FieldType) (hty0 : ∀ k, k < N → parseFieldDescriptor (T k).2.2.1 = some (ty0 k)) (hnm : ∀ a, a < N → ∀ b, b < N → a ≠ b → (T a).2.1 ≠ (T b).2.1) (hown : s.vm.findClass own = some m.cls) (hc : cl[ci]? = some (C, T, N)) (k : Nat) (hk : k < N) (hlink : (Cond.fieldLink own index ref (T k).2.1 (T k).2.2.1).before args s = true) (hsame : ∀ x, s.fieldFound? (T k).1 (T k).2.1 (T k).2.2.1 = some x → s.fieldFound? ref (T k).2.1 (T k).2.2.1 = some x) (hfin : (T k).2.2.2 = true) (hin2 : meth.name = "<init>") (hdecl : (T k).1 = own) {tyf : FieldType} (hd : parseFieldDescriptor (T k).2.2.1 = some tyf) (hn : ∀ q, narrow tyf (.ref q) = .ref q) (hfit : ∀ q, fits tyf (.ref q) = true) (hl : k < fs.length) (hdg2 : decode cc (pc + 2) = .ok (.putfield index, 3))
    (kk : ∀ (q : Nat) (H1 : Heap) (locs1 : List Loc), zB D cl tys nw (zk ((((a, .inr (ci, fs.set k (.ref q))) :: X) ++ [(q, .inl (cA, a0))]) ++ pl)) A H0 s zz H1 locs1 → W p l e R s m args below meth c H1 locs1 (cells + 1) (slots + N') Q (F0 m (pc + 2 + 3) ls rest)) : W p l e R s m args below meth c H locs cells slots Q (F0 m pc ls (.int i :: .ref a :: rest)) := by
  refine zcna hexec hb harr hty t0 ht B N' ha hi hN hbytes hcells hslots hdg (fun q H1 B => ?_)
  exact zcputF (X := X ++ [(q, .inl (cA, a0))]) hexec hb hts hin ty0 hty0 hnm hown B hc k hk hlink hsame hfin hin2 hdecl hd (hn q) (hfit q) hl hdg2 (fun H2 locs2 B => kk q H2 locs2 B)
end ZC
