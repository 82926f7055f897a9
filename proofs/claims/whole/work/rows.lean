section
-- ===== PART A: goes FIRST, ahead of the names: the tables' words, and 'selects' of the private methods out of them =====
/-- a private method of a class that the tables say can be made, by its rows of tables_1 -/
def lw_okq (q : MethodName × Nat) : Prop := (q.1.cls ≠ "java/lang/invoke/MethodHandle" ∧ q.1.cls ≠ "java/lang/invoke/VarHandle") ∧ Cond.instantiable q.1.cls q.2 ∈ tables_1 ∧ Cond.privateMethod q.1 ∈ tables_1 ∧ Cond.instanceMethod q.1 ∈ tables_1
theorem lw_p0 : lw_okq (⟨"UnitThreads", "takesEntry", "(II)Z"⟩, 7) := ⟨⟨by decide +kernel, by decide +kernel⟩, List.mem_of_getElem? (i := 12) (by decide +kernel), List.mem_of_getElem? (i := 194) (by decide +kernel), List.mem_of_getElem? (i := 195) (by decide +kernel)⟩
theorem lw_p1 : lw_okq (⟨"UnitThreads", "isUnit", "(I)Z"⟩, 7) := ⟨⟨by decide +kernel, by decide +kernel⟩, List.mem_of_getElem? (i := 12) (by decide +kernel), List.mem_of_getElem? (i := 198) (by decide +kernel), List.mem_of_getElem? (i := 199) (by decide +kernel)⟩
theorem lw_p2 : lw_okq (⟨"UnitThreads", "tell", "(IIIIJ)V"⟩, 7) := ⟨⟨by decide +kernel, by decide +kernel⟩, List.mem_of_getElem? (i := 12) (by decide +kernel), List.mem_of_getElem? (i := 205) (by decide +kernel), List.mem_of_getElem? (i := 206) (by decide +kernel)⟩
theorem lw_p3 : lw_okq (⟨"UnitThreads", "acting", "()I"⟩, 7) := ⟨⟨by decide +kernel, by decide +kernel⟩, List.mem_of_getElem? (i := 12) (by decide +kernel), List.mem_of_getElem? (i := 247) (by decide +kernel), List.mem_of_getElem? (i := 248) (by decide +kernel)⟩
theorem lw_p4 : lw_okq (⟨"UnitThreads", "modeOf", "(I)I"⟩, 7) := ⟨⟨by decide +kernel, by decide +kernel⟩, List.mem_of_getElem? (i := 12) (by decide +kernel), List.mem_of_getElem? (i := 251) (by decide +kernel), List.mem_of_getElem? (i := 252) (by decide +kernel)⟩
theorem lw_p5 : lw_okq (⟨"UnitThreads", "passSecond", "()V"⟩, 7) := ⟨⟨by decide +kernel, by decide +kernel⟩, List.mem_of_getElem? (i := 12) (by decide +kernel), List.mem_of_getElem? (i := 259) (by decide +kernel), List.mem_of_getElem? (i := 260) (by decide +kernel)⟩
theorem lw_p6 : lw_okq (⟨"UnitThreads$Order", "moveForward", "(II)V"⟩, 3) := ⟨⟨by decide +kernel, by decide +kernel⟩, List.mem_of_getElem? (i := 97) (by decide +kernel), List.mem_of_getElem? (i := 282) (by decide +kernel), List.mem_of_getElem? (i := 283) (by decide +kernel)⟩
theorem lw_p7 : lw_okq (⟨"UnitThreads", "takeTurns", "()V"⟩, 7) := ⟨⟨by decide +kernel, by decide +kernel⟩, List.mem_of_getElem? (i := 12) (by decide +kernel), List.mem_of_getElem? (i := 286) (by decide +kernel), List.mem_of_getElem? (i := 287) (by decide +kernel)⟩
theorem lw_p8 : lw_okq (⟨"UnitThreads", "holdThrowers", "(I)V"⟩, 7) := ⟨⟨by decide +kernel, by decide +kernel⟩, List.mem_of_getElem? (i := 12) (by decide +kernel), List.mem_of_getElem? (i := 290) (by decide +kernel), List.mem_of_getElem? (i := 291) (by decide +kernel)⟩
theorem lw_p9 : lw_okq (⟨"UnitThreads", "grantWays", "(I)V"⟩, 7) := ⟨⟨by decide +kernel, by decide +kernel⟩, List.mem_of_getElem? (i := 12) (by decide +kernel), List.mem_of_getElem? (i := 302) (by decide +kernel), List.mem_of_getElem? (i := 303) (by decide +kernel)⟩
theorem lw_p10 : lw_okq (⟨"UnitThreads", "leastAsker", "(I)I"⟩, 7) := ⟨⟨by decide +kernel, by decide +kernel⟩, List.mem_of_getElem? (i := 12) (by decide +kernel), List.mem_of_getElem? (i := 306) (by decide +kernel), List.mem_of_getElem? (i := 307) (by decide +kernel)⟩
theorem lw_p11 : lw_okq (⟨"UnitThreads", "settle", "()V"⟩, 7) := ⟨⟨by decide +kernel, by decide +kernel⟩, List.mem_of_getElem? (i := 12) (by decide +kernel), List.mem_of_getElem? (i := 314) (by decide +kernel), List.mem_of_getElem? (i := 315) (by decide +kernel)⟩
theorem lw_p12 : lw_okq (⟨"UnitThreadsModel", "isUnit", "(I)Z"⟩, 26) := ⟨⟨by decide +kernel, by decide +kernel⟩, List.mem_of_getElem? (i := 403) (by decide +kernel), List.mem_of_getElem? (i := 493) (by decide +kernel), List.mem_of_getElem? (i := 494) (by decide +kernel)⟩
theorem lw_p13 : lw_okq (⟨"UnitThreadsModel", "isOpen", "(II)Z"⟩, 26) := ⟨⟨by decide +kernel, by decide +kernel⟩, List.mem_of_getElem? (i := 403) (by decide +kernel), List.mem_of_getElem? (i := 500) (by decide +kernel), List.mem_of_getElem? (i := 501) (by decide +kernel)⟩
theorem lw_p14 : lw_okq (⟨"UnitThreadsModel", "add", "(IIIIJ)Z"⟩, 26) := ⟨⟨by decide +kernel, by decide +kernel⟩, List.mem_of_getElem? (i := 403) (by decide +kernel), List.mem_of_getElem? (i := 504) (by decide +kernel), List.mem_of_getElem? (i := 505) (by decide +kernel)⟩
theorem lw_p15 : lw_okq (⟨"UnitThreadsModel", "find", "(IIII)I"⟩, 26) := ⟨⟨by decide +kernel, by decide +kernel⟩, List.mem_of_getElem? (i := 403) (by decide +kernel), List.mem_of_getElem? (i := 512) (by decide +kernel), List.mem_of_getElem? (i := 513) (by decide +kernel)⟩
def lw_privs_1 : List (MethodName × Nat) := [(⟨"UnitThreads", "takesEntry", "(II)Z"⟩, 7), (⟨"UnitThreads", "isUnit", "(I)Z"⟩, 7), (⟨"UnitThreads", "tell", "(IIIIJ)V"⟩, 7), (⟨"UnitThreads", "acting", "()I"⟩, 7), (⟨"UnitThreads", "modeOf", "(I)I"⟩, 7), (⟨"UnitThreads", "passSecond", "()V"⟩, 7), (⟨"UnitThreads$Order", "moveForward", "(II)V"⟩, 3), (⟨"UnitThreads", "takeTurns", "()V"⟩, 7), (⟨"UnitThreads", "holdThrowers", "(I)V"⟩, 7), (⟨"UnitThreads", "grantWays", "(I)V"⟩, 7), (⟨"UnitThreads", "leastAsker", "(I)I"⟩, 7), (⟨"UnitThreads", "settle", "()V"⟩, 7), (⟨"UnitThreadsModel", "isUnit", "(I)Z"⟩, 26), (⟨"UnitThreadsModel", "isOpen", "(II)Z"⟩, 26), (⟨"UnitThreadsModel", "add", "(IIIIJ)Z"⟩, 26), (⟨"UnitThreadsModel", "find", "(IIII)I"⟩, 26)]
theorem lw_r1 : ∀ q ∈ lw_privs_1, lw_okq q := List.forall_mem_cons.mpr ⟨lw_p0, List.forall_mem_cons.mpr ⟨lw_p1, List.forall_mem_cons.mpr ⟨lw_p2, List.forall_mem_cons.mpr ⟨lw_p3, List.forall_mem_cons.mpr ⟨lw_p4, List.forall_mem_cons.mpr ⟨lw_p5, List.forall_mem_cons.mpr ⟨lw_p6, List.forall_mem_cons.mpr ⟨lw_p7, List.forall_mem_cons.mpr ⟨lw_p8, List.forall_mem_cons.mpr ⟨lw_p9, List.forall_mem_cons.mpr ⟨lw_p10, List.forall_mem_cons.mpr ⟨lw_p11, List.forall_mem_cons.mpr ⟨lw_p12, List.forall_mem_cons.mpr ⟨lw_p13, List.forall_mem_cons.mpr ⟨lw_p14, List.forall_mem_cons.mpr ⟨lw_p15, fun _ h => absurd h List.not_mem_nil⟩⟩⟩⟩⟩⟩⟩⟩⟩⟩⟩⟩⟩⟩⟩⟩
theorem lw_p16 : lw_okq (⟨"UnitThreadsModel", "going", "()I"⟩, 26) := ⟨⟨by decide +kernel, by decide +kernel⟩, List.mem_of_getElem? (i := 403) (by decide +kernel), List.mem_of_getElem? (i := 532) (by decide +kernel), List.mem_of_getElem? (i := 533) (by decide +kernel)⟩
theorem lw_p17 : lw_okq (⟨"UnitThreadsModel", "goes", "(I)Z"⟩, 26) := ⟨⟨by decide +kernel, by decide +kernel⟩, List.mem_of_getElem? (i := 403) (by decide +kernel), List.mem_of_getElem? (i := 536) (by decide +kernel), List.mem_of_getElem? (i := 537) (by decide +kernel)⟩
theorem lw_p18 : lw_okq (⟨"UnitThreadsModel", "hasEnded", "(I)Z"⟩, 26) := ⟨⟨by decide +kernel, by decide +kernel⟩, List.mem_of_getElem? (i := 403) (by decide +kernel), List.mem_of_getElem? (i := 540) (by decide +kernel), List.mem_of_getElem? (i := 541) (by decide +kernel)⟩
theorem lw_p19 : lw_okq (⟨"UnitThreadsModel", "turnsOf", "(J)J"⟩, 26) := ⟨⟨by decide +kernel, by decide +kernel⟩, List.mem_of_getElem? (i := 403) (by decide +kernel), List.mem_of_getElem? (i := 544) (by decide +kernel), List.mem_of_getElem? (i := 545) (by decide +kernel)⟩
theorem lw_p20 : lw_okq (⟨"UnitThreadsModel", "takeTurn", "(I)V"⟩, 26) := ⟨⟨by decide +kernel, by decide +kernel⟩, List.mem_of_getElem? (i := 403) (by decide +kernel), List.mem_of_getElem? (i := 550) (by decide +kernel), List.mem_of_getElem? (i := 551) (by decide +kernel)⟩
theorem lw_p21 : lw_okq (⟨"UnitThreadsModel", "isNow", "(III)Z"⟩, 26) := ⟨⟨by decide +kernel, by decide +kernel⟩, List.mem_of_getElem? (i := 403) (by decide +kernel), List.mem_of_getElem? (i := 554) (by decide +kernel), List.mem_of_getElem? (i := 555) (by decide +kernel)⟩
theorem lw_p22 : lw_okq (⟨"UnitThreadsModel", "isGive", "(I)Z"⟩, 26) := ⟨⟨by decide +kernel, by decide +kernel⟩, List.mem_of_getElem? (i := 403) (by decide +kernel), List.mem_of_getElem? (i := 558) (by decide +kernel), List.mem_of_getElem? (i := 559) (by decide +kernel)⟩
theorem lw_p23 : lw_okq (⟨"UnitThreadsModel", "end", "()V"⟩, 26) := ⟨⟨by decide +kernel, by decide +kernel⟩, List.mem_of_getElem? (i := 403) (by decide +kernel), List.mem_of_getElem? (i := 562) (by decide +kernel), List.mem_of_getElem? (i := 563) (by decide +kernel)⟩
theorem lw_p24 : lw_okq (⟨"UnitThreadsModel", "tellEnd", "(II)V"⟩, 26) := ⟨⟨by decide +kernel, by decide +kernel⟩, List.mem_of_getElem? (i := 403) (by decide +kernel), List.mem_of_getElem? (i := 566) (by decide +kernel), List.mem_of_getElem? (i := 567) (by decide +kernel)⟩
theorem lw_p25 : lw_okq (⟨"UnitThreadsModel", "act", "(I)V"⟩, 26) := ⟨⟨by decide +kernel, by decide +kernel⟩, List.mem_of_getElem? (i := 403) (by decide +kernel), List.mem_of_getElem? (i := 570) (by decide +kernel), List.mem_of_getElem? (i := 571) (by decide +kernel)⟩
theorem lw_p26 : lw_okq (⟨"UnitThreadsModel", "ownsAll", "(I)Z"⟩, 26) := ⟨⟨by decide +kernel, by decide +kernel⟩, List.mem_of_getElem? (i := 403) (by decide +kernel), List.mem_of_getElem? (i := 574) (by decide +kernel), List.mem_of_getElem? (i := 575) (by decide +kernel)⟩
def lw_privs_2 : List (MethodName × Nat) := [(⟨"UnitThreadsModel", "going", "()I"⟩, 26), (⟨"UnitThreadsModel", "goes", "(I)Z"⟩, 26), (⟨"UnitThreadsModel", "hasEnded", "(I)Z"⟩, 26), (⟨"UnitThreadsModel", "turnsOf", "(J)J"⟩, 26), (⟨"UnitThreadsModel", "takeTurn", "(I)V"⟩, 26), (⟨"UnitThreadsModel", "isNow", "(III)Z"⟩, 26), (⟨"UnitThreadsModel", "isGive", "(I)Z"⟩, 26), (⟨"UnitThreadsModel", "end", "()V"⟩, 26), (⟨"UnitThreadsModel", "tellEnd", "(II)V"⟩, 26), (⟨"UnitThreadsModel", "act", "(I)V"⟩, 26), (⟨"UnitThreadsModel", "ownsAll", "(I)Z"⟩, 26)]
theorem lw_r2 : ∀ q ∈ lw_privs_2, lw_okq q := List.forall_mem_cons.mpr ⟨lw_p16, List.forall_mem_cons.mpr ⟨lw_p17, List.forall_mem_cons.mpr ⟨lw_p18, List.forall_mem_cons.mpr ⟨lw_p19, List.forall_mem_cons.mpr ⟨lw_p20, List.forall_mem_cons.mpr ⟨lw_p21, List.forall_mem_cons.mpr ⟨lw_p22, List.forall_mem_cons.mpr ⟨lw_p23, List.forall_mem_cons.mpr ⟨lw_p24, List.forall_mem_cons.mpr ⟨lw_p25, List.forall_mem_cons.mpr ⟨lw_p26, fun _ h => absurd h List.not_mem_nil⟩⟩⟩⟩⟩⟩⟩⟩⟩⟩⟩
def lw_privs : List (MethodName × Nat) := lw_privs_1 ++ (lw_privs_2)
def lw_tbl : List Cond := k2_sels lw_privs ++ tables_1
theorem lw_privs_ok : ∀ q ∈ lw_privs, lw_okq q := by
  show ∀ q ∈ lw_privs_1 ++ (lw_privs_2), lw_okq q
  exact List.forall_mem_append.mpr ⟨lw_r1, lw_r2⟩
end
section
/-! A state is a table of ints and a table of longs, by a field's number and a place; a world is a list of cells that a state lays. -/
abbrev zS : Type := (Nat → Nat → Int32) × (Nat → Nat → Int64)
def zi (σ : zS) (f i : Nat) (v : Int32) : zS := (fun g j => if g = f ∧ j = i then v else σ.1 g j, σ.2)
def zl (σ : zS) (f i : Nat) (v : Int64) : zS := (σ.1, fun g j => if g = f ∧ j = i then v else σ.2 g j)
theorem zi_2 (σ : zS) (f i : Nat) (v : Int32) : (zi σ f i v).2 = σ.2 := rfl
theorem zl_1 (σ : zS) (f i : Nat) (v : Int64) : (zl σ f i v).1 = σ.1 := rfl
theorem zi_eq (σ : zS) (f i : Nat) (v : Int32) : (zi σ f i v).1 f i = v := if_pos ⟨rfl, rfl⟩
theorem zi_nf (σ : zS) {f i g : Nat} (v : Int32) (h : g ≠ f) : (zi σ f i v).1 g = σ.1 g := funext fun _ => if_neg (fun q => h q.1)
theorem zi_ni (σ : zS) {f i j : Nat} (v : Int32) (h : j ≠ i) : (zi σ f i v).1 f j = σ.1 f j := if_neg (fun q => h q.2)
theorem zi_upd (σ : zS) (f i : Nat) (v : Int32) : (zi σ f i v).1 f = upd (σ.1 f) i v := by
  funext j
  by_cases h : j = i
  · subst h; rw [zi_eq, pk_us]
  · rw [zi_ni _ _ h, pk_un h]
theorem zl_eq (σ : zS) (f i : Nat) (v : Int64) : (zl σ f i v).2 f i = v := if_pos ⟨rfl, rfl⟩
theorem zl_nf (σ : zS) {f i g : Nat} (v : Int64) (h : g ≠ f) : (zl σ f i v).2 g = σ.2 g := funext fun _ => if_neg (fun q => h q.1)
theorem zl_ni (σ : zS) {f i j : Nat} (v : Int64) (h : j ≠ i) : (zl σ f i v).2 f j = σ.2 f j := if_neg (fun q => h q.2)
theorem zl_upd (σ : zS) (f i : Nat) (v : Int64) : (zl σ f i v).2 f = vp_updL (σ.2 f) i v := by
  funext j
  by_cases h : j = i
  · subst h; rw [zl_eq, pk_uLs]
  · rw [zl_ni _ _ h, pk_uLn h]
/-- a nest mate's link: owner, place, method, host -/
abbrev zN : Type := String × Nat × MethodName × String
def zNw (x : zN) : Cond := .methodLinkNest x.1 x.2.1 x.2.2.1 x.2.2.2
/-- the walk's bundle -/
def zB (D : va_G) (cl : List vw_C) (tys : List (ClassId × FieldType)) (nw : List zN) (w : zS → va_W) (A : Nat → Prop) (H0 : Heap) (s : State) (σ : zS) (H : Heap) (locs : List Loc) : Prop :=
  va_K D cl tys s ∧ va_P D cl (w σ) H ∧ va_D A (w σ) ∧ va_S A H0 H locs ∧ (∀ q, H0.size ≤ q → A q) ∧ ∀ x ∈ nw, va_Nw (zNw x) s
def zP (D : va_G) (cl : List vw_C) (tys : List (ClassId × FieldType)) (nw : List zN) (w : zS → va_W) (sz : Nat) (σ : zS) (U : State) : Prop :=
  U.heap.size = sz ∧ va_P D cl (w σ) U.heap ∧ va_K D cl tys U ∧ va_D (fun _ => True) (w σ) ∧ ∀ x ∈ nw, va_Nw (zNw x) U
def zQ (D : va_G) (cl : List vw_C) (tys : List (ClassId × FieldType)) (w : zS → va_W) (A : Nat → Prop) (σ : zS) (t : State) : Prop :=
  va_P D cl (w σ) t.heap ∧ va_K D cl tys t ∧ va_D A (w σ)
abbrev zMi (l : Launch) (y : MethodName) (ws : List Cond) (rm : Room) (D : va_G) (cl : List vw_C) (tys : List (ClassId × FieldType)) (nw : List zN) (w : zS → va_W) (σ : zS) (As : List Value) (post : Int32 → zS → Prop) : Prop :=
  ∀ sz : Nat, Met l y ws rm (va_Pc As (zP D cl tys nw w sz σ)) (va_Qi post (zQ D cl tys w (va_A (w σ) sz)) (va_A (w σ) sz)) 0 0 (va_A (w σ) sz)
abbrev zMl (l : Launch) (y : MethodName) (ws : List Cond) (rm : Room) (D : va_G) (cl : List vw_C) (tys : List (ClassId × FieldType)) (nw : List zN) (w : zS → va_W) (σ : zS) (As : List Value) (post : Int64 → zS → Prop) : Prop :=
  ∀ sz : Nat, Met l y ws rm (va_Pc As (zP D cl tys nw w sz σ)) (va_Ql post (zQ D cl tys w (va_A (w σ) sz)) (va_A (w σ) sz)) 0 0 (va_A (w σ) sz)
abbrev zMv (l : Launch) (y : MethodName) (ws : List Cond) (rm : Room) (D : va_G) (cl : List vw_C) (tys : List (ClassId × FieldType)) (nw : List zN) (w : zS → va_W) (σ : zS) (As : List Value) (post : zS → Prop) : Prop :=
  ∀ sz : Nat, Met l y ws rm (va_Pc As (zP D cl tys nw w sz σ)) (va_Qv post (zQ D cl tys w (va_A (w σ) sz)) (va_A (w σ) sz)) 0 0 (va_A (w σ) sz)
theorem zP_blind {D : va_G} {cl : List vw_C} {tys : List (ClassId × FieldType)} {nw : List zN} {w : zS → va_W} {σ : zS} {sz : Nat} {As : List Value} : FrameBlind (va_Pc As (zP D cl tys nw w sz σ)) := fun a U g mk q => by
  obtain ⟨q0, q1, qP, qK, qD, qN⟩ := q
  exact ⟨q0, q1, qP, va_K.moved (u := U) (U := U.calling g mk a) (Vm.Alike.refl U.vm) qK, qD, fun x hx => va_Nw.same rfl (u := U) (U := U.calling g mk a) rfl (qN x hx)⟩
theorem zB_pre {D : va_G} {cl : List vw_C} {tys : List (ClassId × FieldType)} {nw : List zN} {w : zS → va_W} {A : Nat → Prop} {H0 : Heap} {s : State} {σ : zS} {H : Heap} {locs : List Loc} {As : List Value} (B : zB D cl tys nw w A H0 s σ H locs) : ∀ U : State, U.heap = H → s.WarmedH U.vm → va_Pc As (zP D cl tys nw w H.size σ) As.toArray U := fun U hU hW =>
  ⟨rfl, by rw [hU], by rw [hU]; exact B.2.1, va_K.moved hW.alike B.1, B.2.2.1.weaken (fun _ _ _ _ => trivial), fun x hx => va_Nw.warmM hW (B.2.2.2.2.2 x hx)⟩
theorem zB_free {D : va_G} {cl : List vw_C} {tys : List (ClassId × FieldType)} {nw : List zN} {w : zS → va_W} {A : Nat → Prop} {H0 : Heap} {s : State} {σ : zS} {H : Heap} {locs : List Loc} (B : zB D cl tys nw w A H0 s σ H locs) : ∀ q, va_A (w σ) H.size q → A q := fun q h => by
  rcases h with ⟨k, e, h⟩ | h
  · exact B.2.2.1.2 k (q, e) h
  · exact B.2.2.2.2.1 q (Nat.le_trans B.2.2.2.1.1 h)
theorem zB_next {D : va_G} {cl : List vw_C} {tys : List (ClassId × FieldType)} {nw : List zN} {w : zS → va_W} {A A1 : Nat → Prop} {H0 : Heap} {s t : State} {σ σ' : zS} {H H1 : Heap} {locs locs1 : List Loc} (B : zB D cl tys nw w A H0 s σ H locs) (ht : t.heap = H1) (hB : zQ D cl tys w A1 σ' t) (hA : ∀ q, A1 q → A q) (hS : va_S A H0 H1 locs1) : zB D cl tys nw w A H0 s σ' H1 locs1 :=
  ⟨B.1, by rw [← ht]; exact hB.1, hB.2.2.weaken (fun _ q _ h => hA q.1 h), hS, B.2.2.2.2.1, B.2.2.2.2.2⟩
section ZB
variable {p : Program} {l : Launch} {e : Env} {R : Room} {s : State} {m : MethodId} {args : Array Value} {below : List Frame} {meth : Method} {c : Code} {H : Heap} {locs : List Loc} {cells slots : Nat} {Q : State → Prop}
variable {cc : ByteArray} {pc : Nat} {ls : Array Slot} {rest st0 : List Value} {D : va_G} {cl : List vw_C} {A : Nat → Prop} {a : Nat} {tys : List (ClassId × FieldType)} {nw : List zN} {w : zS → va_W} {σ : zS} {H0 : Heap}
variable {y : MethodName} {bytes : ByteArray} {maxL nL n index : Nat} {ret : Option FieldType} {ws ws' Ts : List Cond} {rm : Room} {own C host : String} {b : Addr} {As : List Value}
theorem zrecv (B : zB D cl tys nw w A H0 s σ H locs) {ci q0 : Nat} {q : vw_C} {fs : List Value} (hc : cl[ci]? = some q) (he : (w σ)[q0]? = some (a, .inr (ci, fs))) : ∃ cell : Cell, H[a]? = some cell ∧ cell.vm.isStatics = false ∧ s.vm.findClass q.1 = some cell.cls := va_recv B.1 B.2.1 hc he
theorem ziald (hexec : p.tables.exec = Jvm.exec) (hb : c.code = cc) (B : zB D cl tys nw w A H0 s σ H locs) (q0 t0 : Nat) {cA : ClassId} {N : Nat} {f : Nat → Int32} (ha : (w σ)[q0]? = some (a, .inl (cA, N, .inl f))) (ht : tys[t0]? = some (cA, .int)) {i : Int32} (k : Nat) (hi : i = nI k) (hk : k < N) (hN : N < 2 ^ 31) (hdg : decode cc pc = .ok (.iaload, 1))
    (kk : W p l e R s m args below meth c H locs cells slots Q (F0 m (pc + 1) ls (.int (f k) :: rest))) : W p l e R s m args below meth c H locs cells slots Q (F0 m pc ls (.int i :: .ref a :: rest)) := by
  subst hi
  refine va_iald hexec hb B.1 B.2.1 q0 t0 ha ht (vp_in_nI hk hN) hdg ?_
  rw [nI_clamp (Nat.lt_trans hk hN)]
  exact kk
theorem zlald (hexec : p.tables.exec = Jvm.exec) (hb : c.code = cc) (B : zB D cl tys nw w A H0 s σ H locs) (q0 t0 : Nat) {cA : ClassId} {N : Nat} {f : Nat → Int64} (ha : (w σ)[q0]? = some (a, .inl (cA, N, .inr (.inl f)))) (ht : tys[t0]? = some (cA, .long)) {i : Int32} (k : Nat) (hi : i = nI k) (hk : k < N) (hN : N < 2 ^ 31) (hdg : decode cc pc = .ok (.laload, 1))
    (kk : W p l e R s m args below meth c H locs cells slots Q (F0 m (pc + 1) ls (.long (f k) :: rest))) : W p l e R s m args below meth c H locs cells slots Q (F0 m pc ls (.int i :: .ref a :: rest)) := by
  subst hi
  refine va_lald hexec hb B.1 B.2.1 q0 t0 ha ht (vp_in_nI hk hN) hdg ?_
  rw [nI_clamp (Nat.lt_trans hk hN)]
  exact kk
theorem zaald (hexec : p.tables.exec = Jvm.exec) (hb : c.code = cc) (B : zB D cl tys nw w A H0 s σ H locs) (q0 t0 : Nat) {cA : ClassId} {C0 : String} {N v : Nat} {f : Nat → Option Nat} (ha : (w σ)[q0]? = some (a, .inl (cA, N, .inr (.inr (.inr (.inr f)))))) (ht : tys[t0]? = some (cA, .object C0)) {i : Int32} (k : Nat) (hi : i = nI k) (hk : k < N) (hN : N < 2 ^ 31) (hv : f k = some v) (hdg : decode cc pc = .ok (.aaload, 1))
    (kk : W p l e R s m args below meth c H locs cells slots Q (F0 m (pc + 1) ls (.ref v :: rest))) : W p l e R s m args below meth c H locs cells slots Q (F0 m pc ls (.int i :: .ref a :: rest)) := by
  subst hi
  refine va_aldq hexec hb B.1 B.2.1 q0 t0 ha ht (vp_in_nI hk hN) hdg ?_
  rw [nI_clamp (Nat.lt_trans hk hN), hv]
  exact kk
theorem zalen (hexec : p.tables.exec = Jvm.exec) (hb : c.code = cc) (B : zB D cl tys nw w A H0 s σ H locs) (q0 t0 : Nat) {cA : ClassId} {x : vp_A} (ha : (w σ)[q0]? = some (a, .inl (cA, x))) {ty : FieldType} (ht : tys[t0]? = some (cA, ty)) (hdg : decode cc pc = .ok (.arraylength, 1))
    (kk : W p l e R s m args below meth c H locs cells slots Q (F0 m (pc + 1) ls (.int (nI x.1) :: rest))) : W p l e R s m args below meth c H locs cells slots Q (F0 m pc ls (.ref a :: rest)) := va_alen hexec hb B.1 B.2.1 q0 t0 ha ht rfl hdg kk
theorem ziast (hexec : p.tables.exec = Jvm.exec) (hb : c.code = cc) (B : zB D cl tys nw w A H0 s σ H locs) (q0 t0 : Nat) {cA : ClassId} {N f : Nat} (ha : (w σ)[q0]? = some (a, .inl (cA, N, .inl (σ.1 f)))) (ht : tys[t0]? = some (cA, .int)) {i x : Int32} (k : Nat) (hi : i = nI k) (hk : k < N) (hN : N < 2 ^ 31) (hset : (w σ).set q0 (a, .inl (cA, N, .inl ((zi σ f k x).1 f))) = w (zi σ f k x)) (hdg : decode cc pc = .ok (.iastore, 1))
    (kk : ∀ (H1 : Heap) (locs1 : List Loc), zB D cl tys nw w A H0 s (zi σ f k x) H1 locs1 → W p l e R s m args below meth c H1 locs1 cells slots Q (F0 m (pc + 1) ls rest)) : W p l e R s m args below meth c H locs cells slots Q (F0 m pc ls (.int x :: .int i :: .ref a :: rest)) := by
  subst hi
  rw [zi_upd] at hset
  refine va_iast hexec hb B.1 B.2.1 B.2.2.1 B.2.2.2.1 q0 t0 ha ht (vp_in_nI hk hN) hdg (fun H1 locs1 hP hD hS => ?_)
  rw [nI_clamp (Nat.lt_trans hk hN), hset] at hP hD
  exact kk H1 locs1 ⟨B.1, hP, hD, hS, B.2.2.2.2⟩
theorem zlast (hexec : p.tables.exec = Jvm.exec) (hb : c.code = cc) (B : zB D cl tys nw w A H0 s σ H locs) (q0 t0 : Nat) {cA : ClassId} {N f : Nat} (ha : (w σ)[q0]? = some (a, .inl (cA, N, .inr (.inl (σ.2 f))))) (ht : tys[t0]? = some (cA, .long)) {i : Int32} {x : Int64} (k : Nat) (hi : i = nI k) (hk : k < N) (hN : N < 2 ^ 31) (hset : (w σ).set q0 (a, .inl (cA, N, .inr (.inl ((zl σ f k x).2 f)))) = w (zl σ f k x)) (hdg : decode cc pc = .ok (.lastore, 1))
    (kk : ∀ (H1 : Heap) (locs1 : List Loc), zB D cl tys nw w A H0 s (zl σ f k x) H1 locs1 → W p l e R s m args below meth c H1 locs1 cells slots Q (F0 m (pc + 1) ls rest)) : W p l e R s m args below meth c H locs cells slots Q (F0 m pc ls (.long x :: .int i :: .ref a :: rest)) := by
  subst hi
  rw [zl_upd] at hset
  refine va_last hexec hb B.1 B.2.1 B.2.2.1 B.2.2.2.1 q0 t0 ha ht (vp_in_nI hk hN) hdg (fun H1 locs1 hP hD hS => ?_)
  rw [nI_clamp (Nat.lt_trans hk hN), hset] at hP hD
  exact kk H1 locs1 ⟨B.1, hP, hD, hS, B.2.2.2.2⟩
theorem zput (hexec : p.tables.exec = Jvm.exec) (hb : c.code = cc) {ref : String} {T : u_T} {N ci : Nat} (hts : ∀ w ∈ Ts, w.before args s = true) (hin : ∀ w ∈ u_ws C T N, w ∈ Ts) (ty0 : Nat → FieldType) (hty : ∀ k, k < N → parseFieldDescriptor (T k).2.2.1 = some (ty0 k)) (hnm : ∀ a, a < N → ∀ b, b < N → a ≠ b → (T a).2.1 ≠ (T b).2.1) (hown : s.vm.findClass own = some m.cls) (B : zB D cl tys nw w A H0 s σ H locs) (q0 : Nat) {fs : List Value} (he : (w σ)[q0]? = some (a, .inr (ci, fs))) (hc : cl[ci]? = some (C, T, N)) (k : Nat) (hk : k < N) (hlink : (Cond.fieldLink own index ref (T k).2.1 (T k).2.2.1).before args s = true) (hsame : ∀ x, s.fieldFound? (T k).1 (T k).2.1 (T k).2.2.1 = some x → s.fieldFound? ref (T k).2.1 (T k).2.2.1 = some x) (hfin : (T k).2.2.2 = false) {ty : FieldType} {v : Value} (hd : parseFieldDescriptor (T k).2.2.1 = some ty) (hn : narrow ty v = v) (hfit : fits ty v = true) (hl : k < fs.length) {σ' : zS} (hset : (w σ).set q0 (a, .inr (ci, fs.set k v)) = w σ')
    (hdg : decode cc pc = .ok (.putfield index, 3)) (kk : ∀ (H1 : Heap) (locs1 : List Loc), zB D cl tys nw w A H0 s σ' H1 locs1 → W p l e R s m args below meth c H1 locs1 cells slots Q (F0 m (pc + 3) ls rest)) : W p l e R s m args below meth c H locs cells slots Q (F0 m pc ls (v :: .ref a :: rest)) := by
  refine va_put hexec hb hts hin ty0 hty hnm hown B.1 B.2.1 B.2.2.1 B.2.2.2.1 q0 he hc k hk hlink hsame hfin hd hn hfit hl hdg (fun H1 locs1 hP hD hS => ?_)
  rw [hset] at hP hD
  exact kk H1 locs1 ⟨B.1, hP, hD, hS, B.2.2.2.2⟩
theorem zcV_i {post : Int32 → zS → Prop} (S : CallFix p m c cc nL s args Ts own) (hM : zMi l y ws rm D cl tys nw w σ (.ref b :: As) post) (cw : CallW R s args own C index y bytes maxL ret ws rm 0 0 n) (B : zB D cl tys nw w A H0 s σ H locs) (hrec : ∃ cell : Cell, H[b]? = some cell ∧ cell.vm.isStatics = false ∧ s.vm.findClass C = some cell.cls) (hn : As.length = n) (hls : ls.size = nL) (hst : st0 = As.reverse ++ .ref b :: rest) (hW : (rest.map fun v => v.category).sum ≤ 8) (hdg : decode cc pc = .ok (.invokevirtual index, 3)) (hf : cells ≤ R.cells ∧ slots ≤ R.slots)
    (kk : ∀ (r : Int32) (σ' : zS) (H1 : Heap) (locs1 : List Loc), post r σ' → zB D cl tys nw w A H0 s σ' H1 locs1 → W p l e R s m args below meth c H1 locs1 cells slots Q (F0 m (pc + 3) ls (.int r :: rest))) : W p l e R s m args below meth c H locs cells slots Q (F0 m pc ls st0) :=
  va_calli (va_runV (g := F0 m pc ls st0) S (hM H.size) cw ⟨zP_blind, hrec, zB_pre B⟩ rfl hn hls hst (lv_room (m := m) (pc := pc) (ls := ls) (rest := st0) hW) hdg hf) B.2.2.2.1 (fun q _ h => zB_free B q h) (zB_free B) (fun r u t H1 locs1 ht hvm hp hB hz hk hS => kk r u H1 locs1 hp (zB_next B ht hB (zB_free B) hS))
theorem zcS_i {post : Int32 → zS → Prop} (S : CallFix p m c cc nL s args Ts own) (hM : zMi l y ws rm D cl tys nw w σ As post) (cw : CallB R s args own index y bytes maxL ret ws rm 0 0 n ∧ (Cond.static y).before args s = true) (B : zB D cl tys nw w A H0 s σ H locs) (hn : As.length = n) (hls : ls.size = nL) (hst : st0 = As.reverse ++ rest) (hW : (rest.map fun v => v.category).sum ≤ 8) (hdg : decode cc pc = .ok (.invokestatic index, 3)) (hf : cells ≤ R.cells ∧ slots ≤ R.slots)
    (kk : ∀ (r : Int32) (σ' : zS) (H1 : Heap) (locs1 : List Loc), post r σ' → zB D cl tys nw w A H0 s σ' H1 locs1 → W p l e R s m args below meth c H1 locs1 cells slots Q (F0 m (pc + 3) ls (.int r :: rest))) : W p l e R s m args below meth c H locs cells slots Q (F0 m pc ls st0) :=
  va_calli (va_runS (g := F0 m pc ls st0) S (hM H.size) cw ⟨zP_blind, zB_pre B⟩ rfl hn hls hst (lv_room (m := m) (pc := pc) (ls := ls) (rest := st0) hW) hdg hf) B.2.2.2.1 (fun q _ h => zB_free B q h) (zB_free B) (fun r u t H1 locs1 ht hvm hp hB hz hk hS => kk r u H1 locs1 hp (zB_next B ht hB (zB_free B) hS))
theorem zcSN_i {post : Int32 → zS → Prop} (S : CallFix p m c cc nL s args Ts own) (hM : zMi l y ws rm D cl tys nw w σ As post) (cw : va_CN R s args own index y host bytes maxL ret ws rm 0 0 n ∧ (Cond.static y).before args s = true ∧ True) (B : zB D cl tys nw w A H0 s σ H locs) (hn : As.length = n) (hls : ls.size = nL) (hst : st0 = As.reverse ++ rest) (hW : (rest.map fun v => v.category).sum ≤ 8) (hdg : decode cc pc = .ok (.invokestatic index, 3)) (hf : cells ≤ R.cells ∧ slots ≤ R.slots)
    (kk : ∀ (r : Int32) (σ' : zS) (H1 : Heap) (locs1 : List Loc), post r σ' → zB D cl tys nw w A H0 s σ' H1 locs1 → W p l e R s m args below meth c H1 locs1 cells slots Q (F0 m (pc + 3) ls (.int r :: rest))) : W p l e R s m args below meth c H locs cells slots Q (F0 m pc ls st0) :=
  va_calli (va_runSN (g := F0 m pc ls st0) S (hM H.size) cw ⟨zP_blind, zB_pre B⟩ rfl hn hls hst (lv_room (m := m) (pc := pc) (ls := ls) (rest := st0) hW) hdg hf) B.2.2.2.1 (fun q _ h => zB_free B q h) (zB_free B) (fun r u t H1 locs1 ht hvm hp hB hz hk hS => kk r u H1 locs1 hp (zB_next B ht hB (zB_free B) hS))
theorem zcVN_i {post : Int32 → zS → Prop} (S : CallFix p m c cc nL s args Ts own) (hM : zMi l y ws rm D cl tys nw w σ (.ref b :: As) post) (cw : va_CN R s args own index y host bytes maxL ret ws rm 0 0 n ∧ (Cond.instanceMethod y).before args s = true ∧ (Cond.selects C y y).before args s = true) (B : zB D cl tys nw w A H0 s σ H locs) (hrec : ∃ cell : Cell, H[b]? = some cell ∧ cell.vm.isStatics = false ∧ s.vm.findClass C = some cell.cls) (hn : As.length = n) (hls : ls.size = nL) (hst : st0 = As.reverse ++ .ref b :: rest) (hW : (rest.map fun v => v.category).sum ≤ 8) (hdg : decode cc pc = .ok (.invokevirtual index, 3)) (hf : cells ≤ R.cells ∧ slots ≤ R.slots)
    (kk : ∀ (r : Int32) (σ' : zS) (H1 : Heap) (locs1 : List Loc), post r σ' → zB D cl tys nw w A H0 s σ' H1 locs1 → W p l e R s m args below meth c H1 locs1 cells slots Q (F0 m (pc + 3) ls (.int r :: rest))) : W p l e R s m args below meth c H locs cells slots Q (F0 m pc ls st0) :=
  va_calli (va_runVN (g := F0 m pc ls st0) S (hM H.size) cw ⟨zP_blind, hrec, zB_pre B⟩ rfl hn hls hst (lv_room (m := m) (pc := pc) (ls := ls) (rest := st0) hW) hdg hf) B.2.2.2.1 (fun q _ h => zB_free B q h) (zB_free B) (fun r u t H1 locs1 ht hvm hp hB hz hk hS => kk r u H1 locs1 hp (zB_next B ht hB (zB_free B) hS))
theorem zcV_l {post : Int64 → zS → Prop} (S : CallFix p m c cc nL s args Ts own) (hM : zMl l y ws rm D cl tys nw w σ (.ref b :: As) post) (cw : CallW R s args own C index y bytes maxL ret ws rm 0 0 n) (B : zB D cl tys nw w A H0 s σ H locs) (hrec : ∃ cell : Cell, H[b]? = some cell ∧ cell.vm.isStatics = false ∧ s.vm.findClass C = some cell.cls) (hn : As.length = n) (hls : ls.size = nL) (hst : st0 = As.reverse ++ .ref b :: rest) (hW : (rest.map fun v => v.category).sum ≤ 8) (hdg : decode cc pc = .ok (.invokevirtual index, 3)) (hf : cells ≤ R.cells ∧ slots ≤ R.slots)
    (kk : ∀ (r : Int64) (σ' : zS) (H1 : Heap) (locs1 : List Loc), post r σ' → zB D cl tys nw w A H0 s σ' H1 locs1 → W p l e R s m args below meth c H1 locs1 cells slots Q (F0 m (pc + 3) ls (.long r :: rest))) : W p l e R s m args below meth c H locs cells slots Q (F0 m pc ls st0) :=
  va_calll (va_runV (g := F0 m pc ls st0) S (hM H.size) cw ⟨zP_blind, hrec, zB_pre B⟩ rfl hn hls hst (lv_room (m := m) (pc := pc) (ls := ls) (rest := st0) hW) hdg hf) B.2.2.2.1 (fun q _ h => zB_free B q h) (zB_free B) (fun r u t H1 locs1 ht hvm hp hB hz hk hS => kk r u H1 locs1 hp (zB_next B ht hB (zB_free B) hS))
theorem zcS_l {post : Int64 → zS → Prop} (S : CallFix p m c cc nL s args Ts own) (hM : zMl l y ws rm D cl tys nw w σ As post) (cw : CallB R s args own index y bytes maxL ret ws rm 0 0 n ∧ (Cond.static y).before args s = true) (B : zB D cl tys nw w A H0 s σ H locs) (hn : As.length = n) (hls : ls.size = nL) (hst : st0 = As.reverse ++ rest) (hW : (rest.map fun v => v.category).sum ≤ 8) (hdg : decode cc pc = .ok (.invokestatic index, 3)) (hf : cells ≤ R.cells ∧ slots ≤ R.slots)
    (kk : ∀ (r : Int64) (σ' : zS) (H1 : Heap) (locs1 : List Loc), post r σ' → zB D cl tys nw w A H0 s σ' H1 locs1 → W p l e R s m args below meth c H1 locs1 cells slots Q (F0 m (pc + 3) ls (.long r :: rest))) : W p l e R s m args below meth c H locs cells slots Q (F0 m pc ls st0) :=
  va_calll (va_runS (g := F0 m pc ls st0) S (hM H.size) cw ⟨zP_blind, zB_pre B⟩ rfl hn hls hst (lv_room (m := m) (pc := pc) (ls := ls) (rest := st0) hW) hdg hf) B.2.2.2.1 (fun q _ h => zB_free B q h) (zB_free B) (fun r u t H1 locs1 ht hvm hp hB hz hk hS => kk r u H1 locs1 hp (zB_next B ht hB (zB_free B) hS))
theorem zcSN_l {post : Int64 → zS → Prop} (S : CallFix p m c cc nL s args Ts own) (hM : zMl l y ws rm D cl tys nw w σ As post) (cw : va_CN R s args own index y host bytes maxL ret ws rm 0 0 n ∧ (Cond.static y).before args s = true ∧ True) (B : zB D cl tys nw w A H0 s σ H locs) (hn : As.length = n) (hls : ls.size = nL) (hst : st0 = As.reverse ++ rest) (hW : (rest.map fun v => v.category).sum ≤ 8) (hdg : decode cc pc = .ok (.invokestatic index, 3)) (hf : cells ≤ R.cells ∧ slots ≤ R.slots)
    (kk : ∀ (r : Int64) (σ' : zS) (H1 : Heap) (locs1 : List Loc), post r σ' → zB D cl tys nw w A H0 s σ' H1 locs1 → W p l e R s m args below meth c H1 locs1 cells slots Q (F0 m (pc + 3) ls (.long r :: rest))) : W p l e R s m args below meth c H locs cells slots Q (F0 m pc ls st0) :=
  va_calll (va_runSN (g := F0 m pc ls st0) S (hM H.size) cw ⟨zP_blind, zB_pre B⟩ rfl hn hls hst (lv_room (m := m) (pc := pc) (ls := ls) (rest := st0) hW) hdg hf) B.2.2.2.1 (fun q _ h => zB_free B q h) (zB_free B) (fun r u t H1 locs1 ht hvm hp hB hz hk hS => kk r u H1 locs1 hp (zB_next B ht hB (zB_free B) hS))
theorem zcVN_l {post : Int64 → zS → Prop} (S : CallFix p m c cc nL s args Ts own) (hM : zMl l y ws rm D cl tys nw w σ (.ref b :: As) post) (cw : va_CN R s args own index y host bytes maxL ret ws rm 0 0 n ∧ (Cond.instanceMethod y).before args s = true ∧ (Cond.selects C y y).before args s = true) (B : zB D cl tys nw w A H0 s σ H locs) (hrec : ∃ cell : Cell, H[b]? = some cell ∧ cell.vm.isStatics = false ∧ s.vm.findClass C = some cell.cls) (hn : As.length = n) (hls : ls.size = nL) (hst : st0 = As.reverse ++ .ref b :: rest) (hW : (rest.map fun v => v.category).sum ≤ 8) (hdg : decode cc pc = .ok (.invokevirtual index, 3)) (hf : cells ≤ R.cells ∧ slots ≤ R.slots)
    (kk : ∀ (r : Int64) (σ' : zS) (H1 : Heap) (locs1 : List Loc), post r σ' → zB D cl tys nw w A H0 s σ' H1 locs1 → W p l e R s m args below meth c H1 locs1 cells slots Q (F0 m (pc + 3) ls (.long r :: rest))) : W p l e R s m args below meth c H locs cells slots Q (F0 m pc ls st0) :=
  va_calll (va_runVN (g := F0 m pc ls st0) S (hM H.size) cw ⟨zP_blind, hrec, zB_pre B⟩ rfl hn hls hst (lv_room (m := m) (pc := pc) (ls := ls) (rest := st0) hW) hdg hf) B.2.2.2.1 (fun q _ h => zB_free B q h) (zB_free B) (fun r u t H1 locs1 ht hvm hp hB hz hk hS => kk r u H1 locs1 hp (zB_next B ht hB (zB_free B) hS))
theorem zcV_v {post : zS → Prop} (S : CallFix p m c cc nL s args Ts own) (hM : zMv l y ws rm D cl tys nw w σ (.ref b :: As) post) (cw : CallW R s args own C index y bytes maxL ret ws rm 0 0 n) (B : zB D cl tys nw w A H0 s σ H locs) (hrec : ∃ cell : Cell, H[b]? = some cell ∧ cell.vm.isStatics = false ∧ s.vm.findClass C = some cell.cls) (hn : As.length = n) (hls : ls.size = nL) (hst : st0 = As.reverse ++ .ref b :: rest) (hW : (rest.map fun v => v.category).sum ≤ 8) (hdg : decode cc pc = .ok (.invokevirtual index, 3)) (hf : cells ≤ R.cells ∧ slots ≤ R.slots)
    (kk : ∀ (σ' : zS) (H1 : Heap) (locs1 : List Loc), post σ' → zB D cl tys nw w A H0 s σ' H1 locs1 → W p l e R s m args below meth c H1 locs1 cells slots Q (F0 m (pc + 3) ls (rest))) : W p l e R s m args below meth c H locs cells slots Q (F0 m pc ls st0) :=
  va_callv (va_runV (g := F0 m pc ls st0) S (hM H.size) cw ⟨zP_blind, hrec, zB_pre B⟩ rfl hn hls hst (lv_room (m := m) (pc := pc) (ls := ls) (rest := st0) hW) hdg hf) B.2.2.2.1 (fun q _ h => zB_free B q h) (zB_free B) (fun u t H1 locs1 ht hvm hp hB hz hk hS => kk u H1 locs1 hp (zB_next B ht hB (zB_free B) hS))
theorem zcS_v {post : zS → Prop} (S : CallFix p m c cc nL s args Ts own) (hM : zMv l y ws rm D cl tys nw w σ As post) (cw : CallB R s args own index y bytes maxL ret ws rm 0 0 n ∧ (Cond.static y).before args s = true) (B : zB D cl tys nw w A H0 s σ H locs) (hn : As.length = n) (hls : ls.size = nL) (hst : st0 = As.reverse ++ rest) (hW : (rest.map fun v => v.category).sum ≤ 8) (hdg : decode cc pc = .ok (.invokestatic index, 3)) (hf : cells ≤ R.cells ∧ slots ≤ R.slots)
    (kk : ∀ (σ' : zS) (H1 : Heap) (locs1 : List Loc), post σ' → zB D cl tys nw w A H0 s σ' H1 locs1 → W p l e R s m args below meth c H1 locs1 cells slots Q (F0 m (pc + 3) ls (rest))) : W p l e R s m args below meth c H locs cells slots Q (F0 m pc ls st0) :=
  va_callv (va_runS (g := F0 m pc ls st0) S (hM H.size) cw ⟨zP_blind, zB_pre B⟩ rfl hn hls hst (lv_room (m := m) (pc := pc) (ls := ls) (rest := st0) hW) hdg hf) B.2.2.2.1 (fun q _ h => zB_free B q h) (zB_free B) (fun u t H1 locs1 ht hvm hp hB hz hk hS => kk u H1 locs1 hp (zB_next B ht hB (zB_free B) hS))
theorem zcSN_v {post : zS → Prop} (S : CallFix p m c cc nL s args Ts own) (hM : zMv l y ws rm D cl tys nw w σ As post) (cw : va_CN R s args own index y host bytes maxL ret ws rm 0 0 n ∧ (Cond.static y).before args s = true ∧ True) (B : zB D cl tys nw w A H0 s σ H locs) (hn : As.length = n) (hls : ls.size = nL) (hst : st0 = As.reverse ++ rest) (hW : (rest.map fun v => v.category).sum ≤ 8) (hdg : decode cc pc = .ok (.invokestatic index, 3)) (hf : cells ≤ R.cells ∧ slots ≤ R.slots)
    (kk : ∀ (σ' : zS) (H1 : Heap) (locs1 : List Loc), post σ' → zB D cl tys nw w A H0 s σ' H1 locs1 → W p l e R s m args below meth c H1 locs1 cells slots Q (F0 m (pc + 3) ls (rest))) : W p l e R s m args below meth c H locs cells slots Q (F0 m pc ls st0) :=
  va_callv (va_runSN (g := F0 m pc ls st0) S (hM H.size) cw ⟨zP_blind, zB_pre B⟩ rfl hn hls hst (lv_room (m := m) (pc := pc) (ls := ls) (rest := st0) hW) hdg hf) B.2.2.2.1 (fun q _ h => zB_free B q h) (zB_free B) (fun u t H1 locs1 ht hvm hp hB hz hk hS => kk u H1 locs1 hp (zB_next B ht hB (zB_free B) hS))
theorem zcVN_v {post : zS → Prop} (S : CallFix p m c cc nL s args Ts own) (hM : zMv l y ws rm D cl tys nw w σ (.ref b :: As) post) (cw : va_CN R s args own index y host bytes maxL ret ws rm 0 0 n ∧ (Cond.instanceMethod y).before args s = true ∧ (Cond.selects C y y).before args s = true) (B : zB D cl tys nw w A H0 s σ H locs) (hrec : ∃ cell : Cell, H[b]? = some cell ∧ cell.vm.isStatics = false ∧ s.vm.findClass C = some cell.cls) (hn : As.length = n) (hls : ls.size = nL) (hst : st0 = As.reverse ++ .ref b :: rest) (hW : (rest.map fun v => v.category).sum ≤ 8) (hdg : decode cc pc = .ok (.invokevirtual index, 3)) (hf : cells ≤ R.cells ∧ slots ≤ R.slots)
    (kk : ∀ (σ' : zS) (H1 : Heap) (locs1 : List Loc), post σ' → zB D cl tys nw w A H0 s σ' H1 locs1 → W p l e R s m args below meth c H1 locs1 cells slots Q (F0 m (pc + 3) ls (rest))) : W p l e R s m args below meth c H locs cells slots Q (F0 m pc ls st0) :=
  va_callv (va_runVN (g := F0 m pc ls st0) S (hM H.size) cw ⟨zP_blind, hrec, zB_pre B⟩ rfl hn hls hst (lv_room (m := m) (pc := pc) (ls := ls) (rest := st0) hW) hdg hf) B.2.2.2.1 (fun q _ h => zB_free B q h) (zB_free B) (fun u t H1 locs1 ht hvm hp hB hz hk hS => kk u H1 locs1 hp (zB_next B ht hB (zB_free B) hS))
theorem zret_i {post : Int32 → zS → Prop} {v : Int32} (hexec : p.tables.exec = Jvm.exec) (hb : c.code = cc) (hr : meth.sig.returnType = some .int) (hlocks : meth.locks = false) (B : zB D cl tys nw w A s.heap s σ H locs) (hp : post v σ) (hdg : decode cc pc = .ok (.ireturn, 1)) : W p l e R s m args below meth c H locs 0 0 (MQ below (va_Qi post (zQ D cl tys w A) A) args s 0 0 A) (F0 m pc ls [.int v]) :=
  W.iret hexec hb hr (fun t ht hW => ⟨⟨v, σ, rfl, hp, by rw [ht]; exact B.2.1, va_K.moved hW.alike B.1, B.2.2.1⟩, B.2.2.2.1.F ht⟩) B.2.2.2.1.2.2 hdg hlocks
theorem zret_z {post : Int32 → zS → Prop} {v : Int32} (hexec : p.tables.exec = Jvm.exec) (hb : c.code = cc) (hr : meth.sig.returnType = some .boolean) (hn : narrow .boolean (.int v) = .int v) (hlocks : meth.locks = false) (B : zB D cl tys nw w A s.heap s σ H locs) (hp : post v σ) (hdg : decode cc pc = .ok (.ireturn, 1)) : W p l e R s m args below meth c H locs 0 0 (MQ below (va_Qi post (zQ D cl tys w A) A) args s 0 0 A) (F0 m pc ls [.int v]) :=
  W.zret hexec hb hr hn (fun t ht hW => ⟨⟨v, σ, rfl, hp, by rw [ht]; exact B.2.1, va_K.moved hW.alike B.1, B.2.2.1⟩, B.2.2.2.1.F ht⟩) B.2.2.2.1.2.2 hdg hlocks
theorem zret_l {post : Int64 → zS → Prop} {v : Int64} (hexec : p.tables.exec = Jvm.exec) (hb : c.code = cc) (hr : meth.sig.returnType = some .long) (hlocks : meth.locks = false) (B : zB D cl tys nw w A s.heap s σ H locs) (hp : post v σ) (hdg : decode cc pc = .ok (.lreturn, 1)) : W p l e R s m args below meth c H locs 0 0 (MQ below (va_Ql post (zQ D cl tys w A) A) args s 0 0 A) (F0 m pc ls [.long v]) :=
  W.lret hexec hb hr (fun t ht hW => ⟨⟨v, σ, rfl, hp, by rw [ht]; exact B.2.1, va_K.moved hW.alike B.1, B.2.2.1⟩, B.2.2.2.1.F ht⟩) B.2.2.2.1.2.2 hdg hlocks
theorem zret_v {post : zS → Prop} (hexec : p.tables.exec = Jvm.exec) (hb : c.code = cc) (hr : meth.sig.returnType = none) (hlocks : meth.locks = false) (B : zB D cl tys nw w A s.heap s σ H locs) (hp : post σ) (hdg : decode cc pc = .ok (.return_, 1)) : W p l e R s m args below meth c H locs 0 0 (MQ below (va_Qv post (zQ D cl tys w A) A) args s 0 0 A) (F0 m pc ls []) :=
  W.vret hexec hb hr (fun t ht hW => ⟨⟨σ, rfl, hp, by rw [ht]; exact B.2.1, va_K.moved hW.alike B.1, B.2.2.1⟩, B.2.2.2.1.F ht⟩) B.2.2.2.1.2.2 hdg hlocks
theorem zcopyl (hexec : p.tables.exec = Jvm.exec) (hb : c.code = cc) (hml : c.maxLocals = ls.size) (hown : s.vm.findClass own = some m.cls) (hlink : (Cond.methodLink own index arraycopyName).before args s = true) (hnat : (Cond.native arraycopyName).before args s = true) (hstat : (Cond.static arraycopyName).before args s = true) (hini : (Cond.initialized "java/lang/System").before args s = true) (B : zB D cl tys nw w A H0 s σ H locs) (q0 q1 : Nat) {a0 : Nat} {c0 c1 : ClassId} {n0 n1 : Nat} {f g : Nat → Int64} (ha0 : (w σ)[q0]? = some (a0, .inl (c0, n0, .inr (.inl f)))) (ha1 : (w σ)[q1]? = some (a, .inl (c1, n1, .inr (.inl g)))) {t0 t1 : Nat} (ht0 : tys[t0]? = some (c0, .long)) (ht1 : tys[t1]? = some (c1, .long)) (sp dp k : Nat) {isp idp ik : Int32} (hsp : isp = nI sp) (hdp : idp = nI dp) (hk : ik = nI k) (h4 : sp + k ≤ n0) (h5 : dp + k ≤ n1) (hbig : n0 < 2 ^ 31 ∧ n1 < 2 ^ 31)
    (hframes : 1 ≤ R.frames) (hlocals : (rest.map fun v => v.category).sum + (nativeFrameWords "java/lang/System" "arraycopy" 5 + 11) ≤ R.locals) {σ' : zS} (hset : (w σ).set q1 (a, .inl (c1, n1, .inr (.inl (va_cpy f g sp dp k)))) = w σ') (hdg : decode cc pc = .ok (.invokestatic index, 3))
    (kk : ∀ (H1 : Heap) (locs1 : List Loc), zB D cl tys nw w A H0 s σ' H1 locs1 → W p l e R s m args below meth c H1 locs1 cells slots Q (F0 m (pc + 3) ls rest)) : W p l e R s m args below meth c H locs cells slots Q (F0 m pc ls (.int ik :: .int idp :: .ref a :: .int isp :: .ref a0 :: rest)) := by
  subst hsp; subst hdp; subst hk
  have e1 := nI_clamp (n := sp) (by omega)
  have e2 := nI_clamp (n := dp) (by omega)
  have e3 := nI_clamp (n := k) (by omega)
  refine va_copyl hexec hb hml hown hlink hnat hstat hini B.1 B.2.1 B.2.2.1 B.2.2.2.1 q0 q1 t0 t1 ha0 ha1 ht0 ht1 rfl (nI_pos (by omega)) (nI_pos (by omega)) (nI_pos (by omega)) (by rw [e1, e3]; exact h4) (by rw [e2, e3]; exact h5) (fun _ _ => rfl) hframes hlocals hdg (fun H1 locs1 hP hD hS => ?_)
  rw [e1, e2, e3, hset] at hP hD
  exact kk H1 locs1 ⟨B.1, hP, hD, hS, B.2.2.2.2⟩
theorem zcopyi (hexec : p.tables.exec = Jvm.exec) (hb : c.code = cc) (hml : c.maxLocals = ls.size) (hown : s.vm.findClass own = some m.cls) (hlink : (Cond.methodLink own index arraycopyName).before args s = true) (hnat : (Cond.native arraycopyName).before args s = true) (hstat : (Cond.static arraycopyName).before args s = true) (hini : (Cond.initialized "java/lang/System").before args s = true) (B : zB D cl tys nw w A H0 s σ H locs) (q0 q1 : Nat) {a0 : Nat} {c0 c1 : ClassId} {n0 n1 : Nat} {f g : Nat → Int32} (ha0 : (w σ)[q0]? = some (a0, .inl (c0, n0, .inl f))) (ha1 : (w σ)[q1]? = some (a, .inl (c1, n1, .inl g))) {t0 t1 : Nat} (ht0 : tys[t0]? = some (c0, .int)) (ht1 : tys[t1]? = some (c1, .int)) (sp dp k : Nat) {isp idp ik : Int32} (hsp : isp = nI sp) (hdp : idp = nI dp) (hk : ik = nI k) (h4 : sp + k ≤ n0) (h5 : dp + k ≤ n1) (hbig : n0 < 2 ^ 31 ∧ n1 < 2 ^ 31)
    (hframes : 1 ≤ R.frames) (hlocals : (rest.map fun v => v.category).sum + (nativeFrameWords "java/lang/System" "arraycopy" 5 + 11) ≤ R.locals) {σ' : zS} (hset : (w σ).set q1 (a, .inl (c1, n1, .inl (va_cpy f g sp dp k))) = w σ') (hdg : decode cc pc = .ok (.invokestatic index, 3))
    (kk : ∀ (H1 : Heap) (locs1 : List Loc), zB D cl tys nw w A H0 s σ' H1 locs1 → W p l e R s m args below meth c H1 locs1 cells slots Q (F0 m (pc + 3) ls rest)) : W p l e R s m args below meth c H locs cells slots Q (F0 m pc ls (.int ik :: .int idp :: .ref a :: .int isp :: .ref a0 :: rest)) := by
  subst hsp; subst hdp; subst hk
  have e1 := nI_clamp (n := sp) (by omega)
  have e2 := nI_clamp (n := dp) (by omega)
  have e3 := nI_clamp (n := k) (by omega)
  refine va_copyi hexec hb hml hown hlink hnat hstat hini B.1 B.2.1 B.2.2.1 B.2.2.2.1 q0 q1 t0 t1 ha0 ha1 ht0 ht1 rfl (nI_pos (by omega)) (nI_pos (by omega)) (nI_pos (by omega)) (by rw [e1, e3]; exact h4) (by rw [e2, e3]; exact h5) (fun _ _ => rfl) hframes hlocals hdg (fun H1 locs1 hP hD hS => ?_)
  rw [e1, e2, e3, hset] at hP hD
  exact kk H1 locs1 ⟨B.1, hP, hD, hS, B.2.2.2.2⟩
theorem zrwi {x y : Int32} (h : x = y) (k : W p l e R s m args below meth c H locs cells slots Q (F0 m pc ls (.int y :: rest))) : W p l e R s m args below meth c H locs cells slots Q (F0 m pc ls (.int x :: rest)) := by
  rw [h]; exact k
theorem zrwl {x y : Int64} (h : x = y) (k : W p l e R s m args below meth c H locs cells slots Q (F0 m pc ls (.long y :: rest))) : W p l e R s m args below meth c H locs cells slots Q (F0 m pc ls (.long x :: rest)) := by
  rw [h]; exact k
/-- a contract out of a walk of its body -/
theorem zintro {Qc : Nat → Array Value → State → Outcome → State → Prop} (hy : plainName y.cls = true) (hw : ws = Cond.code y cc maxL ret :: ws') (hsl : (lg_sl As).length ≤ maxL)
    (body : ∀ (p : Program) (e : Env) (s : State) (m : MethodId) (below : List Frame) (meth : Method) (c : Code) (ls : Array Slot), p.tables.exec = Jvm.exec → c.code = cc → meth.sig.returnType = ret → c.maxLocals = maxL → (∀ w ∈ ws, w.before As.toArray s = true) → s.vm.findClass y.cls = some m.cls → meth.locks = false → lv_has ls maxL (lv_args 0 As) → zB D cl tys nw w (va_A (w σ) s.heap.size) s.heap s σ s.heap [] →
      W p l e (headSpec ws rm).room s m As.toArray below meth c s.heap [] 0 0 (MQ below (Qc s.heap.size) As.toArray s 0 0 (va_A (w σ) s.heap.size)) (F0 m 0 ls [])) : ∀ sz : Nat, Met l y ws rm (va_Pc As (zP D cl tys nw w sz σ)) (Qc sz) 0 0 (va_A (w σ) sz) := by
  intro sz
  refine Met.ofW (cc := cc) (maxL := maxL) (ret := ret) hy hw ?_
  intro p e s m args below meth c s₁ B hml hv
  obtain ⟨rfl, hsz, hP, hK, hD0, hN⟩ := hv
  subst hsz
  have hl := lv_entry As (n := maxL) hsl
  rw [lg_entry_eq]
  exact body p e s m below meth c _ B.exec B.bytes B.returns hml (atoms_spec (ws := ws) B.pre) (findClass_of_methodNamed B.named) B.notSynchronized hl ⟨hK, hP, hD0.self, va_S.rf, fun q h => Or.inr h, hN⟩
end ZB
theorem zinc (k : Nat) : nI k + Int32.ofInt 1 = nI (k + 1) := nI_1 k
/-- a counting loop over states: c turns from place k on -/
def zit (step : Nat → zS → zS) : Nat → Nat → zS → zS
  | 0, _, σ => σ
  | c + 1, k, σ => zit step c (k + 1) (step k σ)
def zb (b : Bool) : Int32 := if b = true then 1 else 0
theorem zb_t : zb true = 1 := rfl
theorem zb_f : zb false = 0 := rfl
theorem zb_eq0 {b : Bool} : zb b = 0 ↔ b = false := by cases b <;> decide
theorem zb_ne0 {b : Bool} : ¬ zb b = 0 ↔ b = true := by cases b <;> decide
theorem zb_nar (b : Bool) : narrow .boolean (.int (zb b)) = .int (zb b) := by cases b <;> rfl
theorem ztab2 {x : Int32} (h0 : ¬ x = 0) (h1 : ¬ x = 1) (h2 : ¬ x = 2) : x.toInt < 0 ∨ 2 < x.toInt := by
  have a0 := lv_neT h0 (a := 0) rfl
  have a1 := lv_neT h1 (a := 1) rfl
  have a2 := lv_neT h2 (a := 2) rfl
  omega
theorem ztab3 {x : Int32} (h0 : ¬ x = 0) (h1 : ¬ x = 1) (h2 : ¬ x = 2) (h3 : ¬ x = 3) : x.toInt < 0 ∨ 3 < x.toInt := by
  have a0 := lv_neT h0 (a := 0) rfl
  have a1 := lv_neT h1 (a := 1) rfl
  have a2 := lv_neT h2 (a := 2) rfl
  have a3 := lv_neT h3 (a := 3) rfl
  omega
end
section
/-- the words of the tables that keep: every method has them all -/
def zW : List Cond := lw_tbl.filter goodWord
theorem zW_tbl : ∀ w ∈ zW, w ∈ lw_tbl := fun w h => (List.mem_filter.mp h).1
theorem zW_good : ∀ w ∈ zW, (w.onTables && w.keeps) = true ∨ ∃ ty, w = .arrayClass ty := fun w h => good_of_word (List.mem_filter.mp h).2
theorem zW_of {w : Cond} (i : Nat) (h : tables_1[i]? = some w) (g : goodWord w = true) : w ∈ zW := List.mem_filter.mpr ⟨List.mem_append_right _ (List.mem_of_getElem? h), g⟩
theorem zW_sel {w : Cond} (i : Nat) (h : (k2_sels lw_privs)[i]? = some w) (g : goodWord w = true) : w ∈ zW := List.mem_filter.mpr ⟨List.mem_append_left _ (List.mem_of_getElem? h), g⟩
abbrev zws (y : MethodName) (cc : ByteArray) (n : Nat) (r : Option FieldType) : List Cond := Cond.code y cc n r :: zW
theorem zgoodC {y : MethodName} {cc : ByteArray} {n : Nat} {r : Option FieldType} (h : Cond.code y cc n r ∈ zW) : GoodIn zW (zws y cc n r) := fun w hw => by
  rcases List.mem_cons.mp hw with e | e
  · rw [e]; exact ⟨h, zW_good _ h⟩
  · exact ⟨e, zW_good _ e⟩
theorem zgoodV {own C : String} {i : Nat} {y : MethodName} {cc : ByteArray} {n : Nat} {r : Option FieldType} (h1 : Cond.methodLink own i y ∈ zW) (h2 : Cond.instanceMethod y ∈ zW) (h3 : Cond.selects C y y ∈ zW) (h4 : Cond.initialized C ∈ zW) (h : Cond.code y cc n r ∈ zW) : GoodIn zW (wsV own i C y (zws y cc n r)) := fun w hw => by
  rcases List.mem_append.mp hw with e | e
  · simp only [List.mem_cons, List.not_mem_nil, or_false] at e
    rcases e with rfl | rfl | rfl | rfl
    · exact ⟨h1, zW_good _ h1⟩
    · exact ⟨h2, zW_good _ h2⟩
    · exact ⟨h3, zW_good _ h3⟩
    · exact ⟨h4, zW_good _ h4⟩
  · exact zgoodC h w e
theorem zgoodS {own : String} {i : Nat} {y : MethodName} {cc : ByteArray} {n : Nat} {r : Option FieldType} (h1 : Cond.methodLink own i y ∈ zW) (h2 : Cond.static y ∈ zW) (h4 : Cond.initialized own ∈ zW) (h : Cond.code y cc n r ∈ zW) : GoodIn zW (wsS own i y (zws y cc n r)) := fun w hw => by
  rcases List.mem_append.mp hw with e | e
  · simp only [List.mem_cons, List.not_mem_nil, or_false] at e
    rcases e with rfl | rfl | rfl
    · exact ⟨h1, zW_good _ h1⟩
    · exact ⟨h2, zW_good _ h2⟩
    · exact ⟨h4, zW_good _ h4⟩
  · exact zgoodC h w e
theorem zgoodT {own : String} {i : Nat} {y : MethodName} {cc : ByteArray} {n : Nat} {r : Option FieldType} (h1 : Cond.methodLink own i y ∈ zW) (h2 : Cond.static y ∈ zW) (h4 : Cond.initialized y.cls ∈ zW) (h : Cond.code y cc n r ∈ zW) : GoodIn zW (va_wsS own i y (zws y cc n r)) := fun w hw => by
  rcases List.mem_append.mp hw with e | e
  · simp only [List.mem_cons, List.not_mem_nil, or_false] at e
    rcases e with rfl | rfl | rfl
    · exact ⟨h1, zW_good _ h1⟩
    · exact ⟨h2, zW_good _ h2⟩
    · exact ⟨h4, zW_good _ h4⟩
  · exact zgoodC h w e
abbrev y_Ut_init : MethodName := ⟨"UnitThreads", "<init>", "(I)V"⟩
abbrev y_Ob_init : MethodName := ⟨"java/lang/Object", "<init>", "()V"⟩
abbrev y_Ma_min : MethodName := ⟨"java/lang/Math", "min", "(II)I"⟩
abbrev y_Ma_max : MethodName := ⟨"java/lang/Math", "max", "(II)I"⟩
abbrev y_Un_init : MethodName := ⟨"UnitThreads$Unit", "<init>", "()V"⟩
abbrev y_En_init : MethodName := ⟨"UnitThreads$Entries", "<init>", "()V"⟩
abbrev y_Or_init : MethodName := ⟨"UnitThreads$Order", "<init>", "(I)V"⟩
abbrev y_Tu_init : MethodName := ⟨"UnitThreads$Turns", "<init>", "(I)V"⟩
abbrev y_Bo_init : MethodName := ⟨"UnitThreads$Board", "<init>", "(I)V"⟩
abbrev y_Ar_fill : MethodName := ⟨"java/util/Arrays", "fill", "([II)V"⟩
abbrev y_Ut_step : MethodName := ⟨"UnitThreads", "step", "(IIIJ)Z"⟩
abbrev y_Ut_takesEntry : MethodName := ⟨"UnitThreads", "takesEntry", "(II)Z"⟩
abbrev y_Ut_isUnit : MethodName := ⟨"UnitThreads", "isUnit", "(I)Z"⟩
abbrev y_Ut_isOutputOf : MethodName := ⟨"UnitThreads", "isOutputOf", "(II)Z"⟩
abbrev y_Ut_tell : MethodName := ⟨"UnitThreads", "tell", "(IIIIJ)V"⟩
abbrev y_En_add : MethodName := ⟨"UnitThreads$Entries", "add", "(IIIIJ)V"⟩
abbrev y_Ut_asks : MethodName := ⟨"UnitThreads", "asks", "(III)Z"⟩
abbrev y_Ut_isWay : MethodName := ⟨"UnitThreads", "isWay", "(I)Z"⟩
abbrev y_En_find : MethodName := ⟨"UnitThreads$Entries", "find", "(IIII)I"⟩
abbrev y_Ut_throwsAt : MethodName := ⟨"UnitThreads", "throwsAt", "(II)Z"⟩
abbrev y_Ut_safe : MethodName := ⟨"UnitThreads", "safe", "(IJ)Z"⟩
abbrev y_Bo_hasOutput : MethodName := ⟨"UnitThreads$Board", "hasOutput", "(I)Z"⟩
abbrev y_Ut_bar : MethodName := ⟨"UnitThreads", "bar", "(II)Z"⟩
abbrev y_Ut_hasWay : MethodName := ⟨"UnitThreads", "hasWay", "(II)Z"⟩
abbrev y_Ut_play : MethodName := ⟨"UnitThreads", "play", "(JI)I"⟩
abbrev y_Ut_acting : MethodName := ⟨"UnitThreads", "acting", "()I"⟩
abbrev y_Ut_modeOf : MethodName := ⟨"UnitThreads", "modeOf", "(I)I"⟩
abbrev y_Un_hasEnded : MethodName := ⟨"UnitThreads$Unit", "hasEnded", "()Z"⟩
abbrev y_Ut_passSecond : MethodName := ⟨"UnitThreads", "passSecond", "()V"⟩
abbrev y_En_brief : MethodName := ⟨"UnitThreads$Entries", "brief", "([LUnitThreads$Unit;)V"⟩
abbrev y_Or_gather : MethodName := ⟨"UnitThreads$Order", "gather", "([LUnitThreads$Unit;)V"⟩
abbrev y_Un_acts : MethodName := ⟨"UnitThreads$Unit", "acts", "()Z"⟩
abbrev y_Or_draw : MethodName := ⟨"UnitThreads$Order", "draw", "()V"⟩
abbrev y_Or_moveForward : MethodName := ⟨"UnitThreads$Order", "moveForward", "(II)V"⟩
abbrev y_Ut_takeTurns : MethodName := ⟨"UnitThreads", "takeTurns", "()V"⟩
abbrev y_Ut_holdThrowers : MethodName := ⟨"UnitThreads", "holdThrowers", "(I)V"⟩
abbrev y_En_markThrown : MethodName := ⟨"UnitThreads$Entries", "markThrown", "(I)V"⟩
abbrev y_Bo_makeSafe : MethodName := ⟨"UnitThreads$Board", "makeSafe", "(I)V"⟩
abbrev y_Ut_grantWays : MethodName := ⟨"UnitThreads", "grantWays", "(I)V"⟩
abbrev y_Ut_leastAsker : MethodName := ⟨"UnitThreads", "leastAsker", "(I)I"⟩
abbrev y_Un_asked : MethodName := ⟨"UnitThreads$Unit", "asked", "()I"⟩
abbrev y_Ut_settle : MethodName := ⟨"UnitThreads", "settle", "()V"⟩
abbrev y_Bo_ownsAll : MethodName := ⟨"UnitThreads$Board", "ownsAll", "(II)Z"⟩
abbrev y_En_doSteps : MethodName := ⟨"UnitThreads$Entries", "doSteps", "([LUnitThreads$Unit;[J)V"⟩
abbrev y_Un_given : MethodName := ⟨"UnitThreads$Unit", "given", "()I"⟩
abbrev y_Bo_giveBack : MethodName := ⟨"UnitThreads$Board", "giveBack", "(II)V"⟩
abbrev y_Bo_keep : MethodName := ⟨"UnitThreads$Board", "keep", "()V"⟩
abbrev y_Sy_arraycopy : MethodName := ⟨"java/lang/System", "arraycopy", "(Ljava/lang/Object;ILjava/lang/Object;II)V"⟩
abbrev y_Tu_add : MethodName := ⟨"UnitThreads$Turns", "add", "(III)V"⟩
abbrev y_Ut_output : MethodName := ⟨"UnitThreads", "output", "(II)J"⟩
abbrev y_Bo_valueAt : MethodName := ⟨"UnitThreads$Board", "valueAt", "(II)J"⟩
abbrev y_Bo_wasDone : MethodName := ⟨"UnitThreads$Board", "wasDone", "(I)Z"⟩
abbrev y_Ut_owner : MethodName := ⟨"UnitThreads", "owner", "(II)I"⟩
abbrev y_Bo_ownerAt : MethodName := ⟨"UnitThreads$Board", "ownerAt", "(II)I"⟩
abbrev y_Ut_state : MethodName := ⟨"UnitThreads", "state", "(I)I"⟩
abbrev y_Ut_restart : MethodName := ⟨"UnitThreads", "restart", "(I)Z"⟩
abbrev y_Ut_held : MethodName := ⟨"UnitThreads", "held", "(I)I"⟩
abbrev y_Ut_log : MethodName := ⟨"UnitThreads", "log", "(II)I"⟩
abbrev y_Tu_look : MethodName := ⟨"UnitThreads$Turns", "look", "(II)I"⟩
abbrev y_Ut_count : MethodName := ⟨"UnitThreads", "count", "(I)I"⟩
abbrev y_Ut_close : MethodName := ⟨"UnitThreads", "close", "()I"⟩
abbrev y_Bo_shut : MethodName := ⟨"UnitThreads$Board", "shut", "()V"⟩
abbrev y_La_cell : MethodName := ⟨"UnitThreadsLaw", "cell", "([II)I"⟩
abbrev y_Mo_init : MethodName := ⟨"UnitThreadsModel", "<init>", "(I)V"⟩
abbrev y_Mo_step : MethodName := ⟨"UnitThreadsModel", "step", "(IIIJ)Z"⟩
abbrev y_Mo_isUnit : MethodName := ⟨"UnitThreadsModel", "isUnit", "(I)Z"⟩
abbrev y_Mo_isIn : MethodName := ⟨"UnitThreadsModel", "isIn", "(III)Z"⟩
abbrev y_Mo_isOpen : MethodName := ⟨"UnitThreadsModel", "isOpen", "(II)Z"⟩
abbrev y_Mo_add : MethodName := ⟨"UnitThreadsModel", "add", "(IIIIJ)Z"⟩
abbrev y_Mo_asks : MethodName := ⟨"UnitThreadsModel", "asks", "(III)Z"⟩
abbrev y_Mo_find : MethodName := ⟨"UnitThreadsModel", "find", "(IIII)I"⟩
abbrev y_Mo_throwsAt : MethodName := ⟨"UnitThreadsModel", "throwsAt", "(II)Z"⟩
abbrev y_Mo_safe : MethodName := ⟨"UnitThreadsModel", "safe", "(IJ)Z"⟩
abbrev y_Mo_bar : MethodName := ⟨"UnitThreadsModel", "bar", "(II)Z"⟩
abbrev y_Mo_play : MethodName := ⟨"UnitThreadsModel", "play", "(JI)I"⟩
abbrev y_Mo_going : MethodName := ⟨"UnitThreadsModel", "going", "()I"⟩
abbrev y_Mo_goes : MethodName := ⟨"UnitThreadsModel", "goes", "(I)Z"⟩
abbrev y_Mo_hasEnded : MethodName := ⟨"UnitThreadsModel", "hasEnded", "(I)Z"⟩
abbrev y_Mo_turnsOf : MethodName := ⟨"UnitThreadsModel", "turnsOf", "(J)J"⟩
abbrev y_Mo_takeTurn : MethodName := ⟨"UnitThreadsModel", "takeTurn", "(I)V"⟩
abbrev y_Mo_isNow : MethodName := ⟨"UnitThreadsModel", "isNow", "(III)Z"⟩
abbrev y_Mo_isGive : MethodName := ⟨"UnitThreadsModel", "isGive", "(I)Z"⟩
abbrev y_Mo_end : MethodName := ⟨"UnitThreadsModel", "end", "()V"⟩
abbrev y_Mo_tellEnd : MethodName := ⟨"UnitThreadsModel", "tellEnd", "(II)V"⟩
abbrev y_Mo_act : MethodName := ⟨"UnitThreadsModel", "act", "(I)V"⟩
abbrev y_Mo_ownsAll : MethodName := ⟨"UnitThreadsModel", "ownsAll", "(I)Z"⟩
abbrev y_Mo_output : MethodName := ⟨"UnitThreadsModel", "output", "(II)J"⟩
abbrev y_Mo_owner : MethodName := ⟨"UnitThreadsModel", "owner", "(II)I"⟩
abbrev y_Mo_state : MethodName := ⟨"UnitThreadsModel", "state", "(I)I"⟩
abbrev y_Mo_restart : MethodName := ⟨"UnitThreadsModel", "restart", "(I)Z"⟩
abbrev y_Mo_held : MethodName := ⟨"UnitThreadsModel", "held", "(I)I"⟩
abbrev y_Mo_log : MethodName := ⟨"UnitThreadsModel", "log", "(II)I"⟩
abbrev y_Mo_count : MethodName := ⟨"UnitThreadsModel", "count", "(I)I"⟩
abbrev y_Mo_close : MethodName := ⟨"UnitThreadsModel", "close", "()I"⟩
def T_Un : u_T := fun k => match k with
  | 0 => ("UnitThreads$Unit", "ownSecond", "I", false)
  | 1 => ("UnitThreads$Unit", "lastEntry", "I", false)
  | 2 => ("UnitThreads$Unit", "mode", "I", false)
  | 3 => ("UnitThreads$Unit", "heldIn", "I", false)
  | 4 => ("UnitThreads$Unit", "nextThrow", "I", false)
  | 5 => ("UnitThreads$Unit", "waysNow", "I", false)
  | 6 => ("UnitThreads$Unit", "oddBefore", "I", false)
  | _ => ("UnitThreads$Unit", "outcome", "I", false)
def ty_Un : Nat → FieldType := fun k => match k with
  | 0 => .int
  | 1 => .int
  | 2 => .int
  | 3 => .int
  | 4 => .int
  | 5 => .int
  | 6 => .int
  | _ => .int
theorem nm_Un : ∀ a, a < 8 → ∀ b, b < 8 → a ≠ b → (T_Un a).2.1 ≠ (T_Un b).2.1 := by decide +kernel
theorem tyok_Un : ∀ k, k < 8 → parseFieldDescriptor (T_Un k).2.2.1 = some (ty_Un k) := by decide +kernel
def T_En : u_T := fun k => match k with
  | 0 => ("UnitThreads$Entries", "kinds", "[I", true)
  | 1 => ("UnitThreads$Entries", "units", "[I", true)
  | 2 => ("UnitThreads$Entries", "seconds", "[I", true)
  | 3 => ("UnitThreads$Entries", "targets", "[I", true)
  | 4 => ("UnitThreads$Entries", "values", "[J", true)
  | _ => ("UnitThreads$Entries", "size", "I", false)
def ty_En : Nat → FieldType := fun k => match k with
  | 0 => .array .int
  | 1 => .array .int
  | 2 => .array .int
  | 3 => .array .int
  | 4 => .array .long
  | _ => .int
theorem nm_En : ∀ a, a < 6 → ∀ b, b < 6 → a ≠ b → (T_En a).2.1 ≠ (T_En b).2.1 := by decide +kernel
theorem tyok_En : ∀ k, k < 6 → parseFieldDescriptor (T_En k).2.2.1 = some (ty_En k) := by decide +kernel
def T_Or : u_T := fun k => match k with
  | 0 => ("UnitThreads$Order", "units", "[I", true)
  | 1 => ("UnitThreads$Order", "size", "I", false)
  | _ => ("UnitThreads$Order", "g", "J", false)
def ty_Or : Nat → FieldType := fun k => match k with
  | 0 => .array .int
  | 1 => .int
  | _ => .long
theorem nm_Or : ∀ a, a < 3 → ∀ b, b < 3 → a ≠ b → (T_Or a).2.1 ≠ (T_Or b).2.1 := by decide +kernel
theorem tyok_Or : ∀ k, k < 3 → parseFieldDescriptor (T_Or k).2.2.1 = some (ty_Or k) := by decide +kernel
def T_Tu : u_T := fun k => match k with
  | 0 => ("UnitThreads$Turns", "seconds", "[I", true)
  | 1 => ("UnitThreads$Turns", "units", "[I", true)
  | 2 => ("UnitThreads$Turns", "outcomes", "[I", true)
  | _ => ("UnitThreads$Turns", "size", "I", false)
def ty_Tu : Nat → FieldType := fun k => match k with
  | 0 => .array .int
  | 1 => .array .int
  | 2 => .array .int
  | _ => .int
theorem nm_Tu : ∀ a, a < 4 → ∀ b, b < 4 → a ≠ b → (T_Tu a).2.1 ≠ (T_Tu b).2.1 := by decide +kernel
theorem tyok_Tu : ∀ k, k < 4 → parseFieldDescriptor (T_Tu k).2.2.1 = some (ty_Tu k) := by decide +kernel
def T_Bo : u_T := fun k => match k with
  | 0 => ("UnitThreads$Board", "values", "[J", true)
  | 1 => ("UnitThreads$Board", "safeValues", "[J", true)
  | 2 => ("UnitThreads$Board", "owners", "[I", true)
  | 3 => ("UnitThreads$Board", "pastValues", "[J", true)
  | 4 => ("UnitThreads$Board", "pastOwners", "[I", true)
  | _ => ("UnitThreads$Board", "seconds", "I", false)
def ty_Bo : Nat → FieldType := fun k => match k with
  | 0 => .array .long
  | 1 => .array .long
  | 2 => .array .int
  | 3 => .array .long
  | 4 => .array .int
  | _ => .int
theorem nm_Bo : ∀ a, a < 6 → ∀ b, b < 6 → a ≠ b → (T_Bo a).2.1 ≠ (T_Bo b).2.1 := by decide +kernel
theorem tyok_Bo : ∀ k, k < 6 → parseFieldDescriptor (T_Bo k).2.2.1 = some (ty_Bo k) := by decide +kernel
def T_Ut : u_T := fun k => match k with
  | 0 => ("UnitThreads", "crew", "[LUnitThreads$Unit;", true)
  | 1 => ("UnitThreads", "entries", "LUnitThreads$Entries;", true)
  | 2 => ("UnitThreads", "order", "LUnitThreads$Order;", true)
  | 3 => ("UnitThreads", "turns", "LUnitThreads$Turns;", true)
  | 4 => ("UnitThreads", "board", "LUnitThreads$Board;", true)
  | 5 => ("UnitThreads", "barred", "[I", true)
  | _ => ("UnitThreads", "closed", "Z", false)
def ty_Ut : Nat → FieldType := fun k => match k with
  | 0 => .array (.object "UnitThreads$Unit")
  | 1 => .object "UnitThreads$Entries"
  | 2 => .object "UnitThreads$Order"
  | 3 => .object "UnitThreads$Turns"
  | 4 => .object "UnitThreads$Board"
  | 5 => .array .int
  | _ => .boolean
theorem nm_Ut : ∀ a, a < 7 → ∀ b, b < 7 → a ≠ b → (T_Ut a).2.1 ≠ (T_Ut b).2.1 := by decide +kernel
theorem tyok_Ut : ∀ k, k < 7 → parseFieldDescriptor (T_Ut k).2.2.1 = some (ty_Ut k) := by decide +kernel
def T_Mo : u_T := fun k => match k with
  | 0 => ("UnitThreadsModel", "units", "I", true)
  | 1 => ("UnitThreadsModel", "isClosed", "Z", false)
  | 2 => ("UnitThreadsModel", "done", "I", false)
  | 3 => ("UnitThreadsModel", "outputs", "[J", true)
  | 4 => ("UnitThreadsModel", "safes", "[J", true)
  | 5 => ("UnitThreadsModel", "owners", "[I", true)
  | 6 => ("UnitThreadsModel", "outputsAt", "[J", true)
  | 7 => ("UnitThreadsModel", "ownersAt", "[I", true)
  | 8 => ("UnitThreadsModel", "bars", "[Z", true)
  | 9 => ("UnitThreadsModel", "kinds", "[I", true)
  | 10 => ("UnitThreadsModel", "whose", "[I", true)
  | 11 => ("UnitThreadsModel", "seconds", "[I", true)
  | 12 => ("UnitThreadsModel", "what", "[I", true)
  | 13 => ("UnitThreadsModel", "values", "[J", true)
  | 14 => ("UnitThreadsModel", "entries", "I", false)
  | 15 => ("UnitThreadsModel", "own", "[I", true)
  | 16 => ("UnitThreadsModel", "waits", "[Z", true)
  | 17 => ("UnitThreadsModel", "heldAt", "[I", true)
  | 18 => ("UnitThreadsModel", "turnSeconds", "[I", true)
  | 19 => ("UnitThreadsModel", "turnUnits", "[I", true)
  | 20 => ("UnitThreadsModel", "turnEnds", "[I", true)
  | 21 => ("UnitThreadsModel", "turns", "I", false)
  | 22 => ("UnitThreadsModel", "takes", "[Z", true)
  | 23 => ("UnitThreadsModel", "left", "[Z", true)
  | 24 => ("UnitThreadsModel", "throwing", "[Z", true)
  | _ => ("UnitThreadsModel", "asked", "[Z", true)
def ty_Mo : Nat → FieldType := fun k => match k with
  | 0 => .int
  | 1 => .boolean
  | 2 => .int
  | 3 => .array .long
  | 4 => .array .long
  | 5 => .array .int
  | 6 => .array .long
  | 7 => .array .int
  | 8 => .array .boolean
  | 9 => .array .int
  | 10 => .array .int
  | 11 => .array .int
  | 12 => .array .int
  | 13 => .array .long
  | 14 => .int
  | 15 => .array .int
  | 16 => .array .boolean
  | 17 => .array .int
  | 18 => .array .int
  | 19 => .array .int
  | 20 => .array .int
  | 21 => .int
  | 22 => .array .boolean
  | 23 => .array .boolean
  | 24 => .array .boolean
  | _ => .array .boolean
theorem nm_Mo : ∀ a, a < 26 → ∀ b, b < 26 → a ≠ b → (T_Mo a).2.1 ≠ (T_Mo b).2.1 := by decide +kernel
theorem tyok_Mo : ∀ k, k < 26 → parseFieldDescriptor (T_Mo k).2.2.1 = some (ty_Mo k) := by decide +kernel
abbrev vwCl : List vw_C := [("UnitThreads$Unit", T_Un, 8), ("UnitThreads$Entries", T_En, 6), ("UnitThreads$Order", T_Or, 3), ("UnitThreads$Turns", T_Tu, 4), ("UnitThreads$Board", T_Bo, 6), ("UnitThreads", T_Ut, 7), ("UnitThreadsModel", T_Mo, 26)]
end
section
theorem w_0 : Cond.initialized "UnitThreadsLaw" ∈ zW := zW_of 0 rfl rfl
theorem w_1 : Cond.initialized "UnitThreads" ∈ zW := zW_of 1 rfl rfl
theorem w_2 : Cond.initialized "java/lang/Math" ∈ zW := zW_of 2 rfl rfl
theorem w_3 : Cond.initialized "UnitThreads$Unit" ∈ zW := zW_of 3 rfl rfl
theorem w_4 : Cond.initialized "UnitThreads$Entries" ∈ zW := zW_of 4 rfl rfl
theorem w_5 : Cond.initialized "UnitThreads$Order" ∈ zW := zW_of 5 rfl rfl
theorem w_6 : Cond.initialized "UnitThreads$Turns" ∈ zW := zW_of 6 rfl rfl
theorem w_7 : Cond.initialized "UnitThreads$Board" ∈ zW := zW_of 7 rfl rfl
theorem w_8 : Cond.initialized "java/util/Arrays" ∈ zW := zW_of 8 rfl rfl
theorem w_9 : Cond.initialized "UnitThreadsModel" ∈ zW := zW_of 9 rfl rfl
theorem w_10 : Cond.initialized "java/lang/System" ∈ zW := zW_of 10 rfl rfl
theorem w_11 : Cond.classLink "UnitThreadsLaw" 7 "UnitThreads" ∈ zW := zW_of 11 rfl rfl
theorem w_12 : Cond.instantiable "UnitThreads" 7 ∈ zW := zW_of 12 rfl rfl
theorem w_13 : Cond.methodLink "UnitThreadsLaw" 15 y_Ut_init ∈ zW := zW_of 13 rfl rfl
theorem w_14 : Cond.instanceMethod y_Ut_init ∈ zW := zW_of 14 rfl rfl
theorem w_15 : Cond.code y_Ut_init prog_1_method_1_code 4 none ∈ zW := zW_of 15 rfl rfl
theorem w_16 : Cond.methodLink "UnitThreads" 1 y_Ob_init ∈ zW := zW_of 16 rfl rfl
theorem w_17 : Cond.instanceMethod y_Ob_init ∈ zW := zW_of 17 rfl rfl
theorem w_18 : Cond.code y_Ob_init object_method_1_code 1 none ∈ zW := zW_of 18 rfl rfl
theorem w_19 : Cond.methodLink "UnitThreads" 9 y_Ma_min ∈ zW := zW_of 19 rfl rfl
theorem w_20 : Cond.static y_Ma_min ∈ zW := zW_of 20 rfl rfl
theorem w_21 : Cond.code y_Ma_min prog_9_method_69_code 2 (some .int) ∈ zW := zW_of 21 rfl rfl
theorem w_22 : Cond.methodLink "UnitThreads" 15 y_Ma_max ∈ zW := zW_of 22 rfl rfl
theorem w_23 : Cond.static y_Ma_max ∈ zW := zW_of 23 rfl rfl
theorem w_24 : Cond.code y_Ma_max prog_9_method_65_code 2 (some .int) ∈ zW := zW_of 24 rfl rfl
theorem w_25 : Cond.classLink "UnitThreads" 18 "UnitThreads$Unit" ∈ zW := zW_of 25 rfl rfl
theorem w_27 : Cond.instantiable "UnitThreads$Unit" 8 ∈ zW := zW_of 27 rfl rfl
theorem w_29 : Cond.instanceMethod y_Un_init ∈ zW := zW_of 29 rfl rfl
theorem w_30 : Cond.code y_Un_init prog_6_method_1_code 1 none ∈ zW := zW_of 30 rfl rfl
theorem w_31 : Cond.methodLink "UnitThreads$Unit" 3 y_Ob_init ∈ zW := zW_of 31 rfl rfl
theorem w_32 : Cond.fieldLink "UnitThreads$Unit" 9 "UnitThreads$Unit" "ownSecond" "I" ∈ zW := zW_of 32 rfl rfl
theorem w_33 : Cond.fieldLink "UnitThreads$Entries" 43 "UnitThreads$Unit" "ownSecond" "I" ∈ zW := zW_of 33 rfl rfl
theorem w_34 : Cond.fieldLink "UnitThreads" 134 "UnitThreads$Unit" "ownSecond" "I" ∈ zW := zW_of 34 rfl rfl
theorem w_35 : Cond.fieldLink "UnitThreads$Unit" 15 "UnitThreads$Unit" "lastEntry" "I" ∈ zW := zW_of 35 rfl rfl
theorem w_36 : Cond.fieldLink "UnitThreads" 143 "UnitThreads$Unit" "lastEntry" "I" ∈ zW := zW_of 36 rfl rfl
theorem w_37 : Cond.fieldLink "UnitThreads$Unit" 18 "UnitThreads$Unit" "mode" "I" ∈ zW := zW_of 37 rfl rfl
theorem w_38 : Cond.fieldLink "UnitThreads" 121 "UnitThreads$Unit" "mode" "I" ∈ zW := zW_of 38 rfl rfl
theorem w_39 : Cond.fieldLink "UnitThreads$Unit" 21 "UnitThreads$Unit" "heldIn" "I" ∈ zW := zW_of 39 rfl rfl
theorem w_40 : Cond.fieldLink "UnitThreads" 124 "UnitThreads$Unit" "heldIn" "I" ∈ zW := zW_of 40 rfl rfl
theorem w_41 : Cond.fieldLink "UnitThreads$Unit" 24 "UnitThreads$Unit" "nextThrow" "I" ∈ zW := zW_of 41 rfl rfl
theorem w_42 : Cond.fieldLink "UnitThreads$Entries" 32 "UnitThreads$Unit" "nextThrow" "I" ∈ zW := zW_of 42 rfl rfl
theorem w_43 : Cond.fieldLink "UnitThreads" 185 "UnitThreads$Unit" "nextThrow" "I" ∈ zW := zW_of 43 rfl rfl
theorem w_44 : Cond.fieldLink "UnitThreads$Unit" 27 "UnitThreads$Unit" "waysNow" "I" ∈ zW := zW_of 44 rfl rfl
theorem w_45 : Cond.fieldLink "UnitThreads$Entries" 37 "UnitThreads$Unit" "waysNow" "I" ∈ zW := zW_of 45 rfl rfl
theorem w_46 : Cond.fieldLink "UnitThreads$Unit" 30 "UnitThreads$Unit" "oddBefore" "I" ∈ zW := zW_of 46 rfl rfl
theorem w_47 : Cond.fieldLink "UnitThreads$Entries" 40 "UnitThreads$Unit" "oddBefore" "I" ∈ zW := zW_of 47 rfl rfl
theorem w_48 : Cond.fieldLink "UnitThreads$Unit" 33 "UnitThreads$Unit" "outcome" "I" ∈ zW := zW_of 48 rfl rfl
theorem w_49 : Cond.fieldLink "UnitThreads$Entries" 46 "UnitThreads$Unit" "outcome" "I" ∈ zW := zW_of 49 rfl rfl
theorem w_50 : Cond.fieldLink "UnitThreads" 179 "UnitThreads$Unit" "outcome" "I" ∈ zW := zW_of 50 rfl rfl
theorem w_51 : Cond.lays "UnitThreads$Unit" "UnitThreads$Unit" "ownSecond" "I" ∈ zW := zW_of 51 rfl rfl
theorem w_53 : Cond.lays "UnitThreads$Unit" "UnitThreads$Unit" "lastEntry" "I" ∈ zW := zW_of 53 rfl rfl
theorem w_55 : Cond.lays "UnitThreads$Unit" "UnitThreads$Unit" "mode" "I" ∈ zW := zW_of 55 rfl rfl
theorem w_57 : Cond.lays "UnitThreads$Unit" "UnitThreads$Unit" "heldIn" "I" ∈ zW := zW_of 57 rfl rfl
theorem w_59 : Cond.lays "UnitThreads$Unit" "UnitThreads$Unit" "nextThrow" "I" ∈ zW := zW_of 59 rfl rfl
theorem w_61 : Cond.lays "UnitThreads$Unit" "UnitThreads$Unit" "waysNow" "I" ∈ zW := zW_of 61 rfl rfl
theorem w_63 : Cond.lays "UnitThreads$Unit" "UnitThreads$Unit" "oddBefore" "I" ∈ zW := zW_of 63 rfl rfl
theorem w_65 : Cond.lays "UnitThreads$Unit" "UnitThreads$Unit" "outcome" "I" ∈ zW := zW_of 65 rfl rfl
theorem w_68 : Cond.classLink "UnitThreads" 25 "UnitThreads$Entries" ∈ zW := zW_of 68 rfl rfl
theorem w_69 : Cond.instantiable "UnitThreads$Entries" 6 ∈ zW := zW_of 69 rfl rfl
theorem w_71 : Cond.instanceMethod y_En_init ∈ zW := zW_of 71 rfl rfl
theorem w_72 : Cond.code y_En_init prog_3_method_1_code 1 none ∈ zW := zW_of 72 rfl rfl
theorem w_73 : Cond.methodLink "UnitThreads$Entries" 3 y_Ob_init ∈ zW := zW_of 73 rfl rfl
theorem w_74 : Cond.fieldLink "UnitThreads$Entries" 9 "UnitThreads$Entries" "kinds" "[I" ∈ zW := zW_of 74 rfl rfl
theorem w_75 : Cond.fieldLink "UnitThreads$Entries" 15 "UnitThreads$Entries" "units" "[I" ∈ zW := zW_of 75 rfl rfl
theorem w_76 : Cond.fieldLink "UnitThreads$Entries" 18 "UnitThreads$Entries" "seconds" "[I" ∈ zW := zW_of 76 rfl rfl
theorem w_77 : Cond.fieldLink "UnitThreads$Entries" 21 "UnitThreads$Entries" "targets" "[I" ∈ zW := zW_of 77 rfl rfl
theorem w_78 : Cond.fieldLink "UnitThreads$Entries" 24 "UnitThreads$Entries" "values" "[J" ∈ zW := zW_of 78 rfl rfl
theorem w_79 : Cond.fieldLink "UnitThreads$Entries" 28 "UnitThreads$Entries" "size" "I" ∈ zW := zW_of 79 rfl rfl
theorem w_80 : Cond.fieldLink "UnitThreads" 133 "UnitThreads$Entries" "size" "I" ∈ zW := zW_of 80 rfl rfl
theorem w_81 : Cond.laysFinal "UnitThreads$Entries" "UnitThreads$Entries" "kinds" "[I" ∈ zW := zW_of 81 rfl rfl
theorem w_83 : Cond.laysFinal "UnitThreads$Entries" "UnitThreads$Entries" "units" "[I" ∈ zW := zW_of 83 rfl rfl
theorem w_85 : Cond.laysFinal "UnitThreads$Entries" "UnitThreads$Entries" "seconds" "[I" ∈ zW := zW_of 85 rfl rfl
theorem w_87 : Cond.laysFinal "UnitThreads$Entries" "UnitThreads$Entries" "targets" "[I" ∈ zW := zW_of 87 rfl rfl
theorem w_89 : Cond.laysFinal "UnitThreads$Entries" "UnitThreads$Entries" "values" "[J" ∈ zW := zW_of 89 rfl rfl
theorem w_91 : Cond.lays "UnitThreads$Entries" "UnitThreads$Entries" "size" "I" ∈ zW := zW_of 91 rfl rfl
theorem w_94 : Cond.arrayClass FieldType.int ∈ zW := zW_of 94 rfl rfl
theorem w_95 : Cond.arrayClass FieldType.long ∈ zW := zW_of 95 rfl rfl
theorem w_96 : Cond.classLink "UnitThreads" 32 "UnitThreads$Order" ∈ zW := zW_of 96 rfl rfl
theorem w_97 : Cond.instantiable "UnitThreads$Order" 3 ∈ zW := zW_of 97 rfl rfl
theorem w_98 : Cond.methodLink "UnitThreads" 34 y_Or_init ∈ zW := zW_of 98 rfl rfl
theorem w_99 : Cond.instanceMethod y_Or_init ∈ zW := zW_of 99 rfl rfl
theorem w_100 : Cond.code y_Or_init prog_4_method_1_code 2 none ∈ zW := zW_of 100 rfl rfl
theorem w_101 : Cond.methodLink "UnitThreads$Order" 1 y_Ob_init ∈ zW := zW_of 101 rfl rfl
theorem w_102 : Cond.fieldLink "UnitThreads$Order" 17 "UnitThreads$Order" "units" "[I" ∈ zW := zW_of 102 rfl rfl
theorem w_103 : Cond.fieldLink "UnitThreads" 176 "UnitThreads$Order" "units" "[I" ∈ zW := zW_of 103 rfl rfl
theorem w_104 : Cond.fieldLink "UnitThreads$Order" 7 "UnitThreads$Order" "size" "I" ∈ zW := zW_of 104 rfl rfl
theorem w_105 : Cond.fieldLink "UnitThreads" 175 "UnitThreads$Order" "size" "I" ∈ zW := zW_of 105 rfl rfl
theorem w_106 : Cond.fieldLink "UnitThreads$Order" 13 "UnitThreads$Order" "g" "J" ∈ zW := zW_of 106 rfl rfl
theorem w_107 : Cond.fieldLink "UnitThreads" 96 "UnitThreads$Order" "g" "J" ∈ zW := zW_of 107 rfl rfl
theorem w_108 : Cond.laysFinal "UnitThreads$Order" "UnitThreads$Order" "units" "[I" ∈ zW := zW_of 108 rfl rfl
theorem w_110 : Cond.lays "UnitThreads$Order" "UnitThreads$Order" "size" "I" ∈ zW := zW_of 110 rfl rfl
theorem w_112 : Cond.lays "UnitThreads$Order" "UnitThreads$Order" "g" "J" ∈ zW := zW_of 112 rfl rfl
theorem w_115 : Cond.classLink "UnitThreads" 41 "UnitThreads$Turns" ∈ zW := zW_of 115 rfl rfl
theorem w_116 : Cond.instantiable "UnitThreads$Turns" 4 ∈ zW := zW_of 116 rfl rfl
theorem w_117 : Cond.methodLink "UnitThreads" 43 y_Tu_init ∈ zW := zW_of 117 rfl rfl
theorem w_118 : Cond.instanceMethod y_Tu_init ∈ zW := zW_of 118 rfl rfl
theorem w_119 : Cond.code y_Tu_init prog_5_method_1_code 3 none ∈ zW := zW_of 119 rfl rfl
theorem w_120 : Cond.methodLink "UnitThreads$Turns" 3 y_Ob_init ∈ zW := zW_of 120 rfl rfl
theorem w_121 : Cond.fieldLink "UnitThreads$Turns" 15 "UnitThreads$Turns" "seconds" "[I" ∈ zW := zW_of 121 rfl rfl
theorem w_122 : Cond.fieldLink "UnitThreads$Turns" 19 "UnitThreads$Turns" "units" "[I" ∈ zW := zW_of 122 rfl rfl
theorem w_123 : Cond.fieldLink "UnitThreads$Turns" 22 "UnitThreads$Turns" "outcomes" "[I" ∈ zW := zW_of 123 rfl rfl
theorem w_124 : Cond.fieldLink "UnitThreads$Turns" 9 "UnitThreads$Turns" "size" "I" ∈ zW := zW_of 124 rfl rfl
theorem w_125 : Cond.fieldLink "UnitThreads" 130 "UnitThreads$Turns" "size" "I" ∈ zW := zW_of 125 rfl rfl
theorem w_126 : Cond.laysFinal "UnitThreads$Turns" "UnitThreads$Turns" "seconds" "[I" ∈ zW := zW_of 126 rfl rfl
theorem w_128 : Cond.laysFinal "UnitThreads$Turns" "UnitThreads$Turns" "units" "[I" ∈ zW := zW_of 128 rfl rfl
theorem w_130 : Cond.laysFinal "UnitThreads$Turns" "UnitThreads$Turns" "outcomes" "[I" ∈ zW := zW_of 130 rfl rfl
theorem w_132 : Cond.lays "UnitThreads$Turns" "UnitThreads$Turns" "size" "I" ∈ zW := zW_of 132 rfl rfl
theorem w_135 : Cond.classLink "UnitThreads" 48 "UnitThreads$Board" ∈ zW := zW_of 135 rfl rfl
theorem w_136 : Cond.instantiable "UnitThreads$Board" 6 ∈ zW := zW_of 136 rfl rfl
theorem w_137 : Cond.methodLink "UnitThreads" 50 y_Bo_init ∈ zW := zW_of 137 rfl rfl
theorem w_138 : Cond.instanceMethod y_Bo_init ∈ zW := zW_of 138 rfl rfl
theorem w_139 : Cond.code y_Bo_init prog_2_method_1_code 3 none ∈ zW := zW_of 139 rfl rfl
theorem w_140 : Cond.methodLink "UnitThreads$Board" 3 y_Ob_init ∈ zW := zW_of 140 rfl rfl
theorem w_141 : Cond.methodLink "UnitThreads$Board" 32 y_Ar_fill ∈ zW := zW_of 141 rfl rfl
theorem w_142 : Cond.static y_Ar_fill ∈ zW := zW_of 142 rfl rfl
theorem w_143 : Cond.code y_Ar_fill prog_11_method_103_code 4 none ∈ zW := zW_of 143 rfl rfl
theorem w_144 : Cond.fieldLink "UnitThreads$Board" 22 "UnitThreads$Board" "values" "[J" ∈ zW := zW_of 144 rfl rfl
theorem w_145 : Cond.fieldLink "UnitThreads" 206 "UnitThreads$Board" "values" "[J" ∈ zW := zW_of 145 rfl rfl
theorem w_146 : Cond.fieldLink "UnitThreads$Board" 26 "UnitThreads$Board" "safeValues" "[J" ∈ zW := zW_of 146 rfl rfl
theorem w_147 : Cond.fieldLink "UnitThreads" 85 "UnitThreads$Board" "safeValues" "[J" ∈ zW := zW_of 147 rfl rfl
theorem w_148 : Cond.fieldLink "UnitThreads$Board" 9 "UnitThreads$Board" "owners" "[I" ∈ zW := zW_of 148 rfl rfl
theorem w_149 : Cond.fieldLink "UnitThreads" 194 "UnitThreads$Board" "owners" "[I" ∈ zW := zW_of 149 rfl rfl
theorem w_150 : Cond.fieldLink "UnitThreads$Board" 29 "UnitThreads$Board" "pastValues" "[J" ∈ zW := zW_of 150 rfl rfl
theorem w_151 : Cond.fieldLink "UnitThreads$Board" 15 "UnitThreads$Board" "pastOwners" "[I" ∈ zW := zW_of 151 rfl rfl
theorem w_152 : Cond.fieldLink "UnitThreads$Board" 18 "UnitThreads$Board" "seconds" "I" ∈ zW := zW_of 152 rfl rfl
theorem w_153 : Cond.fieldLink "UnitThreads" 89 "UnitThreads$Board" "seconds" "I" ∈ zW := zW_of 153 rfl rfl
theorem w_154 : Cond.laysFinal "UnitThreads$Board" "UnitThreads$Board" "values" "[J" ∈ zW := zW_of 154 rfl rfl
theorem w_156 : Cond.laysFinal "UnitThreads$Board" "UnitThreads$Board" "safeValues" "[J" ∈ zW := zW_of 156 rfl rfl
theorem w_158 : Cond.laysFinal "UnitThreads$Board" "UnitThreads$Board" "owners" "[I" ∈ zW := zW_of 158 rfl rfl
theorem w_160 : Cond.laysFinal "UnitThreads$Board" "UnitThreads$Board" "pastValues" "[J" ∈ zW := zW_of 160 rfl rfl
theorem w_162 : Cond.laysFinal "UnitThreads$Board" "UnitThreads$Board" "pastOwners" "[I" ∈ zW := zW_of 162 rfl rfl
theorem w_164 : Cond.lays "UnitThreads$Board" "UnitThreads$Board" "seconds" "I" ∈ zW := zW_of 164 rfl rfl
theorem w_167 : Cond.fieldLink "UnitThreads" 20 "UnitThreads" "crew" "[LUnitThreads$Unit;" ∈ zW := zW_of 167 rfl rfl
theorem w_168 : Cond.fieldLink "UnitThreads" 28 "UnitThreads" "entries" "LUnitThreads$Entries;" ∈ zW := zW_of 168 rfl rfl
theorem w_169 : Cond.fieldLink "UnitThreads" 37 "UnitThreads" "order" "LUnitThreads$Order;" ∈ zW := zW_of 169 rfl rfl
theorem w_170 : Cond.fieldLink "UnitThreads" 44 "UnitThreads" "turns" "LUnitThreads$Turns;" ∈ zW := zW_of 170 rfl rfl
theorem w_171 : Cond.fieldLink "UnitThreads" 51 "UnitThreads" "board" "LUnitThreads$Board;" ∈ zW := zW_of 171 rfl rfl
theorem w_172 : Cond.fieldLink "UnitThreads" 55 "UnitThreads" "barred" "[I" ∈ zW := zW_of 172 rfl rfl
theorem w_173 : Cond.fieldLink "UnitThreads" 59 "UnitThreads" "closed" "Z" ∈ zW := zW_of 173 rfl rfl
theorem w_174 : Cond.laysFinal "UnitThreads" "UnitThreads" "crew" "[LUnitThreads$Unit;" ∈ zW := zW_of 174 rfl rfl
theorem w_176 : Cond.laysFinal "UnitThreads" "UnitThreads" "entries" "LUnitThreads$Entries;" ∈ zW := zW_of 176 rfl rfl
theorem w_178 : Cond.laysFinal "UnitThreads" "UnitThreads" "order" "LUnitThreads$Order;" ∈ zW := zW_of 178 rfl rfl
theorem w_180 : Cond.laysFinal "UnitThreads" "UnitThreads" "turns" "LUnitThreads$Turns;" ∈ zW := zW_of 180 rfl rfl
theorem w_182 : Cond.laysFinal "UnitThreads" "UnitThreads" "board" "LUnitThreads$Board;" ∈ zW := zW_of 182 rfl rfl
theorem w_184 : Cond.laysFinal "UnitThreads" "UnitThreads" "barred" "[I" ∈ zW := zW_of 184 rfl rfl
theorem w_186 : Cond.lays "UnitThreads" "UnitThreads" "closed" "Z" ∈ zW := zW_of 186 rfl rfl
theorem w_189 : Cond.methodLink "UnitThreadsLaw" 23 y_Ut_step ∈ zW := zW_of 189 rfl rfl
theorem w_190 : Cond.instanceMethod y_Ut_step ∈ zW := zW_of 190 rfl rfl
theorem w_191 : Cond.selects "UnitThreads" y_Ut_step y_Ut_step ∈ zW := zW_of 191 rfl rfl
theorem w_192 : Cond.code y_Ut_step prog_1_method_2_code 6 (some .boolean) ∈ zW := zW_of 192 rfl rfl
theorem w_193 : Cond.methodLink "UnitThreads" 63 y_Ut_takesEntry ∈ zW := zW_of 193 rfl rfl
theorem w_195 : Cond.instanceMethod y_Ut_takesEntry ∈ zW := zW_of 195 rfl rfl
theorem w_196 : Cond.code y_Ut_takesEntry prog_1_method_20_code 3 (some .boolean) ∈ zW := zW_of 196 rfl rfl
theorem w_197 : Cond.methodLink "UnitThreads" 114 y_Ut_isUnit ∈ zW := zW_of 197 rfl rfl
theorem w_199 : Cond.instanceMethod y_Ut_isUnit ∈ zW := zW_of 199 rfl rfl
theorem w_200 : Cond.code y_Ut_isUnit prog_1_method_16_code 2 (some .boolean) ∈ zW := zW_of 200 rfl rfl
theorem w_201 : Cond.methodLink "UnitThreads" 67 y_Ut_isOutputOf ∈ zW := zW_of 201 rfl rfl
theorem w_202 : Cond.static y_Ut_isOutputOf ∈ zW := zW_of 202 rfl rfl
theorem w_203 : Cond.code y_Ut_isOutputOf prog_1_method_18_code 2 (some .boolean) ∈ zW := zW_of 203 rfl rfl
theorem w_204 : Cond.methodLink "UnitThreads" 70 y_Ut_tell ∈ zW := zW_of 204 rfl rfl
theorem w_206 : Cond.instanceMethod y_Ut_tell ∈ zW := zW_of 206 rfl rfl
theorem w_207 : Cond.code y_Ut_tell prog_1_method_21_code 7 none ∈ zW := zW_of 207 rfl rfl
theorem w_208 : Cond.methodLink "UnitThreads" 140 y_En_add ∈ zW := zW_of 208 rfl rfl
theorem w_209 : Cond.instanceMethod y_En_add ∈ zW := zW_of 209 rfl rfl
theorem w_210 : Cond.selects "UnitThreads$Entries" y_En_add y_En_add ∈ zW := zW_of 210 rfl rfl
theorem w_211 : Cond.code y_En_add prog_3_method_2_code 7 none ∈ zW := zW_of 211 rfl rfl
theorem w_212 : Cond.methodLink "UnitThreadsLaw" 28 y_Ut_asks ∈ zW := zW_of 212 rfl rfl
theorem w_213 : Cond.instanceMethod y_Ut_asks ∈ zW := zW_of 213 rfl rfl
theorem w_214 : Cond.selects "UnitThreads" y_Ut_asks y_Ut_asks ∈ zW := zW_of 214 rfl rfl
theorem w_215 : Cond.code y_Ut_asks prog_1_method_3_code 4 (some .boolean) ∈ zW := zW_of 215 rfl rfl
theorem w_216 : Cond.methodLink "UnitThreads" 74 y_Ut_isWay ∈ zW := zW_of 216 rfl rfl
theorem w_217 : Cond.static y_Ut_isWay ∈ zW := zW_of 217 rfl rfl
theorem w_218 : Cond.code y_Ut_isWay prog_1_method_17_code 1 (some .boolean) ∈ zW := zW_of 218 rfl rfl
theorem w_219 : Cond.methodLink "UnitThreads" 78 y_En_find ∈ zW := zW_of 219 rfl rfl
theorem w_220 : Cond.instanceMethod y_En_find ∈ zW := zW_of 220 rfl rfl
theorem w_221 : Cond.selects "UnitThreads$Entries" y_En_find y_En_find ∈ zW := zW_of 221 rfl rfl
theorem w_222 : Cond.code y_En_find prog_3_method_3_code 6 (some .int) ∈ zW := zW_of 222 rfl rfl
theorem w_223 : Cond.methodLink "UnitThreadsLaw" 33 y_Ut_throwsAt ∈ zW := zW_of 223 rfl rfl
theorem w_224 : Cond.instanceMethod y_Ut_throwsAt ∈ zW := zW_of 224 rfl rfl
theorem w_225 : Cond.selects "UnitThreads" y_Ut_throwsAt y_Ut_throwsAt ∈ zW := zW_of 225 rfl rfl
theorem w_226 : Cond.code y_Ut_throwsAt prog_1_method_4_code 3 (some .boolean) ∈ zW := zW_of 226 rfl rfl
theorem w_227 : Cond.methodLink "UnitThreadsLaw" 38 y_Ut_safe ∈ zW := zW_of 227 rfl rfl
theorem w_228 : Cond.instanceMethod y_Ut_safe ∈ zW := zW_of 228 rfl rfl
theorem w_229 : Cond.selects "UnitThreads" y_Ut_safe y_Ut_safe ∈ zW := zW_of 229 rfl rfl
theorem w_230 : Cond.code y_Ut_safe prog_1_method_5_code 4 (some .boolean) ∈ zW := zW_of 230 rfl rfl
theorem w_231 : Cond.methodLink "UnitThreads" 82 y_Bo_hasOutput ∈ zW := zW_of 231 rfl rfl
theorem w_232 : Cond.instanceMethod y_Bo_hasOutput ∈ zW := zW_of 232 rfl rfl
theorem w_233 : Cond.selects "UnitThreads$Board" y_Bo_hasOutput y_Bo_hasOutput ∈ zW := zW_of 233 rfl rfl
theorem w_234 : Cond.code y_Bo_hasOutput prog_2_method_2_code 2 (some .boolean) ∈ zW := zW_of 234 rfl rfl
theorem w_235 : Cond.methodLink "UnitThreadsLaw" 43 y_Ut_bar ∈ zW := zW_of 235 rfl rfl
theorem w_236 : Cond.instanceMethod y_Ut_bar ∈ zW := zW_of 236 rfl rfl
theorem w_237 : Cond.selects "UnitThreads" y_Ut_bar y_Ut_bar ∈ zW := zW_of 237 rfl rfl
theorem w_238 : Cond.code y_Ut_bar prog_1_method_6_code 3 (some .boolean) ∈ zW := zW_of 238 rfl rfl
theorem w_239 : Cond.methodLink "UnitThreads" 93 y_Ut_hasWay ∈ zW := zW_of 239 rfl rfl
theorem w_240 : Cond.static y_Ut_hasWay ∈ zW := zW_of 240 rfl rfl
theorem w_241 : Cond.code y_Ut_hasWay prog_1_method_19_code 2 (some .boolean) ∈ zW := zW_of 241 rfl rfl
theorem w_242 : Cond.methodLink "UnitThreadsLaw" 47 y_Ut_play ∈ zW := zW_of 242 rfl rfl
theorem w_243 : Cond.instanceMethod y_Ut_play ∈ zW := zW_of 243 rfl rfl
theorem w_244 : Cond.selects "UnitThreads" y_Ut_play y_Ut_play ∈ zW := zW_of 244 rfl rfl
theorem w_245 : Cond.code y_Ut_play prog_1_method_7_code 5 (some .int) ∈ zW := zW_of 245 rfl rfl
theorem w_246 : Cond.methodLink "UnitThreads" 100 y_Ut_acting ∈ zW := zW_of 246 rfl rfl
theorem w_248 : Cond.instanceMethod y_Ut_acting ∈ zW := zW_of 248 rfl rfl
theorem w_249 : Cond.code y_Ut_acting prog_1_method_23_code 4 (some .int) ∈ zW := zW_of 249 rfl rfl
theorem w_250 : Cond.methodLink "UnitThreads" 117 y_Ut_modeOf ∈ zW := zW_of 250 rfl rfl
theorem w_252 : Cond.instanceMethod y_Ut_modeOf ∈ zW := zW_of 252 rfl rfl
theorem w_253 : Cond.code y_Ut_modeOf prog_1_method_22_code 2 (some .int) ∈ zW := zW_of 253 rfl rfl
theorem w_254 : Cond.methodLink "UnitThreads" 146 y_Un_hasEnded ∈ zW := zW_of 254 rfl rfl
theorem w_255 : Cond.instanceMethod y_Un_hasEnded ∈ zW := zW_of 255 rfl rfl
theorem w_256 : Cond.selects "UnitThreads$Unit" y_Un_hasEnded y_Un_hasEnded ∈ zW := zW_of 256 rfl rfl
theorem w_257 : Cond.code y_Un_hasEnded prog_6_method_2_code 1 (some .boolean) ∈ zW := zW_of 257 rfl rfl
theorem w_258 : Cond.methodLink "UnitThreads" 104 y_Ut_passSecond ∈ zW := zW_of 258 rfl rfl
theorem w_260 : Cond.instanceMethod y_Ut_passSecond ∈ zW := zW_of 260 rfl rfl
theorem w_261 : Cond.code y_Ut_passSecond prog_1_method_24_code 4 none ∈ zW := zW_of 261 rfl rfl
theorem w_262 : Cond.methodLink "UnitThreads" 150 y_En_brief ∈ zW := zW_of 262 rfl rfl
theorem w_263 : Cond.instanceMethod y_En_brief ∈ zW := zW_of 263 rfl rfl
theorem w_264 : Cond.selects "UnitThreads$Entries" y_En_brief y_En_brief ∈ zW := zW_of 264 rfl rfl
theorem w_265 : Cond.code y_En_brief prog_3_method_5_code 5 none ∈ zW := zW_of 265 rfl rfl
theorem w_266 : Cond.methodLink "UnitThreads" 154 y_Or_gather ∈ zW := zW_of 266 rfl rfl
theorem w_267 : Cond.instanceMethod y_Or_gather ∈ zW := zW_of 267 rfl rfl
theorem w_268 : Cond.selects "UnitThreads$Order" y_Or_gather y_Or_gather ∈ zW := zW_of 268 rfl rfl
theorem w_269 : Cond.code y_Or_gather prog_4_method_2_code 3 none ∈ zW := zW_of 269 rfl rfl
theorem w_270 : Cond.methodLink "UnitThreads$Order" 21 y_Un_acts ∈ zW := zW_of 270 rfl rfl
theorem w_271 : Cond.instanceMethod y_Un_acts ∈ zW := zW_of 271 rfl rfl
theorem w_272 : Cond.selects "UnitThreads$Unit" y_Un_acts y_Un_acts ∈ zW := zW_of 272 rfl rfl
theorem w_273 : Cond.code y_Un_acts prog_6_method_3_code 1 (some .boolean) ∈ zW := zW_of 273 rfl rfl
theorem w_274 : Cond.methodLink "UnitThreads$Unit" 36 y_Un_hasEnded ∈ zW := zW_of 274 rfl rfl
theorem w_275 : Cond.methodLink "UnitThreads" 157 y_Or_draw ∈ zW := zW_of 275 rfl rfl
theorem w_276 : Cond.instanceMethod y_Or_draw ∈ zW := zW_of 276 rfl rfl
theorem w_277 : Cond.selects "UnitThreads$Order" y_Or_draw y_Or_draw ∈ zW := zW_of 277 rfl rfl
theorem w_278 : Cond.code y_Or_draw prog_4_method_3_code 3 none ∈ zW := zW_of 278 rfl rfl
theorem w_279 : Cond.constantLong "UnitThreads$Order" 27 (6364136223846793005 : Int64) ∈ zW := zW_of 279 rfl rfl
theorem w_280 : Cond.constantLong "UnitThreads$Order" 29 (1442695040888963407 : Int64) ∈ zW := zW_of 280 rfl rfl
theorem w_281 : Cond.methodLink "UnitThreads$Order" 31 y_Or_moveForward ∈ zW := zW_of 281 rfl rfl
theorem w_283 : Cond.instanceMethod y_Or_moveForward ∈ zW := zW_of 283 rfl rfl
theorem w_284 : Cond.code y_Or_moveForward prog_4_method_4_code 5 none ∈ zW := zW_of 284 rfl rfl
theorem w_285 : Cond.methodLink "UnitThreads" 160 y_Ut_takeTurns ∈ zW := zW_of 285 rfl rfl
theorem w_287 : Cond.instanceMethod y_Ut_takeTurns ∈ zW := zW_of 287 rfl rfl
theorem w_288 : Cond.code y_Ut_takeTurns prog_1_method_25_code 3 none ∈ zW := zW_of 288 rfl rfl
theorem w_289 : Cond.methodLink "UnitThreads" 163 y_Ut_holdThrowers ∈ zW := zW_of 289 rfl rfl
theorem w_291 : Cond.instanceMethod y_Ut_holdThrowers ∈ zW := zW_of 291 rfl rfl
theorem w_292 : Cond.code y_Ut_holdThrowers prog_1_method_26_code 4 none ∈ zW := zW_of 292 rfl rfl
theorem w_293 : Cond.methodLink "UnitThreads" 188 y_En_markThrown ∈ zW := zW_of 293 rfl rfl
theorem w_294 : Cond.instanceMethod y_En_markThrown ∈ zW := zW_of 294 rfl rfl
theorem w_295 : Cond.selects "UnitThreads$Entries" y_En_markThrown y_En_markThrown ∈ zW := zW_of 295 rfl rfl
theorem w_296 : Cond.code y_En_markThrown prog_3_method_4_code 2 none ∈ zW := zW_of 296 rfl rfl
theorem w_297 : Cond.methodLink "UnitThreads" 191 y_Bo_makeSafe ∈ zW := zW_of 297 rfl rfl
theorem w_298 : Cond.instanceMethod y_Bo_makeSafe ∈ zW := zW_of 298 rfl rfl
theorem w_299 : Cond.selects "UnitThreads$Board" y_Bo_makeSafe y_Bo_makeSafe ∈ zW := zW_of 299 rfl rfl
theorem w_300 : Cond.code y_Bo_makeSafe prog_2_method_6_code 4 none ∈ zW := zW_of 300 rfl rfl
theorem w_301 : Cond.methodLink "UnitThreads" 166 y_Ut_grantWays ∈ zW := zW_of 301 rfl rfl
theorem w_303 : Cond.instanceMethod y_Ut_grantWays ∈ zW := zW_of 303 rfl rfl
theorem w_304 : Cond.code y_Ut_grantWays prog_1_method_27_code 3 none ∈ zW := zW_of 304 rfl rfl
theorem w_305 : Cond.methodLink "UnitThreads" 197 y_Ut_leastAsker ∈ zW := zW_of 305 rfl rfl
theorem w_307 : Cond.instanceMethod y_Ut_leastAsker ∈ zW := zW_of 307 rfl rfl
theorem w_308 : Cond.code y_Ut_leastAsker prog_1_method_28_code 3 (some .int) ∈ zW := zW_of 308 rfl rfl
theorem w_309 : Cond.methodLink "UnitThreads" 200 y_Un_asked ∈ zW := zW_of 309 rfl rfl
theorem w_310 : Cond.instanceMethod y_Un_asked ∈ zW := zW_of 310 rfl rfl
theorem w_311 : Cond.selects "UnitThreads$Unit" y_Un_asked y_Un_asked ∈ zW := zW_of 311 rfl rfl
theorem w_312 : Cond.code y_Un_asked prog_6_method_4_code 1 (some .int) ∈ zW := zW_of 312 rfl rfl
theorem w_313 : Cond.methodLink "UnitThreads" 169 y_Ut_settle ∈ zW := zW_of 313 rfl rfl
theorem w_315 : Cond.instanceMethod y_Ut_settle ∈ zW := zW_of 315 rfl rfl
theorem w_316 : Cond.code y_Ut_settle prog_1_method_29_code 3 none ∈ zW := zW_of 316 rfl rfl
theorem w_317 : Cond.methodLink "UnitThreads" 203 y_Bo_ownsAll ∈ zW := zW_of 317 rfl rfl
theorem w_318 : Cond.instanceMethod y_Bo_ownsAll ∈ zW := zW_of 318 rfl rfl
theorem w_319 : Cond.selects "UnitThreads$Board" y_Bo_ownsAll y_Bo_ownsAll ∈ zW := zW_of 319 rfl rfl
theorem w_320 : Cond.code y_Bo_ownsAll prog_2_method_7_code 4 (some .boolean) ∈ zW := zW_of 320 rfl rfl
theorem w_322 : Cond.methodLink "UnitThreads" 209 y_En_doSteps ∈ zW := zW_of 322 rfl rfl
theorem w_323 : Cond.instanceMethod y_En_doSteps ∈ zW := zW_of 323 rfl rfl
theorem w_324 : Cond.selects "UnitThreads$Entries" y_En_doSteps y_En_doSteps ∈ zW := zW_of 324 rfl rfl
theorem w_325 : Cond.code y_En_doSteps prog_3_method_6_code 5 none ∈ zW := zW_of 325 rfl rfl
theorem w_326 : Cond.methodLink "UnitThreads" 213 y_Un_given ∈ zW := zW_of 326 rfl rfl
theorem w_327 : Cond.instanceMethod y_Un_given ∈ zW := zW_of 327 rfl rfl
theorem w_328 : Cond.selects "UnitThreads$Unit" y_Un_given y_Un_given ∈ zW := zW_of 328 rfl rfl
theorem w_329 : Cond.code y_Un_given prog_6_method_5_code 1 (some .int) ∈ zW := zW_of 329 rfl rfl
theorem w_330 : Cond.methodLink "UnitThreads" 216 y_Bo_giveBack ∈ zW := zW_of 330 rfl rfl
theorem w_331 : Cond.instanceMethod y_Bo_giveBack ∈ zW := zW_of 331 rfl rfl
theorem w_332 : Cond.selects "UnitThreads$Board" y_Bo_giveBack y_Bo_giveBack ∈ zW := zW_of 332 rfl rfl
theorem w_333 : Cond.code y_Bo_giveBack prog_2_method_8_code 4 none ∈ zW := zW_of 333 rfl rfl
theorem w_334 : Cond.methodLink "UnitThreads" 172 y_Bo_keep ∈ zW := zW_of 334 rfl rfl
theorem w_335 : Cond.instanceMethod y_Bo_keep ∈ zW := zW_of 335 rfl rfl
theorem w_336 : Cond.selects "UnitThreads$Board" y_Bo_keep y_Bo_keep ∈ zW := zW_of 336 rfl rfl
theorem w_337 : Cond.code y_Bo_keep prog_2_method_9_code 1 none ∈ zW := zW_of 337 rfl rfl
theorem w_338 : Cond.methodLink "UnitThreads$Board" 52 y_Sy_arraycopy ∈ zW := zW_of 338 rfl rfl
theorem w_339 : Cond.static y_Sy_arraycopy ∈ zW := zW_of 339 rfl rfl
theorem w_340 : Cond.native y_Sy_arraycopy ∈ zW := zW_of 340 rfl rfl
theorem w_341 : Cond.methodLink "UnitThreads" 182 y_Tu_add ∈ zW := zW_of 341 rfl rfl
theorem w_342 : Cond.instanceMethod y_Tu_add ∈ zW := zW_of 342 rfl rfl
theorem w_343 : Cond.selects "UnitThreads$Turns" y_Tu_add y_Tu_add ∈ zW := zW_of 343 rfl rfl
theorem w_344 : Cond.code y_Tu_add prog_5_method_2_code 4 none ∈ zW := zW_of 344 rfl rfl
theorem w_345 : Cond.methodLink "UnitThreadsLaw" 52 y_Ut_output ∈ zW := zW_of 345 rfl rfl
theorem w_346 : Cond.instanceMethod y_Ut_output ∈ zW := zW_of 346 rfl rfl
theorem w_347 : Cond.selects "UnitThreads" y_Ut_output y_Ut_output ∈ zW := zW_of 347 rfl rfl
theorem w_348 : Cond.code y_Ut_output prog_1_method_8_code 3 (some .long) ∈ zW := zW_of 348 rfl rfl
theorem w_349 : Cond.methodLink "UnitThreads" 107 y_Bo_valueAt ∈ zW := zW_of 349 rfl rfl
theorem w_350 : Cond.instanceMethod y_Bo_valueAt ∈ zW := zW_of 350 rfl rfl
theorem w_351 : Cond.selects "UnitThreads$Board" y_Bo_valueAt y_Bo_valueAt ∈ zW := zW_of 351 rfl rfl
theorem w_352 : Cond.code y_Bo_valueAt prog_2_method_4_code 3 (some .long) ∈ zW := zW_of 352 rfl rfl
theorem w_353 : Cond.methodLink "UnitThreads$Board" 38 y_Bo_hasOutput ∈ zW := zW_of 353 rfl rfl
theorem w_354 : Cond.methodLink "UnitThreads$Board" 42 y_Bo_wasDone ∈ zW := zW_of 354 rfl rfl
theorem w_355 : Cond.instanceMethod y_Bo_wasDone ∈ zW := zW_of 355 rfl rfl
theorem w_356 : Cond.selects "UnitThreads$Board" y_Bo_wasDone y_Bo_wasDone ∈ zW := zW_of 356 rfl rfl
theorem w_357 : Cond.code y_Bo_wasDone prog_2_method_3_code 2 (some .boolean) ∈ zW := zW_of 357 rfl rfl
theorem w_358 : Cond.methodLink "UnitThreadsLaw" 57 y_Ut_owner ∈ zW := zW_of 358 rfl rfl
theorem w_359 : Cond.instanceMethod y_Ut_owner ∈ zW := zW_of 359 rfl rfl
theorem w_360 : Cond.selects "UnitThreads" y_Ut_owner y_Ut_owner ∈ zW := zW_of 360 rfl rfl
theorem w_361 : Cond.code y_Ut_owner prog_1_method_9_code 3 (some .int) ∈ zW := zW_of 361 rfl rfl
theorem w_362 : Cond.methodLink "UnitThreads" 111 y_Bo_ownerAt ∈ zW := zW_of 362 rfl rfl
theorem w_363 : Cond.instanceMethod y_Bo_ownerAt ∈ zW := zW_of 363 rfl rfl
theorem w_364 : Cond.selects "UnitThreads$Board" y_Bo_ownerAt y_Bo_ownerAt ∈ zW := zW_of 364 rfl rfl
theorem w_365 : Cond.code y_Bo_ownerAt prog_2_method_5_code 3 (some .int) ∈ zW := zW_of 365 rfl rfl
theorem w_367 : Cond.methodLink "UnitThreadsLaw" 62 y_Ut_state ∈ zW := zW_of 367 rfl rfl
theorem w_368 : Cond.instanceMethod y_Ut_state ∈ zW := zW_of 368 rfl rfl
theorem w_369 : Cond.selects "UnitThreads" y_Ut_state y_Ut_state ∈ zW := zW_of 369 rfl rfl
theorem w_370 : Cond.code y_Ut_state prog_1_method_10_code 2 (some .int) ∈ zW := zW_of 370 rfl rfl
theorem w_371 : Cond.methodLink "UnitThreadsLaw" 67 y_Ut_restart ∈ zW := zW_of 371 rfl rfl
theorem w_372 : Cond.instanceMethod y_Ut_restart ∈ zW := zW_of 372 rfl rfl
theorem w_373 : Cond.selects "UnitThreads" y_Ut_restart y_Ut_restart ∈ zW := zW_of 373 rfl rfl
theorem w_374 : Cond.code y_Ut_restart prog_1_method_11_code 2 (some .boolean) ∈ zW := zW_of 374 rfl rfl
theorem w_375 : Cond.methodLink "UnitThreadsLaw" 72 y_Ut_held ∈ zW := zW_of 375 rfl rfl
theorem w_376 : Cond.instanceMethod y_Ut_held ∈ zW := zW_of 376 rfl rfl
theorem w_377 : Cond.selects "UnitThreads" y_Ut_held y_Ut_held ∈ zW := zW_of 377 rfl rfl
theorem w_378 : Cond.code y_Ut_held prog_1_method_12_code 2 (some .int) ∈ zW := zW_of 378 rfl rfl
theorem w_379 : Cond.methodLink "UnitThreadsLaw" 76 y_Ut_log ∈ zW := zW_of 379 rfl rfl
theorem w_380 : Cond.instanceMethod y_Ut_log ∈ zW := zW_of 380 rfl rfl
theorem w_381 : Cond.selects "UnitThreads" y_Ut_log y_Ut_log ∈ zW := zW_of 381 rfl rfl
theorem w_382 : Cond.code y_Ut_log prog_1_method_13_code 3 (some .int) ∈ zW := zW_of 382 rfl rfl
theorem w_383 : Cond.methodLink "UnitThreads" 127 y_Tu_look ∈ zW := zW_of 383 rfl rfl
theorem w_384 : Cond.instanceMethod y_Tu_look ∈ zW := zW_of 384 rfl rfl
theorem w_385 : Cond.selects "UnitThreads$Turns" y_Tu_look y_Tu_look ∈ zW := zW_of 385 rfl rfl
theorem w_386 : Cond.code y_Tu_look prog_5_method_3_code 3 (some .int) ∈ zW := zW_of 386 rfl rfl
theorem w_387 : Cond.methodLink "UnitThreadsLaw" 80 y_Ut_count ∈ zW := zW_of 387 rfl rfl
theorem w_388 : Cond.instanceMethod y_Ut_count ∈ zW := zW_of 388 rfl rfl
theorem w_389 : Cond.selects "UnitThreads" y_Ut_count y_Ut_count ∈ zW := zW_of 389 rfl rfl
theorem w_390 : Cond.code y_Ut_count prog_1_method_14_code 2 (some .int) ∈ zW := zW_of 390 rfl rfl
theorem w_391 : Cond.methodLink "UnitThreadsLaw" 84 y_Ut_close ∈ zW := zW_of 391 rfl rfl
theorem w_392 : Cond.instanceMethod y_Ut_close ∈ zW := zW_of 392 rfl rfl
theorem w_393 : Cond.selects "UnitThreads" y_Ut_close y_Ut_close ∈ zW := zW_of 393 rfl rfl
theorem w_394 : Cond.code y_Ut_close prog_1_method_15_code 3 (some .int) ∈ zW := zW_of 394 rfl rfl
theorem w_395 : Cond.methodLink "UnitThreads" 137 y_Bo_shut ∈ zW := zW_of 395 rfl rfl
theorem w_396 : Cond.instanceMethod y_Bo_shut ∈ zW := zW_of 396 rfl rfl
theorem w_397 : Cond.selects "UnitThreads$Board" y_Bo_shut y_Bo_shut ∈ zW := zW_of 397 rfl rfl
theorem w_398 : Cond.code y_Bo_shut prog_2_method_10_code 1 none ∈ zW := zW_of 398 rfl rfl
theorem w_399 : Cond.methodLink "UnitThreadsLaw" 9 y_La_cell ∈ zW := zW_of 399 rfl rfl
set_option maxRecDepth 100000 in
theorem w_400 : Cond.static y_La_cell ∈ zW := zW_of 400 rfl rfl
set_option maxRecDepth 100000 in
theorem w_401 : Cond.code y_La_cell method_2_code 2 (some .int) ∈ zW := zW_of 401 rfl rfl
set_option maxRecDepth 100000 in
theorem w_402 : Cond.classLink "UnitThreadsLaw" 18 "UnitThreadsModel" ∈ zW := zW_of 402 rfl rfl
set_option maxRecDepth 100000 in
theorem w_403 : Cond.instantiable "UnitThreadsModel" 26 ∈ zW := zW_of 403 rfl rfl
set_option maxRecDepth 100000 in
theorem w_404 : Cond.methodLink "UnitThreadsLaw" 20 y_Mo_init ∈ zW := zW_of 404 rfl rfl
set_option maxRecDepth 100000 in
theorem w_405 : Cond.instanceMethod y_Mo_init ∈ zW := zW_of 405 rfl rfl
set_option maxRecDepth 100000 in
theorem w_406 : Cond.code y_Mo_init prog_8_method_1_code 3 none ∈ zW := zW_of 406 rfl rfl
set_option maxRecDepth 100000 in
theorem w_407 : Cond.methodLink "UnitThreadsModel" 1 y_Ob_init ∈ zW := zW_of 407 rfl rfl
set_option maxRecDepth 100000 in
theorem w_408 : Cond.fieldLink "UnitThreadsModel" 75 "UnitThreadsModel" "units" "I" ∈ zW := zW_of 408 rfl rfl
set_option maxRecDepth 100000 in
theorem w_409 : Cond.fieldLink "UnitThreadsModel" 83 "UnitThreadsModel" "isClosed" "Z" ∈ zW := zW_of 409 rfl rfl
set_option maxRecDepth 100000 in
theorem w_410 : Cond.fieldLink "UnitThreadsModel" 106 "UnitThreadsModel" "done" "I" ∈ zW := zW_of 410 rfl rfl
set_option maxRecDepth 100000 in
theorem w_411 : Cond.fieldLink "UnitThreadsModel" 7 "UnitThreadsModel" "outputs" "[J" ∈ zW := zW_of 411 rfl rfl
set_option maxRecDepth 100000 in
theorem w_412 : Cond.fieldLink "UnitThreadsModel" 13 "UnitThreadsModel" "safes" "[J" ∈ zW := zW_of 412 rfl rfl
set_option maxRecDepth 100000 in
theorem w_413 : Cond.fieldLink "UnitThreadsModel" 16 "UnitThreadsModel" "owners" "[I" ∈ zW := zW_of 413 rfl rfl
set_option maxRecDepth 100000 in
theorem w_414 : Cond.fieldLink "UnitThreadsModel" 20 "UnitThreadsModel" "outputsAt" "[J" ∈ zW := zW_of 414 rfl rfl
set_option maxRecDepth 100000 in
theorem w_415 : Cond.fieldLink "UnitThreadsModel" 23 "UnitThreadsModel" "ownersAt" "[I" ∈ zW := zW_of 415 rfl rfl
set_option maxRecDepth 100000 in
theorem w_416 : Cond.fieldLink "UnitThreadsModel" 26 "UnitThreadsModel" "bars" "[Z" ∈ zW := zW_of 416 rfl rfl
set_option maxRecDepth 100000 in
theorem w_417 : Cond.fieldLink "UnitThreadsModel" 30 "UnitThreadsModel" "kinds" "[I" ∈ zW := zW_of 417 rfl rfl
set_option maxRecDepth 100000 in
theorem w_418 : Cond.fieldLink "UnitThreadsModel" 33 "UnitThreadsModel" "whose" "[I" ∈ zW := zW_of 418 rfl rfl
set_option maxRecDepth 100000 in
theorem w_419 : Cond.fieldLink "UnitThreadsModel" 36 "UnitThreadsModel" "seconds" "[I" ∈ zW := zW_of 419 rfl rfl
set_option maxRecDepth 100000 in
theorem w_420 : Cond.fieldLink "UnitThreadsModel" 39 "UnitThreadsModel" "what" "[I" ∈ zW := zW_of 420 rfl rfl
set_option maxRecDepth 100000 in
theorem w_421 : Cond.fieldLink "UnitThreadsModel" 42 "UnitThreadsModel" "values" "[J" ∈ zW := zW_of 421 rfl rfl
set_option maxRecDepth 100000 in
theorem w_422 : Cond.fieldLink "UnitThreadsModel" 87 "UnitThreadsModel" "entries" "I" ∈ zW := zW_of 422 rfl rfl
set_option maxRecDepth 100000 in
theorem w_423 : Cond.fieldLink "UnitThreadsModel" 45 "UnitThreadsModel" "own" "[I" ∈ zW := zW_of 423 rfl rfl
set_option maxRecDepth 100000 in
theorem w_424 : Cond.fieldLink "UnitThreadsModel" 48 "UnitThreadsModel" "waits" "[Z" ∈ zW := zW_of 424 rfl rfl
set_option maxRecDepth 100000 in
theorem w_425 : Cond.fieldLink "UnitThreadsModel" 51 "UnitThreadsModel" "heldAt" "[I" ∈ zW := zW_of 425 rfl rfl
set_option maxRecDepth 100000 in
theorem w_426 : Cond.fieldLink "UnitThreadsModel" 54 "UnitThreadsModel" "turnSeconds" "[I" ∈ zW := zW_of 426 rfl rfl
set_option maxRecDepth 100000 in
theorem w_427 : Cond.fieldLink "UnitThreadsModel" 57 "UnitThreadsModel" "turnUnits" "[I" ∈ zW := zW_of 427 rfl rfl
set_option maxRecDepth 100000 in
theorem w_428 : Cond.fieldLink "UnitThreadsModel" 60 "UnitThreadsModel" "turnEnds" "[I" ∈ zW := zW_of 428 rfl rfl
set_option maxRecDepth 100000 in
theorem w_429 : Cond.fieldLink "UnitThreadsModel" 115 "UnitThreadsModel" "turns" "I" ∈ zW := zW_of 429 rfl rfl
set_option maxRecDepth 100000 in
theorem w_430 : Cond.fieldLink "UnitThreadsModel" 63 "UnitThreadsModel" "takes" "[Z" ∈ zW := zW_of 430 rfl rfl
set_option maxRecDepth 100000 in
theorem w_431 : Cond.fieldLink "UnitThreadsModel" 66 "UnitThreadsModel" "left" "[Z" ∈ zW := zW_of 431 rfl rfl
set_option maxRecDepth 100000 in
theorem w_432 : Cond.fieldLink "UnitThreadsModel" 69 "UnitThreadsModel" "throwing" "[Z" ∈ zW := zW_of 432 rfl rfl
set_option maxRecDepth 100000 in
theorem w_433 : Cond.fieldLink "UnitThreadsModel" 72 "UnitThreadsModel" "asked" "[Z" ∈ zW := zW_of 433 rfl rfl
set_option maxRecDepth 100000 in
theorem w_434 : Cond.laysFinal "UnitThreadsModel" "UnitThreadsModel" "units" "I" ∈ zW := zW_of 434 rfl rfl
set_option maxRecDepth 100000 in
theorem w_436 : Cond.lays "UnitThreadsModel" "UnitThreadsModel" "isClosed" "Z" ∈ zW := zW_of 436 rfl rfl
set_option maxRecDepth 100000 in
theorem w_438 : Cond.lays "UnitThreadsModel" "UnitThreadsModel" "done" "I" ∈ zW := zW_of 438 rfl rfl
set_option maxRecDepth 100000 in
theorem w_440 : Cond.laysFinal "UnitThreadsModel" "UnitThreadsModel" "outputs" "[J" ∈ zW := zW_of 440 rfl rfl
set_option maxRecDepth 100000 in
theorem w_442 : Cond.laysFinal "UnitThreadsModel" "UnitThreadsModel" "safes" "[J" ∈ zW := zW_of 442 rfl rfl
set_option maxRecDepth 100000 in
theorem w_444 : Cond.laysFinal "UnitThreadsModel" "UnitThreadsModel" "owners" "[I" ∈ zW := zW_of 444 rfl rfl
set_option maxRecDepth 100000 in
theorem w_446 : Cond.laysFinal "UnitThreadsModel" "UnitThreadsModel" "outputsAt" "[J" ∈ zW := zW_of 446 rfl rfl
set_option maxRecDepth 100000 in
theorem w_448 : Cond.laysFinal "UnitThreadsModel" "UnitThreadsModel" "ownersAt" "[I" ∈ zW := zW_of 448 rfl rfl
set_option maxRecDepth 100000 in
theorem w_450 : Cond.laysFinal "UnitThreadsModel" "UnitThreadsModel" "bars" "[Z" ∈ zW := zW_of 450 rfl rfl
set_option maxRecDepth 100000 in
theorem w_452 : Cond.laysFinal "UnitThreadsModel" "UnitThreadsModel" "kinds" "[I" ∈ zW := zW_of 452 rfl rfl
set_option maxRecDepth 100000 in
theorem w_454 : Cond.laysFinal "UnitThreadsModel" "UnitThreadsModel" "whose" "[I" ∈ zW := zW_of 454 rfl rfl
set_option maxRecDepth 100000 in
theorem w_456 : Cond.laysFinal "UnitThreadsModel" "UnitThreadsModel" "seconds" "[I" ∈ zW := zW_of 456 rfl rfl
set_option maxRecDepth 100000 in
theorem w_458 : Cond.laysFinal "UnitThreadsModel" "UnitThreadsModel" "what" "[I" ∈ zW := zW_of 458 rfl rfl
set_option maxRecDepth 100000 in
theorem w_460 : Cond.laysFinal "UnitThreadsModel" "UnitThreadsModel" "values" "[J" ∈ zW := zW_of 460 rfl rfl
set_option maxRecDepth 100000 in
theorem w_462 : Cond.lays "UnitThreadsModel" "UnitThreadsModel" "entries" "I" ∈ zW := zW_of 462 rfl rfl
set_option maxRecDepth 100000 in
theorem w_464 : Cond.laysFinal "UnitThreadsModel" "UnitThreadsModel" "own" "[I" ∈ zW := zW_of 464 rfl rfl
set_option maxRecDepth 100000 in
theorem w_466 : Cond.laysFinal "UnitThreadsModel" "UnitThreadsModel" "waits" "[Z" ∈ zW := zW_of 466 rfl rfl
set_option maxRecDepth 100000 in
theorem w_468 : Cond.laysFinal "UnitThreadsModel" "UnitThreadsModel" "heldAt" "[I" ∈ zW := zW_of 468 rfl rfl
set_option maxRecDepth 100000 in
theorem w_470 : Cond.laysFinal "UnitThreadsModel" "UnitThreadsModel" "turnSeconds" "[I" ∈ zW := zW_of 470 rfl rfl
set_option maxRecDepth 100000 in
theorem w_472 : Cond.laysFinal "UnitThreadsModel" "UnitThreadsModel" "turnUnits" "[I" ∈ zW := zW_of 472 rfl rfl
set_option maxRecDepth 100000 in
theorem w_474 : Cond.laysFinal "UnitThreadsModel" "UnitThreadsModel" "turnEnds" "[I" ∈ zW := zW_of 474 rfl rfl
set_option maxRecDepth 100000 in
theorem w_476 : Cond.lays "UnitThreadsModel" "UnitThreadsModel" "turns" "I" ∈ zW := zW_of 476 rfl rfl
set_option maxRecDepth 100000 in
theorem w_478 : Cond.laysFinal "UnitThreadsModel" "UnitThreadsModel" "takes" "[Z" ∈ zW := zW_of 478 rfl rfl
set_option maxRecDepth 100000 in
theorem w_480 : Cond.laysFinal "UnitThreadsModel" "UnitThreadsModel" "left" "[Z" ∈ zW := zW_of 480 rfl rfl
set_option maxRecDepth 100000 in
theorem w_482 : Cond.laysFinal "UnitThreadsModel" "UnitThreadsModel" "throwing" "[Z" ∈ zW := zW_of 482 rfl rfl
set_option maxRecDepth 100000 in
theorem w_484 : Cond.laysFinal "UnitThreadsModel" "UnitThreadsModel" "asked" "[Z" ∈ zW := zW_of 484 rfl rfl
set_option maxRecDepth 100000 in
theorem w_487 : Cond.arrayClass FieldType.boolean ∈ zW := zW_of 487 rfl rfl
set_option maxRecDepth 100000 in
theorem w_488 : Cond.methodLink "UnitThreadsLaw" 27 y_Mo_step ∈ zW := zW_of 488 rfl rfl
set_option maxRecDepth 100000 in
theorem w_489 : Cond.instanceMethod y_Mo_step ∈ zW := zW_of 489 rfl rfl
set_option maxRecDepth 100000 in
theorem w_490 : Cond.selects "UnitThreadsModel" y_Mo_step y_Mo_step ∈ zW := zW_of 490 rfl rfl
set_option maxRecDepth 100000 in
theorem w_491 : Cond.code y_Mo_step prog_8_method_7_code 6 (some .boolean) ∈ zW := zW_of 491 rfl rfl
set_option maxRecDepth 100000 in
theorem w_492 : Cond.methodLink "UnitThreadsModel" 90 y_Mo_isUnit ∈ zW := zW_of 492 rfl rfl
set_option maxRecDepth 100000 in
theorem w_494 : Cond.instanceMethod y_Mo_isUnit ∈ zW := zW_of 494 rfl rfl
set_option maxRecDepth 100000 in
theorem w_495 : Cond.code y_Mo_isUnit prog_8_method_3_code 2 (some .boolean) ∈ zW := zW_of 495 rfl rfl
set_option maxRecDepth 100000 in
theorem w_496 : Cond.methodLink "UnitThreadsModel" 79 y_Mo_isIn ∈ zW := zW_of 496 rfl rfl
set_option maxRecDepth 100000 in
theorem w_497 : Cond.static y_Mo_isIn ∈ zW := zW_of 497 rfl rfl
set_option maxRecDepth 100000 in
theorem w_498 : Cond.code y_Mo_isIn prog_8_method_2_code 3 (some .boolean) ∈ zW := zW_of 498 rfl rfl
set_option maxRecDepth 100000 in
theorem w_499 : Cond.methodLink "UnitThreadsModel" 94 y_Mo_isOpen ∈ zW := zW_of 499 rfl rfl
set_option maxRecDepth 100000 in
theorem w_501 : Cond.instanceMethod y_Mo_isOpen ∈ zW := zW_of 501 rfl rfl
set_option maxRecDepth 100000 in
theorem w_502 : Cond.code y_Mo_isOpen prog_8_method_4_code 3 (some .boolean) ∈ zW := zW_of 502 rfl rfl
set_option maxRecDepth 100000 in
theorem w_503 : Cond.methodLink "UnitThreadsModel" 98 y_Mo_add ∈ zW := zW_of 503 rfl rfl
set_option maxRecDepth 100000 in
theorem w_505 : Cond.instanceMethod y_Mo_add ∈ zW := zW_of 505 rfl rfl
set_option maxRecDepth 100000 in
theorem w_506 : Cond.code y_Mo_add prog_8_method_5_code 7 (some .boolean) ∈ zW := zW_of 506 rfl rfl
set_option maxRecDepth 100000 in
theorem w_507 : Cond.methodLink "UnitThreadsLaw" 32 y_Mo_asks ∈ zW := zW_of 507 rfl rfl
set_option maxRecDepth 100000 in
theorem w_508 : Cond.instanceMethod y_Mo_asks ∈ zW := zW_of 508 rfl rfl
set_option maxRecDepth 100000 in
theorem w_509 : Cond.selects "UnitThreadsModel" y_Mo_asks y_Mo_asks ∈ zW := zW_of 509 rfl rfl
set_option maxRecDepth 100000 in
theorem w_510 : Cond.code y_Mo_asks prog_8_method_8_code 4 (some .boolean) ∈ zW := zW_of 510 rfl rfl
set_option maxRecDepth 100000 in
theorem w_511 : Cond.methodLink "UnitThreadsModel" 102 y_Mo_find ∈ zW := zW_of 511 rfl rfl
set_option maxRecDepth 100000 in
theorem w_513 : Cond.instanceMethod y_Mo_find ∈ zW := zW_of 513 rfl rfl
set_option maxRecDepth 100000 in
theorem w_514 : Cond.code y_Mo_find prog_8_method_6_code 6 (some .int) ∈ zW := zW_of 514 rfl rfl
set_option maxRecDepth 100000 in
theorem w_515 : Cond.methodLink "UnitThreadsLaw" 37 y_Mo_throwsAt ∈ zW := zW_of 515 rfl rfl
set_option maxRecDepth 100000 in
theorem w_516 : Cond.instanceMethod y_Mo_throwsAt ∈ zW := zW_of 516 rfl rfl
set_option maxRecDepth 100000 in
theorem w_517 : Cond.selects "UnitThreadsModel" y_Mo_throwsAt y_Mo_throwsAt ∈ zW := zW_of 517 rfl rfl
set_option maxRecDepth 100000 in
theorem w_518 : Cond.code y_Mo_throwsAt prog_8_method_9_code 3 (some .boolean) ∈ zW := zW_of 518 rfl rfl
set_option maxRecDepth 100000 in
theorem w_519 : Cond.methodLink "UnitThreadsLaw" 42 y_Mo_safe ∈ zW := zW_of 519 rfl rfl
set_option maxRecDepth 100000 in
theorem w_520 : Cond.instanceMethod y_Mo_safe ∈ zW := zW_of 520 rfl rfl
set_option maxRecDepth 100000 in
theorem w_521 : Cond.selects "UnitThreadsModel" y_Mo_safe y_Mo_safe ∈ zW := zW_of 521 rfl rfl
set_option maxRecDepth 100000 in
theorem w_522 : Cond.code y_Mo_safe prog_8_method_10_code 4 (some .boolean) ∈ zW := zW_of 522 rfl rfl
set_option maxRecDepth 100000 in
theorem w_523 : Cond.methodLink "UnitThreadsLaw" 46 y_Mo_bar ∈ zW := zW_of 523 rfl rfl
set_option maxRecDepth 100000 in
theorem w_524 : Cond.instanceMethod y_Mo_bar ∈ zW := zW_of 524 rfl rfl
set_option maxRecDepth 100000 in
theorem w_525 : Cond.selects "UnitThreadsModel" y_Mo_bar y_Mo_bar ∈ zW := zW_of 525 rfl rfl
set_option maxRecDepth 100000 in
theorem w_526 : Cond.code y_Mo_bar prog_8_method_11_code 3 (some .boolean) ∈ zW := zW_of 526 rfl rfl
set_option maxRecDepth 100000 in
theorem w_527 : Cond.methodLink "UnitThreadsLaw" 51 y_Mo_play ∈ zW := zW_of 527 rfl rfl
set_option maxRecDepth 100000 in
theorem w_528 : Cond.instanceMethod y_Mo_play ∈ zW := zW_of 528 rfl rfl
set_option maxRecDepth 100000 in
theorem w_529 : Cond.selects "UnitThreadsModel" y_Mo_play y_Mo_play ∈ zW := zW_of 529 rfl rfl
set_option maxRecDepth 100000 in
theorem w_530 : Cond.code y_Mo_play prog_8_method_23_code 8 (some .int) ∈ zW := zW_of 530 rfl rfl
set_option maxRecDepth 100000 in
theorem w_531 : Cond.methodLink "UnitThreadsModel" 142 y_Mo_going ∈ zW := zW_of 531 rfl rfl
set_option maxRecDepth 100000 in
theorem w_533 : Cond.instanceMethod y_Mo_going ∈ zW := zW_of 533 rfl rfl
set_option maxRecDepth 100000 in
theorem w_534 : Cond.code y_Mo_going prog_8_method_14_code 3 (some .int) ∈ zW := zW_of 534 rfl rfl
set_option maxRecDepth 100000 in
theorem w_535 : Cond.methodLink "UnitThreadsModel" 112 y_Mo_goes ∈ zW := zW_of 535 rfl rfl
set_option maxRecDepth 100000 in
theorem w_537 : Cond.instanceMethod y_Mo_goes ∈ zW := zW_of 537 rfl rfl
set_option maxRecDepth 100000 in
theorem w_538 : Cond.code y_Mo_goes prog_8_method_13_code 2 (some .boolean) ∈ zW := zW_of 538 rfl rfl
set_option maxRecDepth 100000 in
theorem w_539 : Cond.methodLink "UnitThreadsModel" 109 y_Mo_hasEnded ∈ zW := zW_of 539 rfl rfl
set_option maxRecDepth 100000 in
theorem w_541 : Cond.instanceMethod y_Mo_hasEnded ∈ zW := zW_of 541 rfl rfl
set_option maxRecDepth 100000 in
theorem w_542 : Cond.code y_Mo_hasEnded prog_8_method_12_code 4 (some .boolean) ∈ zW := zW_of 542 rfl rfl
set_option maxRecDepth 100000 in
theorem w_543 : Cond.methodLink "UnitThreadsModel" 146 y_Mo_turnsOf ∈ zW := zW_of 543 rfl rfl
set_option maxRecDepth 100000 in
theorem w_545 : Cond.instanceMethod y_Mo_turnsOf ∈ zW := zW_of 545 rfl rfl
set_option maxRecDepth 100000 in
theorem w_546 : Cond.code y_Mo_turnsOf prog_8_method_18_code 8 (some .long) ∈ zW := zW_of 546 rfl rfl
set_option maxRecDepth 100000 in
theorem w_547 : Cond.constantLong "UnitThreadsModel" 124 (6364136223846793005 : Int64) ∈ zW := zW_of 547 rfl rfl
set_option maxRecDepth 100000 in
theorem w_548 : Cond.constantLong "UnitThreadsModel" 126 (1442695040888963407 : Int64) ∈ zW := zW_of 548 rfl rfl
set_option maxRecDepth 100000 in
theorem w_549 : Cond.methodLink "UnitThreadsModel" 128 y_Mo_takeTurn ∈ zW := zW_of 549 rfl rfl
set_option maxRecDepth 100000 in
theorem w_551 : Cond.instanceMethod y_Mo_takeTurn ∈ zW := zW_of 551 rfl rfl
set_option maxRecDepth 100000 in
theorem w_552 : Cond.code y_Mo_takeTurn prog_8_method_17_code 4 none ∈ zW := zW_of 552 rfl rfl
set_option maxRecDepth 100000 in
theorem w_553 : Cond.methodLink "UnitThreadsModel" 118 y_Mo_isNow ∈ zW := zW_of 553 rfl rfl
set_option maxRecDepth 100000 in
theorem w_555 : Cond.instanceMethod y_Mo_isNow ∈ zW := zW_of 555 rfl rfl
set_option maxRecDepth 100000 in
theorem w_556 : Cond.code y_Mo_isNow prog_8_method_16_code 4 (some .boolean) ∈ zW := zW_of 556 rfl rfl
set_option maxRecDepth 100000 in
theorem w_557 : Cond.methodLink "UnitThreadsModel" 121 y_Mo_isGive ∈ zW := zW_of 557 rfl rfl
set_option maxRecDepth 100000 in
theorem w_559 : Cond.instanceMethod y_Mo_isGive ∈ zW := zW_of 559 rfl rfl
set_option maxRecDepth 100000 in
theorem w_560 : Cond.code y_Mo_isGive prog_8_method_15_code 4 (some .boolean) ∈ zW := zW_of 560 rfl rfl
set_option maxRecDepth 100000 in
theorem w_561 : Cond.methodLink "UnitThreadsModel" 150 y_Mo_end ∈ zW := zW_of 561 rfl rfl
set_option maxRecDepth 100000 in
theorem w_563 : Cond.instanceMethod y_Mo_end ∈ zW := zW_of 563 rfl rfl
set_option maxRecDepth 100000 in
theorem w_564 : Cond.code y_Mo_end prog_8_method_22_code 4 none ∈ zW := zW_of 564 rfl rfl
set_option maxRecDepth 100000 in
theorem w_565 : Cond.methodLink "UnitThreadsModel" 135 y_Mo_tellEnd ∈ zW := zW_of 565 rfl rfl
set_option maxRecDepth 100000 in
theorem w_567 : Cond.instanceMethod y_Mo_tellEnd ∈ zW := zW_of 567 rfl rfl
set_option maxRecDepth 100000 in
theorem w_568 : Cond.code y_Mo_tellEnd prog_8_method_19_code 4 none ∈ zW := zW_of 568 rfl rfl
set_option maxRecDepth 100000 in
theorem w_569 : Cond.methodLink "UnitThreadsModel" 139 y_Mo_act ∈ zW := zW_of 569 rfl rfl
set_option maxRecDepth 100000 in
theorem w_571 : Cond.instanceMethod y_Mo_act ∈ zW := zW_of 571 rfl rfl
set_option maxRecDepth 100000 in
theorem w_572 : Cond.code y_Mo_act prog_8_method_21_code 3 none ∈ zW := zW_of 572 rfl rfl
set_option maxRecDepth 100000 in
theorem w_573 : Cond.methodLink "UnitThreadsModel" 132 y_Mo_ownsAll ∈ zW := zW_of 573 rfl rfl
set_option maxRecDepth 100000 in
theorem w_575 : Cond.instanceMethod y_Mo_ownsAll ∈ zW := zW_of 575 rfl rfl
set_option maxRecDepth 100000 in
theorem w_576 : Cond.code y_Mo_ownsAll prog_8_method_20_code 4 (some .boolean) ∈ zW := zW_of 576 rfl rfl
set_option maxRecDepth 100000 in
theorem w_577 : Cond.methodLink "UnitThreadsLaw" 56 y_Mo_output ∈ zW := zW_of 577 rfl rfl
set_option maxRecDepth 100000 in
theorem w_578 : Cond.instanceMethod y_Mo_output ∈ zW := zW_of 578 rfl rfl
set_option maxRecDepth 100000 in
theorem w_579 : Cond.selects "UnitThreadsModel" y_Mo_output y_Mo_output ∈ zW := zW_of 579 rfl rfl
set_option maxRecDepth 100000 in
theorem w_580 : Cond.code y_Mo_output prog_8_method_24_code 3 (some .long) ∈ zW := zW_of 580 rfl rfl
set_option maxRecDepth 100000 in
theorem w_581 : Cond.methodLink "UnitThreadsLaw" 61 y_Mo_owner ∈ zW := zW_of 581 rfl rfl
set_option maxRecDepth 100000 in
theorem w_582 : Cond.instanceMethod y_Mo_owner ∈ zW := zW_of 582 rfl rfl
set_option maxRecDepth 100000 in
theorem w_583 : Cond.selects "UnitThreadsModel" y_Mo_owner y_Mo_owner ∈ zW := zW_of 583 rfl rfl
set_option maxRecDepth 100000 in
theorem w_584 : Cond.code y_Mo_owner prog_8_method_25_code 3 (some .int) ∈ zW := zW_of 584 rfl rfl
set_option maxRecDepth 100000 in
theorem w_585 : Cond.methodLink "UnitThreadsLaw" 66 y_Mo_state ∈ zW := zW_of 585 rfl rfl
set_option maxRecDepth 100000 in
theorem w_586 : Cond.instanceMethod y_Mo_state ∈ zW := zW_of 586 rfl rfl
set_option maxRecDepth 100000 in
theorem w_587 : Cond.selects "UnitThreadsModel" y_Mo_state y_Mo_state ∈ zW := zW_of 587 rfl rfl
set_option maxRecDepth 100000 in
theorem w_588 : Cond.code y_Mo_state prog_8_method_26_code 2 (some .int) ∈ zW := zW_of 588 rfl rfl
set_option maxRecDepth 100000 in
theorem w_589 : Cond.methodLink "UnitThreadsLaw" 71 y_Mo_restart ∈ zW := zW_of 589 rfl rfl
set_option maxRecDepth 100000 in
theorem w_590 : Cond.instanceMethod y_Mo_restart ∈ zW := zW_of 590 rfl rfl
set_option maxRecDepth 100000 in
theorem w_591 : Cond.selects "UnitThreadsModel" y_Mo_restart y_Mo_restart ∈ zW := zW_of 591 rfl rfl
set_option maxRecDepth 100000 in
theorem w_592 : Cond.code y_Mo_restart prog_8_method_27_code 2 (some .boolean) ∈ zW := zW_of 592 rfl rfl
set_option maxRecDepth 100000 in
theorem w_593 : Cond.methodLink "UnitThreadsLaw" 75 y_Mo_held ∈ zW := zW_of 593 rfl rfl
set_option maxRecDepth 100000 in
theorem w_594 : Cond.instanceMethod y_Mo_held ∈ zW := zW_of 594 rfl rfl
set_option maxRecDepth 100000 in
theorem w_595 : Cond.selects "UnitThreadsModel" y_Mo_held y_Mo_held ∈ zW := zW_of 595 rfl rfl
set_option maxRecDepth 100000 in
theorem w_596 : Cond.code y_Mo_held prog_8_method_28_code 2 (some .int) ∈ zW := zW_of 596 rfl rfl
set_option maxRecDepth 100000 in
theorem w_597 : Cond.methodLink "UnitThreadsLaw" 79 y_Mo_log ∈ zW := zW_of 597 rfl rfl
set_option maxRecDepth 100000 in
theorem w_598 : Cond.instanceMethod y_Mo_log ∈ zW := zW_of 598 rfl rfl
set_option maxRecDepth 100000 in
theorem w_599 : Cond.selects "UnitThreadsModel" y_Mo_log y_Mo_log ∈ zW := zW_of 599 rfl rfl
set_option maxRecDepth 100000 in
theorem w_600 : Cond.code y_Mo_log prog_8_method_29_code 3 (some .int) ∈ zW := zW_of 600 rfl rfl
set_option maxRecDepth 100000 in
theorem w_601 : Cond.methodLink "UnitThreadsLaw" 83 y_Mo_count ∈ zW := zW_of 601 rfl rfl
set_option maxRecDepth 100000 in
theorem w_602 : Cond.instanceMethod y_Mo_count ∈ zW := zW_of 602 rfl rfl
set_option maxRecDepth 100000 in
theorem w_603 : Cond.selects "UnitThreadsModel" y_Mo_count y_Mo_count ∈ zW := zW_of 603 rfl rfl
set_option maxRecDepth 100000 in
theorem w_604 : Cond.code y_Mo_count prog_8_method_30_code 2 (some .int) ∈ zW := zW_of 604 rfl rfl
set_option maxRecDepth 100000 in
theorem w_605 : Cond.methodLink "UnitThreadsLaw" 88 y_Mo_close ∈ zW := zW_of 605 rfl rfl
set_option maxRecDepth 100000 in
theorem w_606 : Cond.instanceMethod y_Mo_close ∈ zW := zW_of 606 rfl rfl
set_option maxRecDepth 100000 in
theorem w_607 : Cond.selects "UnitThreadsModel" y_Mo_close y_Mo_close ∈ zW := zW_of 607 rfl rfl
set_option maxRecDepth 100000 in
theorem w_608 : Cond.code y_Mo_close prog_8_method_31_code 3 (some .int) ∈ zW := zW_of 608 rfl rfl
set_option maxRecDepth 100000 in
theorem w_609 : Cond.constantLong "UnitThreadsLaw" 21 (4294967295 : Int64) ∈ zW := zW_of 609 rfl rfl
theorem s_0 : Cond.selects "UnitThreads" y_Ut_takesEntry y_Ut_takesEntry ∈ zW := zW_sel 0 rfl rfl
theorem s_1 : Cond.selects "UnitThreads" y_Ut_isUnit y_Ut_isUnit ∈ zW := zW_sel 1 rfl rfl
theorem s_2 : Cond.selects "UnitThreads" y_Ut_tell y_Ut_tell ∈ zW := zW_sel 2 rfl rfl
theorem s_3 : Cond.selects "UnitThreads" y_Ut_acting y_Ut_acting ∈ zW := zW_sel 3 rfl rfl
theorem s_4 : Cond.selects "UnitThreads" y_Ut_modeOf y_Ut_modeOf ∈ zW := zW_sel 4 rfl rfl
theorem s_5 : Cond.selects "UnitThreads" y_Ut_passSecond y_Ut_passSecond ∈ zW := zW_sel 5 rfl rfl
theorem s_6 : Cond.selects "UnitThreads$Order" y_Or_moveForward y_Or_moveForward ∈ zW := zW_sel 6 rfl rfl
theorem s_7 : Cond.selects "UnitThreads" y_Ut_takeTurns y_Ut_takeTurns ∈ zW := zW_sel 7 rfl rfl
theorem s_8 : Cond.selects "UnitThreads" y_Ut_holdThrowers y_Ut_holdThrowers ∈ zW := zW_sel 8 rfl rfl
theorem s_9 : Cond.selects "UnitThreads" y_Ut_grantWays y_Ut_grantWays ∈ zW := zW_sel 9 rfl rfl
theorem s_10 : Cond.selects "UnitThreads" y_Ut_leastAsker y_Ut_leastAsker ∈ zW := zW_sel 10 rfl rfl
theorem s_11 : Cond.selects "UnitThreads" y_Ut_settle y_Ut_settle ∈ zW := zW_sel 11 rfl rfl
theorem s_12 : Cond.selects "UnitThreadsModel" y_Mo_isUnit y_Mo_isUnit ∈ zW := zW_sel 12 rfl rfl
theorem s_13 : Cond.selects "UnitThreadsModel" y_Mo_isOpen y_Mo_isOpen ∈ zW := zW_sel 13 rfl rfl
theorem s_14 : Cond.selects "UnitThreadsModel" y_Mo_add y_Mo_add ∈ zW := zW_sel 14 rfl rfl
theorem s_15 : Cond.selects "UnitThreadsModel" y_Mo_find y_Mo_find ∈ zW := zW_sel 15 rfl rfl
theorem s_16 : Cond.selects "UnitThreadsModel" y_Mo_going y_Mo_going ∈ zW := zW_sel 16 rfl rfl
theorem s_17 : Cond.selects "UnitThreadsModel" y_Mo_goes y_Mo_goes ∈ zW := zW_sel 17 rfl rfl
theorem s_18 : Cond.selects "UnitThreadsModel" y_Mo_hasEnded y_Mo_hasEnded ∈ zW := zW_sel 18 rfl rfl
theorem s_19 : Cond.selects "UnitThreadsModel" y_Mo_turnsOf y_Mo_turnsOf ∈ zW := zW_sel 19 rfl rfl
theorem s_20 : Cond.selects "UnitThreadsModel" y_Mo_takeTurn y_Mo_takeTurn ∈ zW := zW_sel 20 rfl rfl
theorem s_21 : Cond.selects "UnitThreadsModel" y_Mo_isNow y_Mo_isNow ∈ zW := zW_sel 21 rfl rfl
theorem s_22 : Cond.selects "UnitThreadsModel" y_Mo_isGive y_Mo_isGive ∈ zW := zW_sel 22 rfl rfl
theorem s_23 : Cond.selects "UnitThreadsModel" y_Mo_end y_Mo_end ∈ zW := zW_sel 23 rfl rfl
theorem s_24 : Cond.selects "UnitThreadsModel" y_Mo_tellEnd y_Mo_tellEnd ∈ zW := zW_sel 24 rfl rfl
theorem s_25 : Cond.selects "UnitThreadsModel" y_Mo_act y_Mo_act ∈ zW := zW_sel 25 rfl rfl
theorem s_26 : Cond.selects "UnitThreadsModel" y_Mo_ownsAll y_Mo_ownsAll ∈ zW := zW_sel 26 rfl rfl
theorem in_Un : ∀ w ∈ u_ws "UnitThreads$Unit" T_Un 8, w ∈ zW := by
  show ∀ w ∈ [u_lay "UnitThreads$Unit" T_Un 0, u_lay "UnitThreads$Unit" T_Un 1, u_lay "UnitThreads$Unit" T_Un 2, u_lay "UnitThreads$Unit" T_Un 3, u_lay "UnitThreads$Unit" T_Un 4, u_lay "UnitThreads$Unit" T_Un 5, u_lay "UnitThreads$Unit" T_Un 6, u_lay "UnitThreads$Unit" T_Un 7], w ∈ zW
  exact List.forall_mem_cons.mpr ⟨w_51, List.forall_mem_cons.mpr ⟨w_53, List.forall_mem_cons.mpr ⟨w_55, List.forall_mem_cons.mpr ⟨w_57, List.forall_mem_cons.mpr ⟨w_59, List.forall_mem_cons.mpr ⟨w_61, List.forall_mem_cons.mpr ⟨w_63, List.forall_mem_cons.mpr ⟨w_65, fun _ h => absurd h List.not_mem_nil⟩⟩⟩⟩⟩⟩⟩⟩
theorem in_En : ∀ w ∈ u_ws "UnitThreads$Entries" T_En 6, w ∈ zW := by
  show ∀ w ∈ [u_lay "UnitThreads$Entries" T_En 0, u_lay "UnitThreads$Entries" T_En 1, u_lay "UnitThreads$Entries" T_En 2, u_lay "UnitThreads$Entries" T_En 3, u_lay "UnitThreads$Entries" T_En 4, u_lay "UnitThreads$Entries" T_En 5], w ∈ zW
  exact List.forall_mem_cons.mpr ⟨w_81, List.forall_mem_cons.mpr ⟨w_83, List.forall_mem_cons.mpr ⟨w_85, List.forall_mem_cons.mpr ⟨w_87, List.forall_mem_cons.mpr ⟨w_89, List.forall_mem_cons.mpr ⟨w_91, fun _ h => absurd h List.not_mem_nil⟩⟩⟩⟩⟩⟩
theorem in_Or : ∀ w ∈ u_ws "UnitThreads$Order" T_Or 3, w ∈ zW := by
  show ∀ w ∈ [u_lay "UnitThreads$Order" T_Or 0, u_lay "UnitThreads$Order" T_Or 1, u_lay "UnitThreads$Order" T_Or 2], w ∈ zW
  exact List.forall_mem_cons.mpr ⟨w_108, List.forall_mem_cons.mpr ⟨w_110, List.forall_mem_cons.mpr ⟨w_112, fun _ h => absurd h List.not_mem_nil⟩⟩⟩
theorem in_Tu : ∀ w ∈ u_ws "UnitThreads$Turns" T_Tu 4, w ∈ zW := by
  show ∀ w ∈ [u_lay "UnitThreads$Turns" T_Tu 0, u_lay "UnitThreads$Turns" T_Tu 1, u_lay "UnitThreads$Turns" T_Tu 2, u_lay "UnitThreads$Turns" T_Tu 3], w ∈ zW
  exact List.forall_mem_cons.mpr ⟨w_126, List.forall_mem_cons.mpr ⟨w_128, List.forall_mem_cons.mpr ⟨w_130, List.forall_mem_cons.mpr ⟨w_132, fun _ h => absurd h List.not_mem_nil⟩⟩⟩⟩
theorem in_Bo : ∀ w ∈ u_ws "UnitThreads$Board" T_Bo 6, w ∈ zW := by
  show ∀ w ∈ [u_lay "UnitThreads$Board" T_Bo 0, u_lay "UnitThreads$Board" T_Bo 1, u_lay "UnitThreads$Board" T_Bo 2, u_lay "UnitThreads$Board" T_Bo 3, u_lay "UnitThreads$Board" T_Bo 4, u_lay "UnitThreads$Board" T_Bo 5], w ∈ zW
  exact List.forall_mem_cons.mpr ⟨w_154, List.forall_mem_cons.mpr ⟨w_156, List.forall_mem_cons.mpr ⟨w_158, List.forall_mem_cons.mpr ⟨w_160, List.forall_mem_cons.mpr ⟨w_162, List.forall_mem_cons.mpr ⟨w_164, fun _ h => absurd h List.not_mem_nil⟩⟩⟩⟩⟩⟩
theorem in_Ut : ∀ w ∈ u_ws "UnitThreads" T_Ut 7, w ∈ zW := by
  show ∀ w ∈ [u_lay "UnitThreads" T_Ut 0, u_lay "UnitThreads" T_Ut 1, u_lay "UnitThreads" T_Ut 2, u_lay "UnitThreads" T_Ut 3, u_lay "UnitThreads" T_Ut 4, u_lay "UnitThreads" T_Ut 5, u_lay "UnitThreads" T_Ut 6], w ∈ zW
  exact List.forall_mem_cons.mpr ⟨w_174, List.forall_mem_cons.mpr ⟨w_176, List.forall_mem_cons.mpr ⟨w_178, List.forall_mem_cons.mpr ⟨w_180, List.forall_mem_cons.mpr ⟨w_182, List.forall_mem_cons.mpr ⟨w_184, List.forall_mem_cons.mpr ⟨w_186, fun _ h => absurd h List.not_mem_nil⟩⟩⟩⟩⟩⟩⟩
theorem in_Mo : ∀ w ∈ u_ws "UnitThreadsModel" T_Mo 26, w ∈ zW := by
  show ∀ w ∈ [u_lay "UnitThreadsModel" T_Mo 0, u_lay "UnitThreadsModel" T_Mo 1, u_lay "UnitThreadsModel" T_Mo 2, u_lay "UnitThreadsModel" T_Mo 3, u_lay "UnitThreadsModel" T_Mo 4, u_lay "UnitThreadsModel" T_Mo 5, u_lay "UnitThreadsModel" T_Mo 6, u_lay "UnitThreadsModel" T_Mo 7, u_lay "UnitThreadsModel" T_Mo 8, u_lay "UnitThreadsModel" T_Mo 9, u_lay "UnitThreadsModel" T_Mo 10, u_lay "UnitThreadsModel" T_Mo 11, u_lay "UnitThreadsModel" T_Mo 12, u_lay "UnitThreadsModel" T_Mo 13, u_lay "UnitThreadsModel" T_Mo 14, u_lay "UnitThreadsModel" T_Mo 15, u_lay "UnitThreadsModel" T_Mo 16, u_lay "UnitThreadsModel" T_Mo 17, u_lay "UnitThreadsModel" T_Mo 18, u_lay "UnitThreadsModel" T_Mo 19, u_lay "UnitThreadsModel" T_Mo 20, u_lay "UnitThreadsModel" T_Mo 21, u_lay "UnitThreadsModel" T_Mo 22, u_lay "UnitThreadsModel" T_Mo 23, u_lay "UnitThreadsModel" T_Mo 24, u_lay "UnitThreadsModel" T_Mo 25], w ∈ zW
  exact List.forall_mem_cons.mpr ⟨w_434, List.forall_mem_cons.mpr ⟨w_436, List.forall_mem_cons.mpr ⟨w_438, List.forall_mem_cons.mpr ⟨w_440, List.forall_mem_cons.mpr ⟨w_442, List.forall_mem_cons.mpr ⟨w_444, List.forall_mem_cons.mpr ⟨w_446, List.forall_mem_cons.mpr ⟨w_448, List.forall_mem_cons.mpr ⟨w_450, List.forall_mem_cons.mpr ⟨w_452, List.forall_mem_cons.mpr ⟨w_454, List.forall_mem_cons.mpr ⟨w_456, List.forall_mem_cons.mpr ⟨w_458, List.forall_mem_cons.mpr ⟨w_460, List.forall_mem_cons.mpr ⟨w_462, List.forall_mem_cons.mpr ⟨w_464, List.forall_mem_cons.mpr ⟨w_466, List.forall_mem_cons.mpr ⟨w_468, List.forall_mem_cons.mpr ⟨w_470, List.forall_mem_cons.mpr ⟨w_472, List.forall_mem_cons.mpr ⟨w_474, List.forall_mem_cons.mpr ⟨w_476, List.forall_mem_cons.mpr ⟨w_478, List.forall_mem_cons.mpr ⟨w_480, List.forall_mem_cons.mpr ⟨w_482, List.forall_mem_cons.mpr ⟨w_484, fun _ h => absurd h List.not_mem_nil⟩⟩⟩⟩⟩⟩⟩⟩⟩⟩⟩⟩⟩⟩⟩⟩⟩⟩⟩⟩⟩⟩⟩⟩⟩⟩
end
section
theorem d_Un_init_0 : decode prog_6_method_1_code 0 = .ok (.aload_n 0, 1) := by decide +kernel
theorem d_Un_init_1 : decode prog_6_method_1_code 1 = .ok (.invokespecial 3, 3) := by decide +kernel
theorem d_Un_init_4 : decode prog_6_method_1_code 4 = .ok (.aload_n 0, 1) := by decide +kernel
theorem d_Un_init_5 : decode prog_6_method_1_code 5 = .ok (.iconst 0, 1) := by decide +kernel
theorem d_Un_init_6 : decode prog_6_method_1_code 6 = .ok (.putfield 9, 3) := by decide +kernel
theorem d_Un_init_9 : decode prog_6_method_1_code 9 = .ok (.aload_n 0, 1) := by decide +kernel
theorem d_Un_init_10 : decode prog_6_method_1_code 10 = .ok (.iconst (-1), 1) := by decide +kernel
theorem d_Un_init_11 : decode prog_6_method_1_code 11 = .ok (.putfield 15, 3) := by decide +kernel
theorem d_Un_init_14 : decode prog_6_method_1_code 14 = .ok (.aload_n 0, 1) := by decide +kernel
theorem d_Un_init_15 : decode prog_6_method_1_code 15 = .ok (.iconst 0, 1) := by decide +kernel
theorem d_Un_init_16 : decode prog_6_method_1_code 16 = .ok (.putfield 18, 3) := by decide +kernel
theorem d_Un_init_19 : decode prog_6_method_1_code 19 = .ok (.aload_n 0, 1) := by decide +kernel
theorem d_Un_init_20 : decode prog_6_method_1_code 20 = .ok (.iconst (-1), 1) := by decide +kernel
theorem d_Un_init_21 : decode prog_6_method_1_code 21 = .ok (.putfield 21, 3) := by decide +kernel
theorem d_Un_init_24 : decode prog_6_method_1_code 24 = .ok (.aload_n 0, 1) := by decide +kernel
theorem d_Un_init_25 : decode prog_6_method_1_code 25 = .ok (.iconst (-1), 1) := by decide +kernel
theorem d_Un_init_26 : decode prog_6_method_1_code 26 = .ok (.putfield 24, 3) := by decide +kernel
theorem d_Un_init_29 : decode prog_6_method_1_code 29 = .ok (.aload_n 0, 1) := by decide +kernel
theorem d_Un_init_30 : decode prog_6_method_1_code 30 = .ok (.iconst 0, 1) := by decide +kernel
theorem d_Un_init_31 : decode prog_6_method_1_code 31 = .ok (.putfield 27, 3) := by decide +kernel
theorem d_Un_init_34 : decode prog_6_method_1_code 34 = .ok (.aload_n 0, 1) := by decide +kernel
theorem d_Un_init_35 : decode prog_6_method_1_code 35 = .ok (.iconst 0, 1) := by decide +kernel
theorem d_Un_init_36 : decode prog_6_method_1_code 36 = .ok (.putfield 30, 3) := by decide +kernel
theorem d_Un_init_39 : decode prog_6_method_1_code 39 = .ok (.aload_n 0, 1) := by decide +kernel
theorem d_Un_init_40 : decode prog_6_method_1_code 40 = .ok (.iconst (-1), 1) := by decide +kernel
theorem d_Un_init_41 : decode prog_6_method_1_code 41 = .ok (.putfield 33, 3) := by decide +kernel
theorem d_Un_init_44 : decode prog_6_method_1_code 44 = .ok (.return_, 1) := by decide +kernel
theorem d_Un_hasEnded_0 : decode prog_6_method_2_code 0 = .ok (.aload_n 0, 1) := by decide +kernel
theorem d_Un_hasEnded_1 : decode prog_6_method_2_code 1 = .ok (.getfield 9, 3) := by decide +kernel
theorem d_Un_hasEnded_4 : decode prog_6_method_2_code 4 = .ok (.aload_n 0, 1) := by decide +kernel
theorem d_Un_hasEnded_5 : decode prog_6_method_2_code 5 = .ok (.getfield 15, 3) := by decide +kernel
theorem d_Un_hasEnded_8 : decode prog_6_method_2_code 8 = .ok (.if_icmp .le 7, 3) := by decide +kernel
theorem d_Un_hasEnded_11 : decode prog_6_method_2_code 11 = .ok (.iconst 1, 1) := by decide +kernel
theorem d_Un_hasEnded_12 : decode prog_6_method_2_code 12 = .ok (.goto 4, 3) := by decide +kernel
theorem d_Un_hasEnded_15 : decode prog_6_method_2_code 15 = .ok (.iconst 0, 1) := by decide +kernel
theorem d_Un_hasEnded_16 : decode prog_6_method_2_code 16 = .ok (.ireturn, 1) := by decide +kernel
theorem d_Un_acts_0 : decode prog_6_method_3_code 0 = .ok (.aload_n 0, 1) := by decide +kernel
theorem d_Un_acts_1 : decode prog_6_method_3_code 1 = .ok (.getfield 18, 3) := by decide +kernel
theorem d_Un_acts_4 : decode prog_6_method_3_code 4 = .ok (.iconst 2, 1) := by decide +kernel
theorem d_Un_acts_5 : decode prog_6_method_3_code 5 = .ok (.if_icmp .eq 14, 3) := by decide +kernel
theorem d_Un_acts_8 : decode prog_6_method_3_code 8 = .ok (.aload_n 0, 1) := by decide +kernel
theorem d_Un_acts_9 : decode prog_6_method_3_code 9 = .ok (.invokevirtual 36, 3) := by decide +kernel
theorem d_Un_acts_12 : decode prog_6_method_3_code 12 = .ok (.ifCond .ne 7, 3) := by decide +kernel
theorem d_Un_acts_15 : decode prog_6_method_3_code 15 = .ok (.iconst 1, 1) := by decide +kernel
theorem d_Un_acts_16 : decode prog_6_method_3_code 16 = .ok (.goto 4, 3) := by decide +kernel
theorem d_Un_acts_19 : decode prog_6_method_3_code 19 = .ok (.iconst 0, 1) := by decide +kernel
theorem d_Un_acts_20 : decode prog_6_method_3_code 20 = .ok (.ireturn, 1) := by decide +kernel
theorem d_Un_asked_0 : decode prog_6_method_4_code 0 = .ok (.aload_n 0, 1) := by decide +kernel
theorem d_Un_asked_1 : decode prog_6_method_4_code 1 = .ok (.getfield 27, 3) := by decide +kernel
theorem d_Un_asked_4 : decode prog_6_method_4_code 4 = .ok (.aload_n 0, 1) := by decide +kernel
theorem d_Un_asked_5 : decode prog_6_method_4_code 5 = .ok (.getfield 30, 3) := by decide +kernel
theorem d_Un_asked_8 : decode prog_6_method_4_code 8 = .ok (.iconst (-1), 1) := by decide +kernel
theorem d_Un_asked_9 : decode prog_6_method_4_code 9 = .ok (.ixor, 1) := by decide +kernel
theorem d_Un_asked_10 : decode prog_6_method_4_code 10 = .ok (.iand, 1) := by decide +kernel
theorem d_Un_asked_11 : decode prog_6_method_4_code 11 = .ok (.ireturn, 1) := by decide +kernel
theorem d_Un_given_0 : decode prog_6_method_5_code 0 = .ok (.aload_n 0, 1) := by decide +kernel
theorem d_Un_given_1 : decode prog_6_method_5_code 1 = .ok (.getfield 27, 3) := by decide +kernel
theorem d_Un_given_4 : decode prog_6_method_5_code 4 = .ok (.aload_n 0, 1) := by decide +kernel
theorem d_Un_given_5 : decode prog_6_method_5_code 5 = .ok (.getfield 30, 3) := by decide +kernel
theorem d_Un_given_8 : decode prog_6_method_5_code 8 = .ok (.iand, 1) := by decide +kernel
theorem d_Un_given_9 : decode prog_6_method_5_code 9 = .ok (.ireturn, 1) := by decide +kernel
theorem d_En_init_0 : decode prog_3_method_1_code 0 = .ok (.aload_n 0, 1) := by decide +kernel
theorem d_En_init_1 : decode prog_3_method_1_code 1 = .ok (.invokespecial 3, 3) := by decide +kernel
theorem d_En_init_4 : decode prog_3_method_1_code 4 = .ok (.aload_n 0, 1) := by decide +kernel
theorem d_En_init_5 : decode prog_3_method_1_code 5 = .ok (.sipush 300, 3) := by decide +kernel
theorem d_En_init_8 : decode prog_3_method_1_code 8 = .ok (.newarray .int, 2) := by decide +kernel
theorem d_En_init_10 : decode prog_3_method_1_code 10 = .ok (.putfield 9, 3) := by decide +kernel
theorem d_En_init_13 : decode prog_3_method_1_code 13 = .ok (.aload_n 0, 1) := by decide +kernel
theorem d_En_init_14 : decode prog_3_method_1_code 14 = .ok (.sipush 300, 3) := by decide +kernel
theorem d_En_init_17 : decode prog_3_method_1_code 17 = .ok (.newarray .int, 2) := by decide +kernel
theorem d_En_init_19 : decode prog_3_method_1_code 19 = .ok (.putfield 15, 3) := by decide +kernel
theorem d_En_init_22 : decode prog_3_method_1_code 22 = .ok (.aload_n 0, 1) := by decide +kernel
theorem d_En_init_23 : decode prog_3_method_1_code 23 = .ok (.sipush 300, 3) := by decide +kernel
theorem d_En_init_26 : decode prog_3_method_1_code 26 = .ok (.newarray .int, 2) := by decide +kernel
theorem d_En_init_28 : decode prog_3_method_1_code 28 = .ok (.putfield 18, 3) := by decide +kernel
theorem d_En_init_31 : decode prog_3_method_1_code 31 = .ok (.aload_n 0, 1) := by decide +kernel
theorem d_En_init_32 : decode prog_3_method_1_code 32 = .ok (.sipush 300, 3) := by decide +kernel
theorem d_En_init_35 : decode prog_3_method_1_code 35 = .ok (.newarray .int, 2) := by decide +kernel
theorem d_En_init_37 : decode prog_3_method_1_code 37 = .ok (.putfield 21, 3) := by decide +kernel
theorem d_En_init_40 : decode prog_3_method_1_code 40 = .ok (.aload_n 0, 1) := by decide +kernel
theorem d_En_init_41 : decode prog_3_method_1_code 41 = .ok (.sipush 300, 3) := by decide +kernel
theorem d_En_init_44 : decode prog_3_method_1_code 44 = .ok (.newarray .long, 2) := by decide +kernel
theorem d_En_init_46 : decode prog_3_method_1_code 46 = .ok (.putfield 24, 3) := by decide +kernel
theorem d_En_init_49 : decode prog_3_method_1_code 49 = .ok (.aload_n 0, 1) := by decide +kernel
theorem d_En_init_50 : decode prog_3_method_1_code 50 = .ok (.iconst 0, 1) := by decide +kernel
theorem d_En_init_51 : decode prog_3_method_1_code 51 = .ok (.putfield 28, 3) := by decide +kernel
theorem d_En_init_54 : decode prog_3_method_1_code 54 = .ok (.return_, 1) := by decide +kernel
theorem d_En_add_0 : decode prog_3_method_2_code 0 = .ok (.aload_n 0, 1) := by decide +kernel
theorem d_En_add_1 : decode prog_3_method_2_code 1 = .ok (.getfield 28, 3) := by decide +kernel
theorem d_En_add_4 : decode prog_3_method_2_code 4 = .ok (.sipush 300, 3) := by decide +kernel
theorem d_En_add_7 : decode prog_3_method_2_code 7 = .ok (.if_icmp .lt 4, 3) := by decide +kernel
theorem d_En_add_10 : decode prog_3_method_2_code 10 = .ok (.return_, 1) := by decide +kernel
theorem d_En_add_11 : decode prog_3_method_2_code 11 = .ok (.aload_n 0, 1) := by decide +kernel
theorem d_En_add_12 : decode prog_3_method_2_code 12 = .ok (.getfield 9, 3) := by decide +kernel
theorem d_En_add_15 : decode prog_3_method_2_code 15 = .ok (.aload_n 0, 1) := by decide +kernel
theorem d_En_add_16 : decode prog_3_method_2_code 16 = .ok (.getfield 28, 3) := by decide +kernel
theorem d_En_add_19 : decode prog_3_method_2_code 19 = .ok (.iload_n 1, 1) := by decide +kernel
theorem d_En_add_20 : decode prog_3_method_2_code 20 = .ok (.iastore, 1) := by decide +kernel
theorem d_En_add_21 : decode prog_3_method_2_code 21 = .ok (.aload_n 0, 1) := by decide +kernel
theorem d_En_add_22 : decode prog_3_method_2_code 22 = .ok (.getfield 15, 3) := by decide +kernel
theorem d_En_add_25 : decode prog_3_method_2_code 25 = .ok (.aload_n 0, 1) := by decide +kernel
theorem d_En_add_26 : decode prog_3_method_2_code 26 = .ok (.getfield 28, 3) := by decide +kernel
theorem d_En_add_29 : decode prog_3_method_2_code 29 = .ok (.iload_n 2, 1) := by decide +kernel
theorem d_En_add_30 : decode prog_3_method_2_code 30 = .ok (.iastore, 1) := by decide +kernel
theorem d_En_add_31 : decode prog_3_method_2_code 31 = .ok (.aload_n 0, 1) := by decide +kernel
theorem d_En_add_32 : decode prog_3_method_2_code 32 = .ok (.getfield 18, 3) := by decide +kernel
theorem d_En_add_35 : decode prog_3_method_2_code 35 = .ok (.aload_n 0, 1) := by decide +kernel
theorem d_En_add_36 : decode prog_3_method_2_code 36 = .ok (.getfield 28, 3) := by decide +kernel
theorem d_En_add_39 : decode prog_3_method_2_code 39 = .ok (.iload_n 3, 1) := by decide +kernel
theorem d_En_add_40 : decode prog_3_method_2_code 40 = .ok (.iastore, 1) := by decide +kernel
theorem d_En_add_41 : decode prog_3_method_2_code 41 = .ok (.aload_n 0, 1) := by decide +kernel
theorem d_En_add_42 : decode prog_3_method_2_code 42 = .ok (.getfield 21, 3) := by decide +kernel
theorem d_En_add_45 : decode prog_3_method_2_code 45 = .ok (.aload_n 0, 1) := by decide +kernel
theorem d_En_add_46 : decode prog_3_method_2_code 46 = .ok (.getfield 28, 3) := by decide +kernel
theorem d_En_add_49 : decode prog_3_method_2_code 49 = .ok (.iload 4, 2) := by decide +kernel
theorem d_En_add_51 : decode prog_3_method_2_code 51 = .ok (.iastore, 1) := by decide +kernel
theorem d_En_add_52 : decode prog_3_method_2_code 52 = .ok (.aload_n 0, 1) := by decide +kernel
theorem d_En_add_53 : decode prog_3_method_2_code 53 = .ok (.getfield 24, 3) := by decide +kernel
theorem d_En_add_56 : decode prog_3_method_2_code 56 = .ok (.aload_n 0, 1) := by decide +kernel
theorem d_En_add_57 : decode prog_3_method_2_code 57 = .ok (.getfield 28, 3) := by decide +kernel
theorem d_En_add_60 : decode prog_3_method_2_code 60 = .ok (.lload 5, 2) := by decide +kernel
theorem d_En_add_62 : decode prog_3_method_2_code 62 = .ok (.lastore, 1) := by decide +kernel
theorem d_En_add_63 : decode prog_3_method_2_code 63 = .ok (.aload_n 0, 1) := by decide +kernel
theorem d_En_add_64 : decode prog_3_method_2_code 64 = .ok (.dup, 1) := by decide +kernel
theorem d_En_add_65 : decode prog_3_method_2_code 65 = .ok (.getfield 28, 3) := by decide +kernel
theorem d_En_add_68 : decode prog_3_method_2_code 68 = .ok (.iconst 1, 1) := by decide +kernel
theorem d_En_add_69 : decode prog_3_method_2_code 69 = .ok (.iadd, 1) := by decide +kernel
theorem d_En_add_70 : decode prog_3_method_2_code 70 = .ok (.putfield 28, 3) := by decide +kernel
theorem d_En_add_73 : decode prog_3_method_2_code 73 = .ok (.return_, 1) := by decide +kernel
theorem d_En_find_0 : decode prog_3_method_3_code 0 = .ok (.iconst 0, 1) := by decide +kernel
theorem d_En_find_1 : decode prog_3_method_3_code 1 = .ok (.istore 5, 2) := by decide +kernel
theorem d_En_find_3 : decode prog_3_method_3_code 3 = .ok (.iload 5, 2) := by decide +kernel
theorem d_En_find_5 : decode prog_3_method_3_code 5 = .ok (.aload_n 0, 1) := by decide +kernel
theorem d_En_find_6 : decode prog_3_method_3_code 6 = .ok (.getfield 28, 3) := by decide +kernel
theorem d_En_find_9 : decode prog_3_method_3_code 9 = .ok (.if_icmp .ge 57, 3) := by decide +kernel
theorem d_En_find_12 : decode prog_3_method_3_code 12 = .ok (.aload_n 0, 1) := by decide +kernel
theorem d_En_find_13 : decode prog_3_method_3_code 13 = .ok (.getfield 9, 3) := by decide +kernel
theorem d_En_find_16 : decode prog_3_method_3_code 16 = .ok (.iload 5, 2) := by decide +kernel
theorem d_En_find_18 : decode prog_3_method_3_code 18 = .ok (.iaload, 1) := by decide +kernel
theorem d_En_find_19 : decode prog_3_method_3_code 19 = .ok (.iload_n 1, 1) := by decide +kernel
theorem d_En_find_20 : decode prog_3_method_3_code 20 = .ok (.if_icmp .ne 40, 3) := by decide +kernel
theorem d_En_find_23 : decode prog_3_method_3_code 23 = .ok (.aload_n 0, 1) := by decide +kernel
theorem d_En_find_24 : decode prog_3_method_3_code 24 = .ok (.getfield 15, 3) := by decide +kernel
theorem d_En_find_27 : decode prog_3_method_3_code 27 = .ok (.iload 5, 2) := by decide +kernel
theorem d_En_find_29 : decode prog_3_method_3_code 29 = .ok (.iaload, 1) := by decide +kernel
theorem d_En_find_30 : decode prog_3_method_3_code 30 = .ok (.iload_n 2, 1) := by decide +kernel
theorem d_En_find_31 : decode prog_3_method_3_code 31 = .ok (.if_icmp .ne 29, 3) := by decide +kernel
theorem d_En_find_34 : decode prog_3_method_3_code 34 = .ok (.aload_n 0, 1) := by decide +kernel
theorem d_En_find_35 : decode prog_3_method_3_code 35 = .ok (.getfield 18, 3) := by decide +kernel
theorem d_En_find_38 : decode prog_3_method_3_code 38 = .ok (.iload 5, 2) := by decide +kernel
theorem d_En_find_40 : decode prog_3_method_3_code 40 = .ok (.iaload, 1) := by decide +kernel
theorem d_En_find_41 : decode prog_3_method_3_code 41 = .ok (.iload_n 3, 1) := by decide +kernel
theorem d_En_find_42 : decode prog_3_method_3_code 42 = .ok (.if_icmp .ne 18, 3) := by decide +kernel
theorem d_En_find_45 : decode prog_3_method_3_code 45 = .ok (.aload_n 0, 1) := by decide +kernel
theorem d_En_find_46 : decode prog_3_method_3_code 46 = .ok (.getfield 21, 3) := by decide +kernel
theorem d_En_find_49 : decode prog_3_method_3_code 49 = .ok (.iload 5, 2) := by decide +kernel
theorem d_En_find_51 : decode prog_3_method_3_code 51 = .ok (.iaload, 1) := by decide +kernel
theorem d_En_find_52 : decode prog_3_method_3_code 52 = .ok (.iload 4, 2) := by decide +kernel
theorem d_En_find_54 : decode prog_3_method_3_code 54 = .ok (.if_icmp .ne 6, 3) := by decide +kernel
theorem d_En_find_57 : decode prog_3_method_3_code 57 = .ok (.iload 5, 2) := by decide +kernel
theorem d_En_find_59 : decode prog_3_method_3_code 59 = .ok (.ireturn, 1) := by decide +kernel
theorem d_En_find_60 : decode prog_3_method_3_code 60 = .ok (.iinc 5 1, 3) := by decide +kernel
theorem d_En_find_63 : decode prog_3_method_3_code 63 = .ok (.goto (-60), 3) := by decide +kernel
theorem d_En_find_66 : decode prog_3_method_3_code 66 = .ok (.iconst (-1), 1) := by decide +kernel
theorem d_En_find_67 : decode prog_3_method_3_code 67 = .ok (.ireturn, 1) := by decide +kernel
theorem d_En_markThrown_0 : decode prog_3_method_4_code 0 = .ok (.iload_n 1, 1) := by decide +kernel
theorem d_En_markThrown_1 : decode prog_3_method_4_code 1 = .ok (.ifCond .lt 18, 3) := by decide +kernel
theorem d_En_markThrown_4 : decode prog_3_method_4_code 4 = .ok (.iload_n 1, 1) := by decide +kernel
theorem d_En_markThrown_5 : decode prog_3_method_4_code 5 = .ok (.aload_n 0, 1) := by decide +kernel
theorem d_En_markThrown_6 : decode prog_3_method_4_code 6 = .ok (.getfield 28, 3) := by decide +kernel
theorem d_En_markThrown_9 : decode prog_3_method_4_code 9 = .ok (.if_icmp .ge 10, 3) := by decide +kernel
theorem d_En_markThrown_12 : decode prog_3_method_4_code 12 = .ok (.aload_n 0, 1) := by decide +kernel
theorem d_En_markThrown_13 : decode prog_3_method_4_code 13 = .ok (.getfield 9, 3) := by decide +kernel
theorem d_En_markThrown_16 : decode prog_3_method_4_code 16 = .ok (.iload_n 1, 1) := by decide +kernel
theorem d_En_markThrown_17 : decode prog_3_method_4_code 17 = .ok (.iconst 3, 1) := by decide +kernel
theorem d_En_markThrown_18 : decode prog_3_method_4_code 18 = .ok (.iastore, 1) := by decide +kernel
theorem d_En_markThrown_19 : decode prog_3_method_4_code 19 = .ok (.return_, 1) := by decide +kernel
theorem d_En_brief_0 : decode prog_3_method_5_code 0 = .ok (.iconst 0, 1) := by decide +kernel
theorem d_En_brief_1 : decode prog_3_method_5_code 1 = .ok (.istore_n 2, 1) := by decide +kernel
theorem d_En_brief_2 : decode prog_3_method_5_code 2 = .ok (.iload_n 2, 1) := by decide +kernel
theorem d_En_brief_3 : decode prog_3_method_5_code 3 = .ok (.aload_n 1, 1) := by decide +kernel
theorem d_En_brief_4 : decode prog_3_method_5_code 4 = .ok (.arraylength, 1) := by decide +kernel
theorem d_En_brief_5 : decode prog_3_method_5_code 5 = .ok (.if_icmp .ge 30, 3) := by decide +kernel
theorem d_En_brief_8 : decode prog_3_method_5_code 8 = .ok (.aload_n 1, 1) := by decide +kernel
theorem d_En_brief_9 : decode prog_3_method_5_code 9 = .ok (.iload_n 2, 1) := by decide +kernel
theorem d_En_brief_10 : decode prog_3_method_5_code 10 = .ok (.aaload, 1) := by decide +kernel
theorem d_En_brief_11 : decode prog_3_method_5_code 11 = .ok (.iconst (-1), 1) := by decide +kernel
theorem d_En_brief_12 : decode prog_3_method_5_code 12 = .ok (.putfield 32, 3) := by decide +kernel
theorem d_En_brief_15 : decode prog_3_method_5_code 15 = .ok (.aload_n 1, 1) := by decide +kernel
theorem d_En_brief_16 : decode prog_3_method_5_code 16 = .ok (.iload_n 2, 1) := by decide +kernel
theorem d_En_brief_17 : decode prog_3_method_5_code 17 = .ok (.aaload, 1) := by decide +kernel
theorem d_En_brief_18 : decode prog_3_method_5_code 18 = .ok (.iconst 0, 1) := by decide +kernel
theorem d_En_brief_19 : decode prog_3_method_5_code 19 = .ok (.putfield 37, 3) := by decide +kernel
theorem d_En_brief_22 : decode prog_3_method_5_code 22 = .ok (.aload_n 1, 1) := by decide +kernel
theorem d_En_brief_23 : decode prog_3_method_5_code 23 = .ok (.iload_n 2, 1) := by decide +kernel
theorem d_En_brief_24 : decode prog_3_method_5_code 24 = .ok (.aaload, 1) := by decide +kernel
theorem d_En_brief_25 : decode prog_3_method_5_code 25 = .ok (.iconst 0, 1) := by decide +kernel
theorem d_En_brief_26 : decode prog_3_method_5_code 26 = .ok (.putfield 40, 3) := by decide +kernel
theorem d_En_brief_29 : decode prog_3_method_5_code 29 = .ok (.iinc 2 1, 3) := by decide +kernel
theorem d_En_brief_32 : decode prog_3_method_5_code 32 = .ok (.goto (-30), 3) := by decide +kernel
theorem d_En_brief_35 : decode prog_3_method_5_code 35 = .ok (.iconst 0, 1) := by decide +kernel
theorem d_En_brief_36 : decode prog_3_method_5_code 36 = .ok (.istore_n 2, 1) := by decide +kernel
theorem d_En_brief_37 : decode prog_3_method_5_code 37 = .ok (.iload_n 2, 1) := by decide +kernel
theorem d_En_brief_38 : decode prog_3_method_5_code 38 = .ok (.aload_n 0, 1) := by decide +kernel
theorem d_En_brief_39 : decode prog_3_method_5_code 39 = .ok (.getfield 28, 3) := by decide +kernel
theorem d_En_brief_42 : decode prog_3_method_5_code 42 = .ok (.if_icmp .ge 136, 3) := by decide +kernel
theorem d_En_brief_45 : decode prog_3_method_5_code 45 = .ok (.aload_n 1, 1) := by decide +kernel
theorem d_En_brief_46 : decode prog_3_method_5_code 46 = .ok (.aload_n 0, 1) := by decide +kernel
theorem d_En_brief_47 : decode prog_3_method_5_code 47 = .ok (.getfield 15, 3) := by decide +kernel
theorem d_En_brief_50 : decode prog_3_method_5_code 50 = .ok (.iload_n 2, 1) := by decide +kernel
theorem d_En_brief_51 : decode prog_3_method_5_code 51 = .ok (.iaload, 1) := by decide +kernel
theorem d_En_brief_52 : decode prog_3_method_5_code 52 = .ok (.aaload, 1) := by decide +kernel
theorem d_En_brief_53 : decode prog_3_method_5_code 53 = .ok (.astore_n 3, 1) := by decide +kernel
theorem d_En_brief_54 : decode prog_3_method_5_code 54 = .ok (.aload_n 0, 1) := by decide +kernel
theorem d_En_brief_55 : decode prog_3_method_5_code 55 = .ok (.getfield 18, 3) := by decide +kernel
theorem d_En_brief_58 : decode prog_3_method_5_code 58 = .ok (.iload_n 2, 1) := by decide +kernel
theorem d_En_brief_59 : decode prog_3_method_5_code 59 = .ok (.iaload, 1) := by decide +kernel
theorem d_En_brief_60 : decode prog_3_method_5_code 60 = .ok (.aload_n 3, 1) := by decide +kernel
theorem d_En_brief_61 : decode prog_3_method_5_code 61 = .ok (.getfield 43, 3) := by decide +kernel
theorem d_En_brief_64 : decode prog_3_method_5_code 64 = .ok (.if_icmp .ne 7, 3) := by decide +kernel
theorem d_En_brief_67 : decode prog_3_method_5_code 67 = .ok (.iconst 1, 1) := by decide +kernel
theorem d_En_brief_68 : decode prog_3_method_5_code 68 = .ok (.goto 4, 3) := by decide +kernel
theorem d_En_brief_71 : decode prog_3_method_5_code 71 = .ok (.iconst 0, 1) := by decide +kernel
theorem d_En_brief_72 : decode prog_3_method_5_code 72 = .ok (.istore 4, 2) := by decide +kernel
theorem d_En_brief_74 : decode prog_3_method_5_code 74 = .ok (.aload_n 0, 1) := by decide +kernel
theorem d_En_brief_75 : decode prog_3_method_5_code 75 = .ok (.getfield 9, 3) := by decide +kernel
theorem d_En_brief_78 : decode prog_3_method_5_code 78 = .ok (.iload_n 2, 1) := by decide +kernel
theorem d_En_brief_79 : decode prog_3_method_5_code 79 = .ok (.iaload, 1) := by decide +kernel
theorem d_En_brief_80 : decode prog_3_method_5_code 80 = .ok (.iconst 2, 1) := by decide +kernel
theorem d_En_brief_81 : decode prog_3_method_5_code 81 = .ok (.if_icmp .ne 16, 3) := by decide +kernel
theorem d_En_brief_84 : decode prog_3_method_5_code 84 = .ok (.iload 4, 2) := by decide +kernel
theorem d_En_brief_86 : decode prog_3_method_5_code 86 = .ok (.ifCond .eq 11, 3) := by decide +kernel
theorem d_En_brief_89 : decode prog_3_method_5_code 89 = .ok (.aload_n 3, 1) := by decide +kernel
theorem d_En_brief_90 : decode prog_3_method_5_code 90 = .ok (.iload_n 2, 1) := by decide +kernel
theorem d_En_brief_91 : decode prog_3_method_5_code 91 = .ok (.putfield 32, 3) := by decide +kernel
theorem d_En_brief_94 : decode prog_3_method_5_code 94 = .ok (.goto 78, 3) := by decide +kernel
theorem d_En_brief_97 : decode prog_3_method_5_code 97 = .ok (.aload_n 0, 1) := by decide +kernel
theorem d_En_brief_98 : decode prog_3_method_5_code 98 = .ok (.getfield 9, 3) := by decide +kernel
theorem d_En_brief_101 : decode prog_3_method_5_code 101 = .ok (.iload_n 2, 1) := by decide +kernel
theorem d_En_brief_102 : decode prog_3_method_5_code 102 = .ok (.iaload, 1) := by decide +kernel
theorem d_En_brief_103 : decode prog_3_method_5_code 103 = .ok (.iconst 1, 1) := by decide +kernel
theorem d_En_brief_104 : decode prog_3_method_5_code 104 = .ok (.if_icmp .ne 28, 3) := by decide +kernel
theorem d_En_brief_107 : decode prog_3_method_5_code 107 = .ok (.iload 4, 2) := by decide +kernel
theorem d_En_brief_109 : decode prog_3_method_5_code 109 = .ok (.ifCond .eq 23, 3) := by decide +kernel
theorem d_En_brief_112 : decode prog_3_method_5_code 112 = .ok (.aload_n 3, 1) := by decide +kernel
theorem d_En_brief_113 : decode prog_3_method_5_code 113 = .ok (.dup, 1) := by decide +kernel
theorem d_En_brief_114 : decode prog_3_method_5_code 114 = .ok (.getfield 37, 3) := by decide +kernel
theorem d_En_brief_117 : decode prog_3_method_5_code 117 = .ok (.iconst 1, 1) := by decide +kernel
theorem d_En_brief_118 : decode prog_3_method_5_code 118 = .ok (.aload_n 0, 1) := by decide +kernel
theorem d_En_brief_119 : decode prog_3_method_5_code 119 = .ok (.getfield 21, 3) := by decide +kernel
theorem d_En_brief_122 : decode prog_3_method_5_code 122 = .ok (.iload_n 2, 1) := by decide +kernel
theorem d_En_brief_123 : decode prog_3_method_5_code 123 = .ok (.iaload, 1) := by decide +kernel
theorem d_En_brief_124 : decode prog_3_method_5_code 124 = .ok (.ishl, 1) := by decide +kernel
theorem d_En_brief_125 : decode prog_3_method_5_code 125 = .ok (.ior, 1) := by decide +kernel
theorem d_En_brief_126 : decode prog_3_method_5_code 126 = .ok (.putfield 37, 3) := by decide +kernel
theorem d_En_brief_129 : decode prog_3_method_5_code 129 = .ok (.goto 43, 3) := by decide +kernel
theorem d_En_brief_132 : decode prog_3_method_5_code 132 = .ok (.aload_n 0, 1) := by decide +kernel
theorem d_En_brief_133 : decode prog_3_method_5_code 133 = .ok (.getfield 9, 3) := by decide +kernel
theorem d_En_brief_136 : decode prog_3_method_5_code 136 = .ok (.iload_n 2, 1) := by decide +kernel
theorem d_En_brief_137 : decode prog_3_method_5_code 137 = .ok (.iaload, 1) := by decide +kernel
theorem d_En_brief_138 : decode prog_3_method_5_code 138 = .ok (.iconst 1, 1) := by decide +kernel
theorem d_En_brief_139 : decode prog_3_method_5_code 139 = .ok (.if_icmp .ne 33, 3) := by decide +kernel
theorem d_En_brief_142 : decode prog_3_method_5_code 142 = .ok (.aload_n 0, 1) := by decide +kernel
theorem d_En_brief_143 : decode prog_3_method_5_code 143 = .ok (.getfield 18, 3) := by decide +kernel
theorem d_En_brief_146 : decode prog_3_method_5_code 146 = .ok (.iload_n 2, 1) := by decide +kernel
theorem d_En_brief_147 : decode prog_3_method_5_code 147 = .ok (.iaload, 1) := by decide +kernel
theorem d_En_brief_148 : decode prog_3_method_5_code 148 = .ok (.aload_n 3, 1) := by decide +kernel
theorem d_En_brief_149 : decode prog_3_method_5_code 149 = .ok (.getfield 43, 3) := by decide +kernel
theorem d_En_brief_152 : decode prog_3_method_5_code 152 = .ok (.if_icmp .ge 20, 3) := by decide +kernel
theorem d_En_brief_155 : decode prog_3_method_5_code 155 = .ok (.aload_n 3, 1) := by decide +kernel
theorem d_En_brief_156 : decode prog_3_method_5_code 156 = .ok (.dup, 1) := by decide +kernel
theorem d_En_brief_157 : decode prog_3_method_5_code 157 = .ok (.getfield 40, 3) := by decide +kernel
theorem d_En_brief_160 : decode prog_3_method_5_code 160 = .ok (.iconst 1, 1) := by decide +kernel
theorem d_En_brief_161 : decode prog_3_method_5_code 161 = .ok (.aload_n 0, 1) := by decide +kernel
theorem d_En_brief_162 : decode prog_3_method_5_code 162 = .ok (.getfield 21, 3) := by decide +kernel
theorem d_En_brief_165 : decode prog_3_method_5_code 165 = .ok (.iload_n 2, 1) := by decide +kernel
theorem d_En_brief_166 : decode prog_3_method_5_code 166 = .ok (.iaload, 1) := by decide +kernel
theorem d_En_brief_167 : decode prog_3_method_5_code 167 = .ok (.ishl, 1) := by decide +kernel
theorem d_En_brief_168 : decode prog_3_method_5_code 168 = .ok (.ixor, 1) := by decide +kernel
theorem d_En_brief_169 : decode prog_3_method_5_code 169 = .ok (.putfield 40, 3) := by decide +kernel
theorem d_En_brief_172 : decode prog_3_method_5_code 172 = .ok (.iinc 2 1, 3) := by decide +kernel
theorem d_En_brief_175 : decode prog_3_method_5_code 175 = .ok (.goto (-138), 3) := by decide +kernel
theorem d_En_brief_178 : decode prog_3_method_5_code 178 = .ok (.return_, 1) := by decide +kernel
theorem d_En_doSteps_0 : decode prog_3_method_6_code 0 = .ok (.iconst 0, 1) := by decide +kernel
theorem d_En_doSteps_1 : decode prog_3_method_6_code 1 = .ok (.istore_n 3, 1) := by decide +kernel
theorem d_En_doSteps_2 : decode prog_3_method_6_code 2 = .ok (.iload_n 3, 1) := by decide +kernel
theorem d_En_doSteps_3 : decode prog_3_method_6_code 3 = .ok (.aload_n 0, 1) := by decide +kernel
theorem d_En_doSteps_4 : decode prog_3_method_6_code 4 = .ok (.getfield 28, 3) := by decide +kernel
theorem d_En_doSteps_7 : decode prog_3_method_6_code 7 = .ok (.if_icmp .ge 64, 3) := by decide +kernel
theorem d_En_doSteps_10 : decode prog_3_method_6_code 10 = .ok (.aload_n 1, 1) := by decide +kernel
theorem d_En_doSteps_11 : decode prog_3_method_6_code 11 = .ok (.aload_n 0, 1) := by decide +kernel
theorem d_En_doSteps_12 : decode prog_3_method_6_code 12 = .ok (.getfield 15, 3) := by decide +kernel
theorem d_En_doSteps_15 : decode prog_3_method_6_code 15 = .ok (.iload_n 3, 1) := by decide +kernel
theorem d_En_doSteps_16 : decode prog_3_method_6_code 16 = .ok (.iaload, 1) := by decide +kernel
theorem d_En_doSteps_17 : decode prog_3_method_6_code 17 = .ok (.aaload, 1) := by decide +kernel
theorem d_En_doSteps_18 : decode prog_3_method_6_code 18 = .ok (.astore 4, 2) := by decide +kernel
theorem d_En_doSteps_20 : decode prog_3_method_6_code 20 = .ok (.aload_n 0, 1) := by decide +kernel
theorem d_En_doSteps_21 : decode prog_3_method_6_code 21 = .ok (.getfield 9, 3) := by decide +kernel
theorem d_En_doSteps_24 : decode prog_3_method_6_code 24 = .ok (.iload_n 3, 1) := by decide +kernel
theorem d_En_doSteps_25 : decode prog_3_method_6_code 25 = .ok (.iaload, 1) := by decide +kernel
theorem d_En_doSteps_26 : decode prog_3_method_6_code 26 = .ok (.ifCond .ne 39, 3) := by decide +kernel
theorem d_En_doSteps_29 : decode prog_3_method_6_code 29 = .ok (.aload 4, 2) := by decide +kernel
theorem d_En_doSteps_31 : decode prog_3_method_6_code 31 = .ok (.getfield 46, 3) := by decide +kernel
theorem d_En_doSteps_34 : decode prog_3_method_6_code 34 = .ok (.ifCond .ne 31, 3) := by decide +kernel
theorem d_En_doSteps_37 : decode prog_3_method_6_code 37 = .ok (.aload_n 0, 1) := by decide +kernel
theorem d_En_doSteps_38 : decode prog_3_method_6_code 38 = .ok (.getfield 18, 3) := by decide +kernel
theorem d_En_doSteps_41 : decode prog_3_method_6_code 41 = .ok (.iload_n 3, 1) := by decide +kernel
theorem d_En_doSteps_42 : decode prog_3_method_6_code 42 = .ok (.iaload, 1) := by decide +kernel
theorem d_En_doSteps_43 : decode prog_3_method_6_code 43 = .ok (.aload 4, 2) := by decide +kernel
theorem d_En_doSteps_45 : decode prog_3_method_6_code 45 = .ok (.getfield 43, 3) := by decide +kernel
theorem d_En_doSteps_48 : decode prog_3_method_6_code 48 = .ok (.if_icmp .ne 17, 3) := by decide +kernel
theorem d_En_doSteps_51 : decode prog_3_method_6_code 51 = .ok (.aload_n 2, 1) := by decide +kernel
theorem d_En_doSteps_52 : decode prog_3_method_6_code 52 = .ok (.aload_n 0, 1) := by decide +kernel
theorem d_En_doSteps_53 : decode prog_3_method_6_code 53 = .ok (.getfield 21, 3) := by decide +kernel
theorem d_En_doSteps_56 : decode prog_3_method_6_code 56 = .ok (.iload_n 3, 1) := by decide +kernel
theorem d_En_doSteps_57 : decode prog_3_method_6_code 57 = .ok (.iaload, 1) := by decide +kernel
theorem d_En_doSteps_58 : decode prog_3_method_6_code 58 = .ok (.aload_n 0, 1) := by decide +kernel
theorem d_En_doSteps_59 : decode prog_3_method_6_code 59 = .ok (.getfield 24, 3) := by decide +kernel
theorem d_En_doSteps_62 : decode prog_3_method_6_code 62 = .ok (.iload_n 3, 1) := by decide +kernel
theorem d_En_doSteps_63 : decode prog_3_method_6_code 63 = .ok (.laload, 1) := by decide +kernel
theorem d_En_doSteps_64 : decode prog_3_method_6_code 64 = .ok (.lastore, 1) := by decide +kernel
theorem d_En_doSteps_65 : decode prog_3_method_6_code 65 = .ok (.iinc 3 1, 3) := by decide +kernel
theorem d_En_doSteps_68 : decode prog_3_method_6_code 68 = .ok (.goto (-66), 3) := by decide +kernel
theorem d_En_doSteps_71 : decode prog_3_method_6_code 71 = .ok (.return_, 1) := by decide +kernel
theorem d_Or_init_0 : decode prog_4_method_1_code 0 = .ok (.aload_n 0, 1) := by decide +kernel
theorem d_Or_init_1 : decode prog_4_method_1_code 1 = .ok (.invokespecial 1, 3) := by decide +kernel
theorem d_Or_init_4 : decode prog_4_method_1_code 4 = .ok (.aload_n 0, 1) := by decide +kernel
theorem d_Or_init_5 : decode prog_4_method_1_code 5 = .ok (.iconst 0, 1) := by decide +kernel
theorem d_Or_init_6 : decode prog_4_method_1_code 6 = .ok (.putfield 7, 3) := by decide +kernel
theorem d_Or_init_9 : decode prog_4_method_1_code 9 = .ok (.aload_n 0, 1) := by decide +kernel
theorem d_Or_init_10 : decode prog_4_method_1_code 10 = .ok (.lconst 0, 1) := by decide +kernel
theorem d_Or_init_11 : decode prog_4_method_1_code 11 = .ok (.putfield 13, 3) := by decide +kernel
theorem d_Or_init_14 : decode prog_4_method_1_code 14 = .ok (.aload_n 0, 1) := by decide +kernel
theorem d_Or_init_15 : decode prog_4_method_1_code 15 = .ok (.iload_n 1, 1) := by decide +kernel
theorem d_Or_init_16 : decode prog_4_method_1_code 16 = .ok (.newarray .int, 2) := by decide +kernel
theorem d_Or_init_18 : decode prog_4_method_1_code 18 = .ok (.putfield 17, 3) := by decide +kernel
theorem d_Or_init_21 : decode prog_4_method_1_code 21 = .ok (.return_, 1) := by decide +kernel
theorem d_Or_gather_0 : decode prog_4_method_2_code 0 = .ok (.aload_n 0, 1) := by decide +kernel
theorem d_Or_gather_1 : decode prog_4_method_2_code 1 = .ok (.iconst 0, 1) := by decide +kernel
theorem d_Or_gather_2 : decode prog_4_method_2_code 2 = .ok (.putfield 7, 3) := by decide +kernel
theorem d_Or_gather_5 : decode prog_4_method_2_code 5 = .ok (.iconst 0, 1) := by decide +kernel
theorem d_Or_gather_6 : decode prog_4_method_2_code 6 = .ok (.istore_n 2, 1) := by decide +kernel
theorem d_Or_gather_7 : decode prog_4_method_2_code 7 = .ok (.iload_n 2, 1) := by decide +kernel
theorem d_Or_gather_8 : decode prog_4_method_2_code 8 = .ok (.aload_n 1, 1) := by decide +kernel
theorem d_Or_gather_9 : decode prog_4_method_2_code 9 = .ok (.arraylength, 1) := by decide +kernel
theorem d_Or_gather_10 : decode prog_4_method_2_code 10 = .ok (.if_icmp .ge 50, 3) := by decide +kernel
theorem d_Or_gather_13 : decode prog_4_method_2_code 13 = .ok (.aload_n 0, 1) := by decide +kernel
theorem d_Or_gather_14 : decode prog_4_method_2_code 14 = .ok (.getfield 7, 3) := by decide +kernel
theorem d_Or_gather_17 : decode prog_4_method_2_code 17 = .ok (.aload_n 0, 1) := by decide +kernel
theorem d_Or_gather_18 : decode prog_4_method_2_code 18 = .ok (.getfield 17, 3) := by decide +kernel
theorem d_Or_gather_21 : decode prog_4_method_2_code 21 = .ok (.arraylength, 1) := by decide +kernel
theorem d_Or_gather_22 : decode prog_4_method_2_code 22 = .ok (.if_icmp .ge 38, 3) := by decide +kernel
theorem d_Or_gather_25 : decode prog_4_method_2_code 25 = .ok (.aload_n 1, 1) := by decide +kernel
theorem d_Or_gather_26 : decode prog_4_method_2_code 26 = .ok (.iload_n 2, 1) := by decide +kernel
theorem d_Or_gather_27 : decode prog_4_method_2_code 27 = .ok (.aaload, 1) := by decide +kernel
theorem d_Or_gather_28 : decode prog_4_method_2_code 28 = .ok (.invokevirtual 21, 3) := by decide +kernel
theorem d_Or_gather_31 : decode prog_4_method_2_code 31 = .ok (.ifCond .eq 23, 3) := by decide +kernel
theorem d_Or_gather_34 : decode prog_4_method_2_code 34 = .ok (.aload_n 0, 1) := by decide +kernel
theorem d_Or_gather_35 : decode prog_4_method_2_code 35 = .ok (.getfield 17, 3) := by decide +kernel
theorem d_Or_gather_38 : decode prog_4_method_2_code 38 = .ok (.aload_n 0, 1) := by decide +kernel
theorem d_Or_gather_39 : decode prog_4_method_2_code 39 = .ok (.getfield 7, 3) := by decide +kernel
theorem d_Or_gather_42 : decode prog_4_method_2_code 42 = .ok (.iload_n 2, 1) := by decide +kernel
theorem d_Or_gather_43 : decode prog_4_method_2_code 43 = .ok (.iastore, 1) := by decide +kernel
theorem d_Or_gather_44 : decode prog_4_method_2_code 44 = .ok (.aload_n 0, 1) := by decide +kernel
theorem d_Or_gather_45 : decode prog_4_method_2_code 45 = .ok (.dup, 1) := by decide +kernel
theorem d_Or_gather_46 : decode prog_4_method_2_code 46 = .ok (.getfield 7, 3) := by decide +kernel
theorem d_Or_gather_49 : decode prog_4_method_2_code 49 = .ok (.iconst 1, 1) := by decide +kernel
theorem d_Or_gather_50 : decode prog_4_method_2_code 50 = .ok (.iadd, 1) := by decide +kernel
theorem d_Or_gather_51 : decode prog_4_method_2_code 51 = .ok (.putfield 7, 3) := by decide +kernel
theorem d_Or_gather_54 : decode prog_4_method_2_code 54 = .ok (.iinc 2 1, 3) := by decide +kernel
theorem d_Or_gather_57 : decode prog_4_method_2_code 57 = .ok (.goto (-50), 3) := by decide +kernel
theorem d_Or_gather_60 : decode prog_4_method_2_code 60 = .ok (.return_, 1) := by decide +kernel
theorem d_Or_draw_0 : decode prog_4_method_3_code 0 = .ok (.iconst 0, 1) := by decide +kernel
theorem d_Or_draw_1 : decode prog_4_method_3_code 1 = .ok (.istore_n 1, 1) := by decide +kernel
theorem d_Or_draw_2 : decode prog_4_method_3_code 2 = .ok (.iload_n 1, 1) := by decide +kernel
theorem d_Or_draw_3 : decode prog_4_method_3_code 3 = .ok (.aload_n 0, 1) := by decide +kernel
theorem d_Or_draw_4 : decode prog_4_method_3_code 4 = .ok (.getfield 7, 3) := by decide +kernel
theorem d_Or_draw_7 : decode prog_4_method_3_code 7 = .ok (.if_icmp .ge 50, 3) := by decide +kernel
theorem d_Or_draw_10 : decode prog_4_method_3_code 10 = .ok (.aload_n 0, 1) := by decide +kernel
theorem d_Or_draw_11 : decode prog_4_method_3_code 11 = .ok (.aload_n 0, 1) := by decide +kernel
theorem d_Or_draw_12 : decode prog_4_method_3_code 12 = .ok (.getfield 13, 3) := by decide +kernel
theorem d_Or_draw_15 : decode prog_4_method_3_code 15 = .ok (.ldc2_w 27, 3) := by decide +kernel
theorem d_Or_draw_18 : decode prog_4_method_3_code 18 = .ok (.lmul, 1) := by decide +kernel
theorem d_Or_draw_19 : decode prog_4_method_3_code 19 = .ok (.ldc2_w 29, 3) := by decide +kernel
theorem d_Or_draw_22 : decode prog_4_method_3_code 22 = .ok (.ladd, 1) := by decide +kernel
theorem d_Or_draw_23 : decode prog_4_method_3_code 23 = .ok (.putfield 13, 3) := by decide +kernel
theorem d_Or_draw_26 : decode prog_4_method_3_code 26 = .ok (.aload_n 0, 1) := by decide +kernel
theorem d_Or_draw_27 : decode prog_4_method_3_code 27 = .ok (.getfield 13, 3) := by decide +kernel
theorem d_Or_draw_30 : decode prog_4_method_3_code 30 = .ok (.bipush 33, 2) := by decide +kernel
theorem d_Or_draw_32 : decode prog_4_method_3_code 32 = .ok (.lushr, 1) := by decide +kernel
theorem d_Or_draw_33 : decode prog_4_method_3_code 33 = .ok (.aload_n 0, 1) := by decide +kernel
theorem d_Or_draw_34 : decode prog_4_method_3_code 34 = .ok (.getfield 7, 3) := by decide +kernel
theorem d_Or_draw_37 : decode prog_4_method_3_code 37 = .ok (.iload_n 1, 1) := by decide +kernel
theorem d_Or_draw_38 : decode prog_4_method_3_code 38 = .ok (.isub, 1) := by decide +kernel
theorem d_Or_draw_39 : decode prog_4_method_3_code 39 = .ok (.i2l, 1) := by decide +kernel
theorem d_Or_draw_40 : decode prog_4_method_3_code 40 = .ok (.lrem, 1) := by decide +kernel
theorem d_Or_draw_41 : decode prog_4_method_3_code 41 = .ok (.l2i, 1) := by decide +kernel
theorem d_Or_draw_42 : decode prog_4_method_3_code 42 = .ok (.istore_n 2, 1) := by decide +kernel
theorem d_Or_draw_43 : decode prog_4_method_3_code 43 = .ok (.aload_n 0, 1) := by decide +kernel
theorem d_Or_draw_44 : decode prog_4_method_3_code 44 = .ok (.iload_n 1, 1) := by decide +kernel
theorem d_Or_draw_45 : decode prog_4_method_3_code 45 = .ok (.iload_n 2, 1) := by decide +kernel
theorem d_Or_draw_46 : decode prog_4_method_3_code 46 = .ok (.iadd, 1) := by decide +kernel
theorem d_Or_draw_47 : decode prog_4_method_3_code 47 = .ok (.iload_n 1, 1) := by decide +kernel
theorem d_Or_draw_48 : decode prog_4_method_3_code 48 = .ok (.invokevirtual 31, 3) := by decide +kernel
theorem d_Or_draw_51 : decode prog_4_method_3_code 51 = .ok (.iinc 1 1, 3) := by decide +kernel
theorem d_Or_draw_54 : decode prog_4_method_3_code 54 = .ok (.goto (-52), 3) := by decide +kernel
theorem d_Or_draw_57 : decode prog_4_method_3_code 57 = .ok (.return_, 1) := by decide +kernel
theorem d_Or_moveForward_0 : decode prog_4_method_4_code 0 = .ok (.aload_n 0, 1) := by decide +kernel
theorem d_Or_moveForward_1 : decode prog_4_method_4_code 1 = .ok (.getfield 17, 3) := by decide +kernel
theorem d_Or_moveForward_4 : decode prog_4_method_4_code 4 = .ok (.iload_n 1, 1) := by decide +kernel
theorem d_Or_moveForward_5 : decode prog_4_method_4_code 5 = .ok (.iaload, 1) := by decide +kernel
theorem d_Or_moveForward_6 : decode prog_4_method_4_code 6 = .ok (.istore_n 3, 1) := by decide +kernel
theorem d_Or_moveForward_7 : decode prog_4_method_4_code 7 = .ok (.iload_n 1, 1) := by decide +kernel
theorem d_Or_moveForward_8 : decode prog_4_method_4_code 8 = .ok (.istore 4, 2) := by decide +kernel
theorem d_Or_moveForward_10 : decode prog_4_method_4_code 10 = .ok (.iload 4, 2) := by decide +kernel
theorem d_Or_moveForward_12 : decode prog_4_method_4_code 12 = .ok (.iload_n 2, 1) := by decide +kernel
theorem d_Or_moveForward_13 : decode prog_4_method_4_code 13 = .ok (.if_icmp .le 25, 3) := by decide +kernel
theorem d_Or_moveForward_16 : decode prog_4_method_4_code 16 = .ok (.aload_n 0, 1) := by decide +kernel
theorem d_Or_moveForward_17 : decode prog_4_method_4_code 17 = .ok (.getfield 17, 3) := by decide +kernel
theorem d_Or_moveForward_20 : decode prog_4_method_4_code 20 = .ok (.iload 4, 2) := by decide +kernel
theorem d_Or_moveForward_22 : decode prog_4_method_4_code 22 = .ok (.aload_n 0, 1) := by decide +kernel
theorem d_Or_moveForward_23 : decode prog_4_method_4_code 23 = .ok (.getfield 17, 3) := by decide +kernel
theorem d_Or_moveForward_26 : decode prog_4_method_4_code 26 = .ok (.iload 4, 2) := by decide +kernel
theorem d_Or_moveForward_28 : decode prog_4_method_4_code 28 = .ok (.iconst 1, 1) := by decide +kernel
theorem d_Or_moveForward_29 : decode prog_4_method_4_code 29 = .ok (.isub, 1) := by decide +kernel
theorem d_Or_moveForward_30 : decode prog_4_method_4_code 30 = .ok (.iaload, 1) := by decide +kernel
theorem d_Or_moveForward_31 : decode prog_4_method_4_code 31 = .ok (.iastore, 1) := by decide +kernel
theorem d_Or_moveForward_32 : decode prog_4_method_4_code 32 = .ok (.iinc 4 (-1), 3) := by decide +kernel
theorem d_Or_moveForward_35 : decode prog_4_method_4_code 35 = .ok (.goto (-25), 3) := by decide +kernel
theorem d_Or_moveForward_38 : decode prog_4_method_4_code 38 = .ok (.aload_n 0, 1) := by decide +kernel
theorem d_Or_moveForward_39 : decode prog_4_method_4_code 39 = .ok (.getfield 17, 3) := by decide +kernel
theorem d_Or_moveForward_42 : decode prog_4_method_4_code 42 = .ok (.iload_n 2, 1) := by decide +kernel
theorem d_Or_moveForward_43 : decode prog_4_method_4_code 43 = .ok (.iload_n 3, 1) := by decide +kernel
theorem d_Or_moveForward_44 : decode prog_4_method_4_code 44 = .ok (.iastore, 1) := by decide +kernel
theorem d_Or_moveForward_45 : decode prog_4_method_4_code 45 = .ok (.return_, 1) := by decide +kernel
theorem d_Tu_init_0 : decode prog_5_method_1_code 0 = .ok (.aload_n 0, 1) := by decide +kernel
theorem d_Tu_init_1 : decode prog_5_method_1_code 1 = .ok (.invokespecial 3, 3) := by decide +kernel
theorem d_Tu_init_4 : decode prog_5_method_1_code 4 = .ok (.aload_n 0, 1) := by decide +kernel
theorem d_Tu_init_5 : decode prog_5_method_1_code 5 = .ok (.iconst 0, 1) := by decide +kernel
theorem d_Tu_init_6 : decode prog_5_method_1_code 6 = .ok (.putfield 9, 3) := by decide +kernel
theorem d_Tu_init_9 : decode prog_5_method_1_code 9 = .ok (.iload_n 1, 1) := by decide +kernel
theorem d_Tu_init_10 : decode prog_5_method_1_code 10 = .ok (.bipush 64, 2) := by decide +kernel
theorem d_Tu_init_12 : decode prog_5_method_1_code 12 = .ok (.imul, 1) := by decide +kernel
theorem d_Tu_init_13 : decode prog_5_method_1_code 13 = .ok (.istore_n 2, 1) := by decide +kernel
theorem d_Tu_init_14 : decode prog_5_method_1_code 14 = .ok (.aload_n 0, 1) := by decide +kernel
theorem d_Tu_init_15 : decode prog_5_method_1_code 15 = .ok (.iload_n 2, 1) := by decide +kernel
theorem d_Tu_init_16 : decode prog_5_method_1_code 16 = .ok (.newarray .int, 2) := by decide +kernel
theorem d_Tu_init_18 : decode prog_5_method_1_code 18 = .ok (.putfield 15, 3) := by decide +kernel
theorem d_Tu_init_21 : decode prog_5_method_1_code 21 = .ok (.aload_n 0, 1) := by decide +kernel
theorem d_Tu_init_22 : decode prog_5_method_1_code 22 = .ok (.iload_n 2, 1) := by decide +kernel
theorem d_Tu_init_23 : decode prog_5_method_1_code 23 = .ok (.newarray .int, 2) := by decide +kernel
theorem d_Tu_init_25 : decode prog_5_method_1_code 25 = .ok (.putfield 19, 3) := by decide +kernel
theorem d_Tu_init_28 : decode prog_5_method_1_code 28 = .ok (.aload_n 0, 1) := by decide +kernel
theorem d_Tu_init_29 : decode prog_5_method_1_code 29 = .ok (.iload_n 2, 1) := by decide +kernel
theorem d_Tu_init_30 : decode prog_5_method_1_code 30 = .ok (.newarray .int, 2) := by decide +kernel
theorem d_Tu_init_32 : decode prog_5_method_1_code 32 = .ok (.putfield 22, 3) := by decide +kernel
theorem d_Tu_init_35 : decode prog_5_method_1_code 35 = .ok (.return_, 1) := by decide +kernel
theorem d_Tu_add_0 : decode prog_5_method_2_code 0 = .ok (.aload_n 0, 1) := by decide +kernel
theorem d_Tu_add_1 : decode prog_5_method_2_code 1 = .ok (.getfield 9, 3) := by decide +kernel
theorem d_Tu_add_4 : decode prog_5_method_2_code 4 = .ok (.aload_n 0, 1) := by decide +kernel
theorem d_Tu_add_5 : decode prog_5_method_2_code 5 = .ok (.getfield 15, 3) := by decide +kernel
theorem d_Tu_add_8 : decode prog_5_method_2_code 8 = .ok (.arraylength, 1) := by decide +kernel
theorem d_Tu_add_9 : decode prog_5_method_2_code 9 = .ok (.if_icmp .lt 4, 3) := by decide +kernel
theorem d_Tu_add_12 : decode prog_5_method_2_code 12 = .ok (.return_, 1) := by decide +kernel
theorem d_Tu_add_13 : decode prog_5_method_2_code 13 = .ok (.aload_n 0, 1) := by decide +kernel
theorem d_Tu_add_14 : decode prog_5_method_2_code 14 = .ok (.getfield 15, 3) := by decide +kernel
theorem d_Tu_add_17 : decode prog_5_method_2_code 17 = .ok (.aload_n 0, 1) := by decide +kernel
theorem d_Tu_add_18 : decode prog_5_method_2_code 18 = .ok (.getfield 9, 3) := by decide +kernel
theorem d_Tu_add_21 : decode prog_5_method_2_code 21 = .ok (.iload_n 1, 1) := by decide +kernel
theorem d_Tu_add_22 : decode prog_5_method_2_code 22 = .ok (.iastore, 1) := by decide +kernel
theorem d_Tu_add_23 : decode prog_5_method_2_code 23 = .ok (.aload_n 0, 1) := by decide +kernel
theorem d_Tu_add_24 : decode prog_5_method_2_code 24 = .ok (.getfield 19, 3) := by decide +kernel
theorem d_Tu_add_27 : decode prog_5_method_2_code 27 = .ok (.aload_n 0, 1) := by decide +kernel
theorem d_Tu_add_28 : decode prog_5_method_2_code 28 = .ok (.getfield 9, 3) := by decide +kernel
theorem d_Tu_add_31 : decode prog_5_method_2_code 31 = .ok (.iload_n 2, 1) := by decide +kernel
theorem d_Tu_add_32 : decode prog_5_method_2_code 32 = .ok (.iastore, 1) := by decide +kernel
theorem d_Tu_add_33 : decode prog_5_method_2_code 33 = .ok (.aload_n 0, 1) := by decide +kernel
theorem d_Tu_add_34 : decode prog_5_method_2_code 34 = .ok (.getfield 22, 3) := by decide +kernel
theorem d_Tu_add_37 : decode prog_5_method_2_code 37 = .ok (.aload_n 0, 1) := by decide +kernel
theorem d_Tu_add_38 : decode prog_5_method_2_code 38 = .ok (.getfield 9, 3) := by decide +kernel
theorem d_Tu_add_41 : decode prog_5_method_2_code 41 = .ok (.iload_n 3, 1) := by decide +kernel
theorem d_Tu_add_42 : decode prog_5_method_2_code 42 = .ok (.iastore, 1) := by decide +kernel
theorem d_Tu_add_43 : decode prog_5_method_2_code 43 = .ok (.aload_n 0, 1) := by decide +kernel
theorem d_Tu_add_44 : decode prog_5_method_2_code 44 = .ok (.dup, 1) := by decide +kernel
theorem d_Tu_add_45 : decode prog_5_method_2_code 45 = .ok (.getfield 9, 3) := by decide +kernel
theorem d_Tu_add_48 : decode prog_5_method_2_code 48 = .ok (.iconst 1, 1) := by decide +kernel
theorem d_Tu_add_49 : decode prog_5_method_2_code 49 = .ok (.iadd, 1) := by decide +kernel
theorem d_Tu_add_50 : decode prog_5_method_2_code 50 = .ok (.putfield 9, 3) := by decide +kernel
theorem d_Tu_add_53 : decode prog_5_method_2_code 53 = .ok (.return_, 1) := by decide +kernel
theorem d_Tu_look_0 : decode prog_5_method_3_code 0 = .ok (.iload_n 1, 1) := by decide +kernel
theorem d_Tu_look_1 : decode prog_5_method_3_code 1 = .ok (.ifCond .lt 11, 3) := by decide +kernel
theorem d_Tu_look_4 : decode prog_5_method_3_code 4 = .ok (.iload_n 1, 1) := by decide +kernel
theorem d_Tu_look_5 : decode prog_5_method_3_code 5 = .ok (.aload_n 0, 1) := by decide +kernel
theorem d_Tu_look_6 : decode prog_5_method_3_code 6 = .ok (.getfield 9, 3) := by decide +kernel
theorem d_Tu_look_9 : decode prog_5_method_3_code 9 = .ok (.if_icmp .lt 5, 3) := by decide +kernel
theorem d_Tu_look_12 : decode prog_5_method_3_code 12 = .ok (.iconst (-1), 1) := by decide +kernel
theorem d_Tu_look_13 : decode prog_5_method_3_code 13 = .ok (.ireturn, 1) := by decide +kernel
theorem d_Tu_look_14 : decode prog_5_method_3_code 14 = .ok (.iload_n 2, 1) := by decide +kernel
theorem d_Tu_look_15 : decode prog_5_method_3_code 15 = .ok (.tableswitch 46 0 2 #[25, 32, 39], 25) := by decide +kernel
theorem d_Tu_look_40 : decode prog_5_method_3_code 40 = .ok (.aload_n 0, 1) := by decide +kernel
theorem d_Tu_look_41 : decode prog_5_method_3_code 41 = .ok (.getfield 15, 3) := by decide +kernel
theorem d_Tu_look_44 : decode prog_5_method_3_code 44 = .ok (.iload_n 1, 1) := by decide +kernel
theorem d_Tu_look_45 : decode prog_5_method_3_code 45 = .ok (.iaload, 1) := by decide +kernel
theorem d_Tu_look_46 : decode prog_5_method_3_code 46 = .ok (.ireturn, 1) := by decide +kernel
theorem d_Tu_look_47 : decode prog_5_method_3_code 47 = .ok (.aload_n 0, 1) := by decide +kernel
theorem d_Tu_look_48 : decode prog_5_method_3_code 48 = .ok (.getfield 19, 3) := by decide +kernel
theorem d_Tu_look_51 : decode prog_5_method_3_code 51 = .ok (.iload_n 1, 1) := by decide +kernel
theorem d_Tu_look_52 : decode prog_5_method_3_code 52 = .ok (.iaload, 1) := by decide +kernel
theorem d_Tu_look_53 : decode prog_5_method_3_code 53 = .ok (.ireturn, 1) := by decide +kernel
theorem d_Tu_look_54 : decode prog_5_method_3_code 54 = .ok (.aload_n 0, 1) := by decide +kernel
theorem d_Tu_look_55 : decode prog_5_method_3_code 55 = .ok (.getfield 22, 3) := by decide +kernel
theorem d_Tu_look_58 : decode prog_5_method_3_code 58 = .ok (.iload_n 1, 1) := by decide +kernel
theorem d_Tu_look_59 : decode prog_5_method_3_code 59 = .ok (.iaload, 1) := by decide +kernel
theorem d_Tu_look_60 : decode prog_5_method_3_code 60 = .ok (.ireturn, 1) := by decide +kernel
theorem d_Tu_look_61 : decode prog_5_method_3_code 61 = .ok (.iconst (-1), 1) := by decide +kernel
theorem d_Tu_look_62 : decode prog_5_method_3_code 62 = .ok (.ireturn, 1) := by decide +kernel
theorem d_Bo_init_0 : decode prog_2_method_1_code 0 = .ok (.aload_n 0, 1) := by decide +kernel
theorem d_Bo_init_1 : decode prog_2_method_1_code 1 = .ok (.invokespecial 3, 3) := by decide +kernel
theorem d_Bo_init_4 : decode prog_2_method_1_code 4 = .ok (.aload_n 0, 1) := by decide +kernel
theorem d_Bo_init_5 : decode prog_2_method_1_code 5 = .ok (.bipush 16, 2) := by decide +kernel
theorem d_Bo_init_7 : decode prog_2_method_1_code 7 = .ok (.newarray .int, 2) := by decide +kernel
theorem d_Bo_init_9 : decode prog_2_method_1_code 9 = .ok (.putfield 9, 3) := by decide +kernel
theorem d_Bo_init_12 : decode prog_2_method_1_code 12 = .ok (.aload_n 0, 1) := by decide +kernel
theorem d_Bo_init_13 : decode prog_2_method_1_code 13 = .ok (.sipush 1024, 3) := by decide +kernel
theorem d_Bo_init_16 : decode prog_2_method_1_code 16 = .ok (.newarray .int, 2) := by decide +kernel
theorem d_Bo_init_18 : decode prog_2_method_1_code 18 = .ok (.putfield 15, 3) := by decide +kernel
theorem d_Bo_init_21 : decode prog_2_method_1_code 21 = .ok (.aload_n 0, 1) := by decide +kernel
theorem d_Bo_init_22 : decode prog_2_method_1_code 22 = .ok (.iconst 0, 1) := by decide +kernel
theorem d_Bo_init_23 : decode prog_2_method_1_code 23 = .ok (.putfield 18, 3) := by decide +kernel
theorem d_Bo_init_26 : decode prog_2_method_1_code 26 = .ok (.iload_n 1, 1) := by decide +kernel
theorem d_Bo_init_27 : decode prog_2_method_1_code 27 = .ok (.iconst 4, 1) := by decide +kernel
theorem d_Bo_init_28 : decode prog_2_method_1_code 28 = .ok (.imul, 1) := by decide +kernel
theorem d_Bo_init_29 : decode prog_2_method_1_code 29 = .ok (.istore_n 2, 1) := by decide +kernel
theorem d_Bo_init_30 : decode prog_2_method_1_code 30 = .ok (.aload_n 0, 1) := by decide +kernel
theorem d_Bo_init_31 : decode prog_2_method_1_code 31 = .ok (.iload_n 2, 1) := by decide +kernel
theorem d_Bo_init_32 : decode prog_2_method_1_code 32 = .ok (.newarray .long, 2) := by decide +kernel
theorem d_Bo_init_34 : decode prog_2_method_1_code 34 = .ok (.putfield 22, 3) := by decide +kernel
theorem d_Bo_init_37 : decode prog_2_method_1_code 37 = .ok (.aload_n 0, 1) := by decide +kernel
theorem d_Bo_init_38 : decode prog_2_method_1_code 38 = .ok (.iload_n 2, 1) := by decide +kernel
theorem d_Bo_init_39 : decode prog_2_method_1_code 39 = .ok (.newarray .long, 2) := by decide +kernel
theorem d_Bo_init_41 : decode prog_2_method_1_code 41 = .ok (.putfield 26, 3) := by decide +kernel
theorem d_Bo_init_44 : decode prog_2_method_1_code 44 = .ok (.aload_n 0, 1) := by decide +kernel
theorem d_Bo_init_45 : decode prog_2_method_1_code 45 = .ok (.bipush 64, 2) := by decide +kernel
theorem d_Bo_init_47 : decode prog_2_method_1_code 47 = .ok (.iload_n 2, 1) := by decide +kernel
theorem d_Bo_init_48 : decode prog_2_method_1_code 48 = .ok (.imul, 1) := by decide +kernel
theorem d_Bo_init_49 : decode prog_2_method_1_code 49 = .ok (.newarray .long, 2) := by decide +kernel
theorem d_Bo_init_51 : decode prog_2_method_1_code 51 = .ok (.putfield 29, 3) := by decide +kernel
theorem d_Bo_init_54 : decode prog_2_method_1_code 54 = .ok (.aload_n 0, 1) := by decide +kernel
theorem d_Bo_init_55 : decode prog_2_method_1_code 55 = .ok (.getfield 9, 3) := by decide +kernel
theorem d_Bo_init_58 : decode prog_2_method_1_code 58 = .ok (.iconst (-1), 1) := by decide +kernel
theorem d_Bo_init_59 : decode prog_2_method_1_code 59 = .ok (.invokestatic 32, 3) := by decide +kernel
theorem d_Bo_init_62 : decode prog_2_method_1_code 62 = .ok (.return_, 1) := by decide +kernel
theorem d_Bo_hasOutput_0 : decode prog_2_method_2_code 0 = .ok (.iload_n 1, 1) := by decide +kernel
theorem d_Bo_hasOutput_1 : decode prog_2_method_2_code 1 = .ok (.ifCond .lt 16, 3) := by decide +kernel
theorem d_Bo_hasOutput_4 : decode prog_2_method_2_code 4 = .ok (.iload_n 1, 1) := by decide +kernel
theorem d_Bo_hasOutput_5 : decode prog_2_method_2_code 5 = .ok (.aload_n 0, 1) := by decide +kernel
theorem d_Bo_hasOutput_6 : decode prog_2_method_2_code 6 = .ok (.getfield 22, 3) := by decide +kernel
theorem d_Bo_hasOutput_9 : decode prog_2_method_2_code 9 = .ok (.arraylength, 1) := by decide +kernel
theorem d_Bo_hasOutput_10 : decode prog_2_method_2_code 10 = .ok (.if_icmp .ge 7, 3) := by decide +kernel
theorem d_Bo_hasOutput_13 : decode prog_2_method_2_code 13 = .ok (.iconst 1, 1) := by decide +kernel
theorem d_Bo_hasOutput_14 : decode prog_2_method_2_code 14 = .ok (.goto 4, 3) := by decide +kernel
theorem d_Bo_hasOutput_17 : decode prog_2_method_2_code 17 = .ok (.iconst 0, 1) := by decide +kernel
theorem d_Bo_hasOutput_18 : decode prog_2_method_2_code 18 = .ok (.ireturn, 1) := by decide +kernel
theorem d_Bo_wasDone_0 : decode prog_2_method_3_code 0 = .ok (.iload_n 1, 1) := by decide +kernel
theorem d_Bo_wasDone_1 : decode prog_2_method_3_code 1 = .ok (.ifCond .lt 15, 3) := by decide +kernel
theorem d_Bo_wasDone_4 : decode prog_2_method_3_code 4 = .ok (.iload_n 1, 1) := by decide +kernel
theorem d_Bo_wasDone_5 : decode prog_2_method_3_code 5 = .ok (.aload_n 0, 1) := by decide +kernel
theorem d_Bo_wasDone_6 : decode prog_2_method_3_code 6 = .ok (.getfield 18, 3) := by decide +kernel
theorem d_Bo_wasDone_9 : decode prog_2_method_3_code 9 = .ok (.if_icmp .ge 7, 3) := by decide +kernel
theorem d_Bo_wasDone_12 : decode prog_2_method_3_code 12 = .ok (.iconst 1, 1) := by decide +kernel
theorem d_Bo_wasDone_13 : decode prog_2_method_3_code 13 = .ok (.goto 4, 3) := by decide +kernel
theorem d_Bo_wasDone_16 : decode prog_2_method_3_code 16 = .ok (.iconst 0, 1) := by decide +kernel
theorem d_Bo_wasDone_17 : decode prog_2_method_3_code 17 = .ok (.ireturn, 1) := by decide +kernel
theorem d_Bo_valueAt_0 : decode prog_2_method_4_code 0 = .ok (.aload_n 0, 1) := by decide +kernel
theorem d_Bo_valueAt_1 : decode prog_2_method_4_code 1 = .ok (.iload_n 1, 1) := by decide +kernel
theorem d_Bo_valueAt_2 : decode prog_2_method_4_code 2 = .ok (.invokevirtual 38, 3) := by decide +kernel
theorem d_Bo_valueAt_5 : decode prog_2_method_4_code 5 = .ok (.ifCond .ne 5, 3) := by decide +kernel
theorem d_Bo_valueAt_8 : decode prog_2_method_4_code 8 = .ok (.lconst 0, 1) := by decide +kernel
theorem d_Bo_valueAt_9 : decode prog_2_method_4_code 9 = .ok (.lreturn, 1) := by decide +kernel
theorem d_Bo_valueAt_10 : decode prog_2_method_4_code 10 = .ok (.iload_n 2, 1) := by decide +kernel
theorem d_Bo_valueAt_11 : decode prog_2_method_4_code 11 = .ok (.iconst (-1), 1) := by decide +kernel
theorem d_Bo_valueAt_12 : decode prog_2_method_4_code 12 = .ok (.if_icmp .ne 10, 3) := by decide +kernel
theorem d_Bo_valueAt_15 : decode prog_2_method_4_code 15 = .ok (.aload_n 0, 1) := by decide +kernel
theorem d_Bo_valueAt_16 : decode prog_2_method_4_code 16 = .ok (.getfield 22, 3) := by decide +kernel
theorem d_Bo_valueAt_19 : decode prog_2_method_4_code 19 = .ok (.iload_n 1, 1) := by decide +kernel
theorem d_Bo_valueAt_20 : decode prog_2_method_4_code 20 = .ok (.laload, 1) := by decide +kernel
theorem d_Bo_valueAt_21 : decode prog_2_method_4_code 21 = .ok (.lreturn, 1) := by decide +kernel
theorem d_Bo_valueAt_22 : decode prog_2_method_4_code 22 = .ok (.aload_n 0, 1) := by decide +kernel
theorem d_Bo_valueAt_23 : decode prog_2_method_4_code 23 = .ok (.iload_n 2, 1) := by decide +kernel
theorem d_Bo_valueAt_24 : decode prog_2_method_4_code 24 = .ok (.invokevirtual 42, 3) := by decide +kernel
theorem d_Bo_valueAt_27 : decode prog_2_method_4_code 27 = .ok (.ifCond .eq 20, 3) := by decide +kernel
theorem d_Bo_valueAt_30 : decode prog_2_method_4_code 30 = .ok (.aload_n 0, 1) := by decide +kernel
theorem d_Bo_valueAt_31 : decode prog_2_method_4_code 31 = .ok (.getfield 29, 3) := by decide +kernel
theorem d_Bo_valueAt_34 : decode prog_2_method_4_code 34 = .ok (.iload_n 2, 1) := by decide +kernel
theorem d_Bo_valueAt_35 : decode prog_2_method_4_code 35 = .ok (.aload_n 0, 1) := by decide +kernel
theorem d_Bo_valueAt_36 : decode prog_2_method_4_code 36 = .ok (.getfield 22, 3) := by decide +kernel
theorem d_Bo_valueAt_39 : decode prog_2_method_4_code 39 = .ok (.arraylength, 1) := by decide +kernel
theorem d_Bo_valueAt_40 : decode prog_2_method_4_code 40 = .ok (.imul, 1) := by decide +kernel
theorem d_Bo_valueAt_41 : decode prog_2_method_4_code 41 = .ok (.iload_n 1, 1) := by decide +kernel
theorem d_Bo_valueAt_42 : decode prog_2_method_4_code 42 = .ok (.iadd, 1) := by decide +kernel
theorem d_Bo_valueAt_43 : decode prog_2_method_4_code 43 = .ok (.laload, 1) := by decide +kernel
theorem d_Bo_valueAt_44 : decode prog_2_method_4_code 44 = .ok (.goto 4, 3) := by decide +kernel
theorem d_Bo_valueAt_47 : decode prog_2_method_4_code 47 = .ok (.lconst 0, 1) := by decide +kernel
theorem d_Bo_valueAt_48 : decode prog_2_method_4_code 48 = .ok (.lreturn, 1) := by decide +kernel
theorem d_Bo_ownerAt_0 : decode prog_2_method_5_code 0 = .ok (.iload_n 1, 1) := by decide +kernel
theorem d_Bo_ownerAt_1 : decode prog_2_method_5_code 1 = .ok (.invokestatic 45, 3) := by decide +kernel
theorem d_Bo_ownerAt_4 : decode prog_2_method_5_code 4 = .ok (.ifCond .ne 5, 3) := by decide +kernel
theorem d_Bo_ownerAt_7 : decode prog_2_method_5_code 7 = .ok (.iconst (-1), 1) := by decide +kernel
theorem d_Bo_ownerAt_8 : decode prog_2_method_5_code 8 = .ok (.ireturn, 1) := by decide +kernel
theorem d_Bo_ownerAt_9 : decode prog_2_method_5_code 9 = .ok (.iload_n 2, 1) := by decide +kernel
theorem d_Bo_ownerAt_10 : decode prog_2_method_5_code 10 = .ok (.iconst (-1), 1) := by decide +kernel
theorem d_Bo_ownerAt_11 : decode prog_2_method_5_code 11 = .ok (.if_icmp .ne 10, 3) := by decide +kernel
theorem d_Bo_ownerAt_14 : decode prog_2_method_5_code 14 = .ok (.aload_n 0, 1) := by decide +kernel
theorem d_Bo_ownerAt_15 : decode prog_2_method_5_code 15 = .ok (.getfield 9, 3) := by decide +kernel
theorem d_Bo_ownerAt_18 : decode prog_2_method_5_code 18 = .ok (.iload_n 1, 1) := by decide +kernel
theorem d_Bo_ownerAt_19 : decode prog_2_method_5_code 19 = .ok (.iaload, 1) := by decide +kernel
theorem d_Bo_ownerAt_20 : decode prog_2_method_5_code 20 = .ok (.ireturn, 1) := by decide +kernel
theorem d_Bo_ownerAt_21 : decode prog_2_method_5_code 21 = .ok (.aload_n 0, 1) := by decide +kernel
theorem d_Bo_ownerAt_22 : decode prog_2_method_5_code 22 = .ok (.iload_n 2, 1) := by decide +kernel
theorem d_Bo_ownerAt_23 : decode prog_2_method_5_code 23 = .ok (.invokevirtual 42, 3) := by decide +kernel
theorem d_Bo_ownerAt_26 : decode prog_2_method_5_code 26 = .ok (.ifCond .eq 17, 3) := by decide +kernel
theorem d_Bo_ownerAt_29 : decode prog_2_method_5_code 29 = .ok (.aload_n 0, 1) := by decide +kernel
theorem d_Bo_ownerAt_30 : decode prog_2_method_5_code 30 = .ok (.getfield 15, 3) := by decide +kernel
theorem d_Bo_ownerAt_33 : decode prog_2_method_5_code 33 = .ok (.iload_n 2, 1) := by decide +kernel
theorem d_Bo_ownerAt_34 : decode prog_2_method_5_code 34 = .ok (.bipush 16, 2) := by decide +kernel
theorem d_Bo_ownerAt_36 : decode prog_2_method_5_code 36 = .ok (.imul, 1) := by decide +kernel
theorem d_Bo_ownerAt_37 : decode prog_2_method_5_code 37 = .ok (.iload_n 1, 1) := by decide +kernel
theorem d_Bo_ownerAt_38 : decode prog_2_method_5_code 38 = .ok (.iadd, 1) := by decide +kernel
theorem d_Bo_ownerAt_39 : decode prog_2_method_5_code 39 = .ok (.iaload, 1) := by decide +kernel
theorem d_Bo_ownerAt_40 : decode prog_2_method_5_code 40 = .ok (.goto 4, 3) := by decide +kernel
theorem d_Bo_ownerAt_43 : decode prog_2_method_5_code 43 = .ok (.iconst (-1), 1) := by decide +kernel
theorem d_Bo_ownerAt_44 : decode prog_2_method_5_code 44 = .ok (.ireturn, 1) := by decide +kernel
theorem d_Bo_makeSafe_0 : decode prog_2_method_6_code 0 = .ok (.iload_n 1, 1) := by decide +kernel
theorem d_Bo_makeSafe_1 : decode prog_2_method_6_code 1 = .ok (.iconst 4, 1) := by decide +kernel
theorem d_Bo_makeSafe_2 : decode prog_2_method_6_code 2 = .ok (.imul, 1) := by decide +kernel
theorem d_Bo_makeSafe_3 : decode prog_2_method_6_code 3 = .ok (.istore_n 2, 1) := by decide +kernel
theorem d_Bo_makeSafe_4 : decode prog_2_method_6_code 4 = .ok (.iload_n 2, 1) := by decide +kernel
theorem d_Bo_makeSafe_5 : decode prog_2_method_6_code 5 = .ok (.istore_n 3, 1) := by decide +kernel
theorem d_Bo_makeSafe_6 : decode prog_2_method_6_code 6 = .ok (.iload_n 3, 1) := by decide +kernel
theorem d_Bo_makeSafe_7 : decode prog_2_method_6_code 7 = .ok (.iload_n 2, 1) := by decide +kernel
theorem d_Bo_makeSafe_8 : decode prog_2_method_6_code 8 = .ok (.iconst 4, 1) := by decide +kernel
theorem d_Bo_makeSafe_9 : decode prog_2_method_6_code 9 = .ok (.iadd, 1) := by decide +kernel
theorem d_Bo_makeSafe_10 : decode prog_2_method_6_code 10 = .ok (.if_icmp .ge 30, 3) := by decide +kernel
theorem d_Bo_makeSafe_13 : decode prog_2_method_6_code 13 = .ok (.iload_n 3, 1) := by decide +kernel
theorem d_Bo_makeSafe_14 : decode prog_2_method_6_code 14 = .ok (.aload_n 0, 1) := by decide +kernel
theorem d_Bo_makeSafe_15 : decode prog_2_method_6_code 15 = .ok (.getfield 22, 3) := by decide +kernel
theorem d_Bo_makeSafe_18 : decode prog_2_method_6_code 18 = .ok (.arraylength, 1) := by decide +kernel
theorem d_Bo_makeSafe_19 : decode prog_2_method_6_code 19 = .ok (.if_icmp .ge 21, 3) := by decide +kernel
theorem d_Bo_makeSafe_22 : decode prog_2_method_6_code 22 = .ok (.aload_n 0, 1) := by decide +kernel
theorem d_Bo_makeSafe_23 : decode prog_2_method_6_code 23 = .ok (.getfield 22, 3) := by decide +kernel
theorem d_Bo_makeSafe_26 : decode prog_2_method_6_code 26 = .ok (.iload_n 3, 1) := by decide +kernel
theorem d_Bo_makeSafe_27 : decode prog_2_method_6_code 27 = .ok (.aload_n 0, 1) := by decide +kernel
theorem d_Bo_makeSafe_28 : decode prog_2_method_6_code 28 = .ok (.getfield 26, 3) := by decide +kernel
theorem d_Bo_makeSafe_31 : decode prog_2_method_6_code 31 = .ok (.iload_n 3, 1) := by decide +kernel
theorem d_Bo_makeSafe_32 : decode prog_2_method_6_code 32 = .ok (.laload, 1) := by decide +kernel
theorem d_Bo_makeSafe_33 : decode prog_2_method_6_code 33 = .ok (.lastore, 1) := by decide +kernel
theorem d_Bo_makeSafe_34 : decode prog_2_method_6_code 34 = .ok (.iinc 3 1, 3) := by decide +kernel
theorem d_Bo_makeSafe_37 : decode prog_2_method_6_code 37 = .ok (.goto (-31), 3) := by decide +kernel
theorem d_Bo_makeSafe_40 : decode prog_2_method_6_code 40 = .ok (.return_, 1) := by decide +kernel
theorem d_Bo_ownsAll_0 : decode prog_2_method_7_code 0 = .ok (.iconst 0, 1) := by decide +kernel
theorem d_Bo_ownsAll_1 : decode prog_2_method_7_code 1 = .ok (.istore_n 3, 1) := by decide +kernel
theorem d_Bo_ownsAll_2 : decode prog_2_method_7_code 2 = .ok (.iload_n 3, 1) := by decide +kernel
theorem d_Bo_ownsAll_3 : decode prog_2_method_7_code 3 = .ok (.bipush 16, 2) := by decide +kernel
theorem d_Bo_ownsAll_5 : decode prog_2_method_7_code 5 = .ok (.if_icmp .ge 29, 3) := by decide +kernel
theorem d_Bo_ownsAll_8 : decode prog_2_method_7_code 8 = .ok (.iload_n 2, 1) := by decide +kernel
theorem d_Bo_ownsAll_9 : decode prog_2_method_7_code 9 = .ok (.iload_n 3, 1) := by decide +kernel
theorem d_Bo_ownsAll_10 : decode prog_2_method_7_code 10 = .ok (.invokestatic 48, 3) := by decide +kernel
theorem d_Bo_ownsAll_13 : decode prog_2_method_7_code 13 = .ok (.ifCond .eq 15, 3) := by decide +kernel
theorem d_Bo_ownsAll_16 : decode prog_2_method_7_code 16 = .ok (.aload_n 0, 1) := by decide +kernel
theorem d_Bo_ownsAll_17 : decode prog_2_method_7_code 17 = .ok (.getfield 9, 3) := by decide +kernel
theorem d_Bo_ownsAll_20 : decode prog_2_method_7_code 20 = .ok (.iload_n 3, 1) := by decide +kernel
theorem d_Bo_ownsAll_21 : decode prog_2_method_7_code 21 = .ok (.iaload, 1) := by decide +kernel
theorem d_Bo_ownsAll_22 : decode prog_2_method_7_code 22 = .ok (.iload_n 1, 1) := by decide +kernel
theorem d_Bo_ownsAll_23 : decode prog_2_method_7_code 23 = .ok (.if_icmp .eq 5, 3) := by decide +kernel
theorem d_Bo_ownsAll_26 : decode prog_2_method_7_code 26 = .ok (.iconst 0, 1) := by decide +kernel
theorem d_Bo_ownsAll_27 : decode prog_2_method_7_code 27 = .ok (.ireturn, 1) := by decide +kernel
theorem d_Bo_ownsAll_28 : decode prog_2_method_7_code 28 = .ok (.iinc 3 1, 3) := by decide +kernel
theorem d_Bo_ownsAll_31 : decode prog_2_method_7_code 31 = .ok (.goto (-29), 3) := by decide +kernel
theorem d_Bo_ownsAll_34 : decode prog_2_method_7_code 34 = .ok (.iconst 1, 1) := by decide +kernel
theorem d_Bo_ownsAll_35 : decode prog_2_method_7_code 35 = .ok (.ireturn, 1) := by decide +kernel
theorem d_Bo_giveBack_0 : decode prog_2_method_8_code 0 = .ok (.iconst 0, 1) := by decide +kernel
theorem d_Bo_giveBack_1 : decode prog_2_method_8_code 1 = .ok (.istore_n 3, 1) := by decide +kernel
theorem d_Bo_giveBack_2 : decode prog_2_method_8_code 2 = .ok (.iload_n 3, 1) := by decide +kernel
theorem d_Bo_giveBack_3 : decode prog_2_method_8_code 3 = .ok (.bipush 16, 2) := by decide +kernel
theorem d_Bo_giveBack_5 : decode prog_2_method_8_code 5 = .ok (.if_icmp .ge 34, 3) := by decide +kernel
theorem d_Bo_giveBack_8 : decode prog_2_method_8_code 8 = .ok (.iload_n 2, 1) := by decide +kernel
theorem d_Bo_giveBack_9 : decode prog_2_method_8_code 9 = .ok (.iload_n 3, 1) := by decide +kernel
theorem d_Bo_giveBack_10 : decode prog_2_method_8_code 10 = .ok (.invokestatic 48, 3) := by decide +kernel
theorem d_Bo_giveBack_13 : decode prog_2_method_8_code 13 = .ok (.ifCond .eq 20, 3) := by decide +kernel
theorem d_Bo_giveBack_16 : decode prog_2_method_8_code 16 = .ok (.aload_n 0, 1) := by decide +kernel
theorem d_Bo_giveBack_17 : decode prog_2_method_8_code 17 = .ok (.getfield 9, 3) := by decide +kernel
theorem d_Bo_giveBack_20 : decode prog_2_method_8_code 20 = .ok (.iload_n 3, 1) := by decide +kernel
theorem d_Bo_giveBack_21 : decode prog_2_method_8_code 21 = .ok (.iaload, 1) := by decide +kernel
theorem d_Bo_giveBack_22 : decode prog_2_method_8_code 22 = .ok (.iload_n 1, 1) := by decide +kernel
theorem d_Bo_giveBack_23 : decode prog_2_method_8_code 23 = .ok (.if_icmp .ne 10, 3) := by decide +kernel
theorem d_Bo_giveBack_26 : decode prog_2_method_8_code 26 = .ok (.aload_n 0, 1) := by decide +kernel
theorem d_Bo_giveBack_27 : decode prog_2_method_8_code 27 = .ok (.getfield 9, 3) := by decide +kernel
theorem d_Bo_giveBack_30 : decode prog_2_method_8_code 30 = .ok (.iload_n 3, 1) := by decide +kernel
theorem d_Bo_giveBack_31 : decode prog_2_method_8_code 31 = .ok (.iconst (-1), 1) := by decide +kernel
theorem d_Bo_giveBack_32 : decode prog_2_method_8_code 32 = .ok (.iastore, 1) := by decide +kernel
theorem d_Bo_giveBack_33 : decode prog_2_method_8_code 33 = .ok (.iinc 3 1, 3) := by decide +kernel
theorem d_Bo_giveBack_36 : decode prog_2_method_8_code 36 = .ok (.goto (-34), 3) := by decide +kernel
theorem d_Bo_giveBack_39 : decode prog_2_method_8_code 39 = .ok (.return_, 1) := by decide +kernel
theorem d_Bo_keep_0 : decode prog_2_method_9_code 0 = .ok (.aload_n 0, 1) := by decide +kernel
theorem d_Bo_keep_1 : decode prog_2_method_9_code 1 = .ok (.getfield 18, 3) := by decide +kernel
theorem d_Bo_keep_4 : decode prog_2_method_9_code 4 = .ok (.bipush 64, 2) := by decide +kernel
theorem d_Bo_keep_6 : decode prog_2_method_9_code 6 = .ok (.if_icmp .lt 4, 3) := by decide +kernel
theorem d_Bo_keep_9 : decode prog_2_method_9_code 9 = .ok (.return_, 1) := by decide +kernel
theorem d_Bo_keep_10 : decode prog_2_method_9_code 10 = .ok (.aload_n 0, 1) := by decide +kernel
theorem d_Bo_keep_11 : decode prog_2_method_9_code 11 = .ok (.getfield 22, 3) := by decide +kernel
theorem d_Bo_keep_14 : decode prog_2_method_9_code 14 = .ok (.iconst 0, 1) := by decide +kernel
theorem d_Bo_keep_15 : decode prog_2_method_9_code 15 = .ok (.aload_n 0, 1) := by decide +kernel
theorem d_Bo_keep_16 : decode prog_2_method_9_code 16 = .ok (.getfield 29, 3) := by decide +kernel
theorem d_Bo_keep_19 : decode prog_2_method_9_code 19 = .ok (.aload_n 0, 1) := by decide +kernel
theorem d_Bo_keep_20 : decode prog_2_method_9_code 20 = .ok (.getfield 18, 3) := by decide +kernel
theorem d_Bo_keep_23 : decode prog_2_method_9_code 23 = .ok (.aload_n 0, 1) := by decide +kernel
theorem d_Bo_keep_24 : decode prog_2_method_9_code 24 = .ok (.getfield 22, 3) := by decide +kernel
theorem d_Bo_keep_27 : decode prog_2_method_9_code 27 = .ok (.arraylength, 1) := by decide +kernel
theorem d_Bo_keep_28 : decode prog_2_method_9_code 28 = .ok (.imul, 1) := by decide +kernel
theorem d_Bo_keep_29 : decode prog_2_method_9_code 29 = .ok (.aload_n 0, 1) := by decide +kernel
theorem d_Bo_keep_30 : decode prog_2_method_9_code 30 = .ok (.getfield 22, 3) := by decide +kernel
theorem d_Bo_keep_33 : decode prog_2_method_9_code 33 = .ok (.arraylength, 1) := by decide +kernel
theorem d_Bo_keep_34 : decode prog_2_method_9_code 34 = .ok (.invokestatic 52, 3) := by decide +kernel
theorem d_Bo_keep_37 : decode prog_2_method_9_code 37 = .ok (.aload_n 0, 1) := by decide +kernel
theorem d_Bo_keep_38 : decode prog_2_method_9_code 38 = .ok (.getfield 9, 3) := by decide +kernel
theorem d_Bo_keep_41 : decode prog_2_method_9_code 41 = .ok (.iconst 0, 1) := by decide +kernel
theorem d_Bo_keep_42 : decode prog_2_method_9_code 42 = .ok (.aload_n 0, 1) := by decide +kernel
theorem d_Bo_keep_43 : decode prog_2_method_9_code 43 = .ok (.getfield 15, 3) := by decide +kernel
theorem d_Bo_keep_46 : decode prog_2_method_9_code 46 = .ok (.aload_n 0, 1) := by decide +kernel
theorem d_Bo_keep_47 : decode prog_2_method_9_code 47 = .ok (.getfield 18, 3) := by decide +kernel
theorem d_Bo_keep_50 : decode prog_2_method_9_code 50 = .ok (.bipush 16, 2) := by decide +kernel
theorem d_Bo_keep_52 : decode prog_2_method_9_code 52 = .ok (.imul, 1) := by decide +kernel
theorem d_Bo_keep_53 : decode prog_2_method_9_code 53 = .ok (.bipush 16, 2) := by decide +kernel
theorem d_Bo_keep_55 : decode prog_2_method_9_code 55 = .ok (.invokestatic 52, 3) := by decide +kernel
theorem d_Bo_keep_58 : decode prog_2_method_9_code 58 = .ok (.aload_n 0, 1) := by decide +kernel
theorem d_Bo_keep_59 : decode prog_2_method_9_code 59 = .ok (.dup, 1) := by decide +kernel
theorem d_Bo_keep_60 : decode prog_2_method_9_code 60 = .ok (.getfield 18, 3) := by decide +kernel
theorem d_Bo_keep_63 : decode prog_2_method_9_code 63 = .ok (.iconst 1, 1) := by decide +kernel
theorem d_Bo_keep_64 : decode prog_2_method_9_code 64 = .ok (.iadd, 1) := by decide +kernel
theorem d_Bo_keep_65 : decode prog_2_method_9_code 65 = .ok (.putfield 18, 3) := by decide +kernel
theorem d_Bo_keep_68 : decode prog_2_method_9_code 68 = .ok (.return_, 1) := by decide +kernel
theorem d_Bo_shut_0 : decode prog_2_method_10_code 0 = .ok (.aload_n 0, 1) := by decide +kernel
theorem d_Bo_shut_1 : decode prog_2_method_10_code 1 = .ok (.getfield 26, 3) := by decide +kernel
theorem d_Bo_shut_4 : decode prog_2_method_10_code 4 = .ok (.iconst 0, 1) := by decide +kernel
theorem d_Bo_shut_5 : decode prog_2_method_10_code 5 = .ok (.aload_n 0, 1) := by decide +kernel
theorem d_Bo_shut_6 : decode prog_2_method_10_code 6 = .ok (.getfield 22, 3) := by decide +kernel
theorem d_Bo_shut_9 : decode prog_2_method_10_code 9 = .ok (.iconst 0, 1) := by decide +kernel
theorem d_Bo_shut_10 : decode prog_2_method_10_code 10 = .ok (.aload_n 0, 1) := by decide +kernel
theorem d_Bo_shut_11 : decode prog_2_method_10_code 11 = .ok (.getfield 22, 3) := by decide +kernel
theorem d_Bo_shut_14 : decode prog_2_method_10_code 14 = .ok (.arraylength, 1) := by decide +kernel
theorem d_Bo_shut_15 : decode prog_2_method_10_code 15 = .ok (.invokestatic 52, 3) := by decide +kernel
theorem d_Bo_shut_18 : decode prog_2_method_10_code 18 = .ok (.aload_n 0, 1) := by decide +kernel
theorem d_Bo_shut_19 : decode prog_2_method_10_code 19 = .ok (.getfield 9, 3) := by decide +kernel
theorem d_Bo_shut_22 : decode prog_2_method_10_code 22 = .ok (.iconst (-1), 1) := by decide +kernel
theorem d_Bo_shut_23 : decode prog_2_method_10_code 23 = .ok (.invokestatic 32, 3) := by decide +kernel
theorem d_Bo_shut_26 : decode prog_2_method_10_code 26 = .ok (.return_, 1) := by decide +kernel
theorem d_Ar_fill_0 : decode prog_11_method_103_code 0 = .ok (.iconst 0, 1) := by decide +kernel
theorem d_Ar_fill_1 : decode prog_11_method_103_code 1 = .ok (.istore_n 2, 1) := by decide +kernel
theorem d_Ar_fill_2 : decode prog_11_method_103_code 2 = .ok (.aload_n 0, 1) := by decide +kernel
theorem d_Ar_fill_3 : decode prog_11_method_103_code 3 = .ok (.arraylength, 1) := by decide +kernel
theorem d_Ar_fill_4 : decode prog_11_method_103_code 4 = .ok (.istore_n 3, 1) := by decide +kernel
theorem d_Ar_fill_5 : decode prog_11_method_103_code 5 = .ok (.iload_n 2, 1) := by decide +kernel
theorem d_Ar_fill_6 : decode prog_11_method_103_code 6 = .ok (.iload_n 3, 1) := by decide +kernel
theorem d_Ar_fill_7 : decode prog_11_method_103_code 7 = .ok (.if_icmp .ge 13, 3) := by decide +kernel
theorem d_Ar_fill_10 : decode prog_11_method_103_code 10 = .ok (.aload_n 0, 1) := by decide +kernel
theorem d_Ar_fill_11 : decode prog_11_method_103_code 11 = .ok (.iload_n 2, 1) := by decide +kernel
theorem d_Ar_fill_12 : decode prog_11_method_103_code 12 = .ok (.iload_n 1, 1) := by decide +kernel
theorem d_Ar_fill_13 : decode prog_11_method_103_code 13 = .ok (.iastore, 1) := by decide +kernel
theorem d_Ar_fill_14 : decode prog_11_method_103_code 14 = .ok (.iinc 2 1, 3) := by decide +kernel
theorem d_Ar_fill_17 : decode prog_11_method_103_code 17 = .ok (.goto (-12), 3) := by decide +kernel
theorem d_Ar_fill_20 : decode prog_11_method_103_code 20 = .ok (.return_, 1) := by decide +kernel
end
section
theorem d_Ut_init_0 : decode prog_1_method_1_code 0 = .ok (.aload_n 0, 1) := by decide +kernel
theorem d_Ut_init_1 : decode prog_1_method_1_code 1 = .ok (.invokespecial 1, 3) := by decide +kernel
theorem d_Ut_init_4 : decode prog_1_method_1_code 4 = .ok (.iconst 1, 1) := by decide +kernel
theorem d_Ut_init_5 : decode prog_1_method_1_code 5 = .ok (.bipush 8, 2) := by decide +kernel
theorem d_Ut_init_7 : decode prog_1_method_1_code 7 = .ok (.iload_n 1, 1) := by decide +kernel
theorem d_Ut_init_8 : decode prog_1_method_1_code 8 = .ok (.invokestatic 9, 3) := by decide +kernel
theorem d_Ut_init_11 : decode prog_1_method_1_code 11 = .ok (.invokestatic 15, 3) := by decide +kernel
theorem d_Ut_init_14 : decode prog_1_method_1_code 14 = .ok (.istore_n 2, 1) := by decide +kernel
theorem d_Ut_init_15 : decode prog_1_method_1_code 15 = .ok (.aload_n 0, 1) := by decide +kernel
theorem d_Ut_init_16 : decode prog_1_method_1_code 16 = .ok (.iload_n 2, 1) := by decide +kernel
theorem d_Ut_init_17 : decode prog_1_method_1_code 17 = .ok (.anewarray 18, 3) := by decide +kernel
theorem d_Ut_init_20 : decode prog_1_method_1_code 20 = .ok (.putfield 20, 3) := by decide +kernel
theorem d_Ut_init_23 : decode prog_1_method_1_code 23 = .ok (.iconst 0, 1) := by decide +kernel
theorem d_Ut_init_24 : decode prog_1_method_1_code 24 = .ok (.istore_n 3, 1) := by decide +kernel
theorem d_Ut_init_25 : decode prog_1_method_1_code 25 = .ok (.iload_n 3, 1) := by decide +kernel
theorem d_Ut_init_26 : decode prog_1_method_1_code 26 = .ok (.iload_n 2, 1) := by decide +kernel
theorem d_Ut_init_27 : decode prog_1_method_1_code 27 = .ok (.if_icmp .ge 22, 3) := by decide +kernel
theorem d_Ut_init_30 : decode prog_1_method_1_code 30 = .ok (.aload_n 0, 1) := by decide +kernel
theorem d_Ut_init_31 : decode prog_1_method_1_code 31 = .ok (.getfield 20, 3) := by decide +kernel
theorem d_Ut_init_34 : decode prog_1_method_1_code 34 = .ok (.iload_n 3, 1) := by decide +kernel
theorem d_Ut_init_35 : decode prog_1_method_1_code 35 = .ok (.new 18, 3) := by decide +kernel
theorem d_Ut_init_38 : decode prog_1_method_1_code 38 = .ok (.dup, 1) := by decide +kernel
theorem d_Ut_init_39 : decode prog_1_method_1_code 39 = .ok (.invokespecial 24, 3) := by decide +kernel
theorem d_Ut_init_42 : decode prog_1_method_1_code 42 = .ok (.aastore, 1) := by decide +kernel
theorem d_Ut_init_43 : decode prog_1_method_1_code 43 = .ok (.iinc 3 1, 3) := by decide +kernel
theorem d_Ut_init_46 : decode prog_1_method_1_code 46 = .ok (.goto (-21), 3) := by decide +kernel
theorem d_Ut_init_49 : decode prog_1_method_1_code 49 = .ok (.aload_n 0, 1) := by decide +kernel
theorem d_Ut_init_50 : decode prog_1_method_1_code 50 = .ok (.new 25, 3) := by decide +kernel
theorem d_Ut_init_53 : decode prog_1_method_1_code 53 = .ok (.dup, 1) := by decide +kernel
theorem d_Ut_init_54 : decode prog_1_method_1_code 54 = .ok (.invokespecial 27, 3) := by decide +kernel
theorem d_Ut_init_57 : decode prog_1_method_1_code 57 = .ok (.putfield 28, 3) := by decide +kernel
theorem d_Ut_init_60 : decode prog_1_method_1_code 60 = .ok (.aload_n 0, 1) := by decide +kernel
theorem d_Ut_init_61 : decode prog_1_method_1_code 61 = .ok (.new 32, 3) := by decide +kernel
theorem d_Ut_init_64 : decode prog_1_method_1_code 64 = .ok (.dup, 1) := by decide +kernel
theorem d_Ut_init_65 : decode prog_1_method_1_code 65 = .ok (.iload_n 2, 1) := by decide +kernel
theorem d_Ut_init_66 : decode prog_1_method_1_code 66 = .ok (.invokespecial 34, 3) := by decide +kernel
theorem d_Ut_init_69 : decode prog_1_method_1_code 69 = .ok (.putfield 37, 3) := by decide +kernel
theorem d_Ut_init_72 : decode prog_1_method_1_code 72 = .ok (.aload_n 0, 1) := by decide +kernel
theorem d_Ut_init_73 : decode prog_1_method_1_code 73 = .ok (.new 41, 3) := by decide +kernel
theorem d_Ut_init_76 : decode prog_1_method_1_code 76 = .ok (.dup, 1) := by decide +kernel
theorem d_Ut_init_77 : decode prog_1_method_1_code 77 = .ok (.iload_n 2, 1) := by decide +kernel
theorem d_Ut_init_78 : decode prog_1_method_1_code 78 = .ok (.invokespecial 43, 3) := by decide +kernel
theorem d_Ut_init_81 : decode prog_1_method_1_code 81 = .ok (.putfield 44, 3) := by decide +kernel
theorem d_Ut_init_84 : decode prog_1_method_1_code 84 = .ok (.aload_n 0, 1) := by decide +kernel
theorem d_Ut_init_85 : decode prog_1_method_1_code 85 = .ok (.new 48, 3) := by decide +kernel
theorem d_Ut_init_88 : decode prog_1_method_1_code 88 = .ok (.dup, 1) := by decide +kernel
theorem d_Ut_init_89 : decode prog_1_method_1_code 89 = .ok (.iload_n 2, 1) := by decide +kernel
theorem d_Ut_init_90 : decode prog_1_method_1_code 90 = .ok (.invokespecial 50, 3) := by decide +kernel
theorem d_Ut_init_93 : decode prog_1_method_1_code 93 = .ok (.putfield 51, 3) := by decide +kernel
theorem d_Ut_init_96 : decode prog_1_method_1_code 96 = .ok (.aload_n 0, 1) := by decide +kernel
theorem d_Ut_init_97 : decode prog_1_method_1_code 97 = .ok (.bipush 64, 2) := by decide +kernel
theorem d_Ut_init_99 : decode prog_1_method_1_code 99 = .ok (.newarray .int, 2) := by decide +kernel
theorem d_Ut_init_101 : decode prog_1_method_1_code 101 = .ok (.putfield 55, 3) := by decide +kernel
theorem d_Ut_init_104 : decode prog_1_method_1_code 104 = .ok (.aload_n 0, 1) := by decide +kernel
theorem d_Ut_init_105 : decode prog_1_method_1_code 105 = .ok (.iconst 0, 1) := by decide +kernel
theorem d_Ut_init_106 : decode prog_1_method_1_code 106 = .ok (.putfield 59, 3) := by decide +kernel
theorem d_Ut_init_109 : decode prog_1_method_1_code 109 = .ok (.return_, 1) := by decide +kernel
theorem d_Ut_step_0 : decode prog_1_method_2_code 0 = .ok (.aload_n 0, 1) := by decide +kernel
theorem d_Ut_step_1 : decode prog_1_method_2_code 1 = .ok (.iload_n 1, 1) := by decide +kernel
theorem d_Ut_step_2 : decode prog_1_method_2_code 2 = .ok (.iload_n 2, 1) := by decide +kernel
theorem d_Ut_step_3 : decode prog_1_method_2_code 3 = .ok (.invokevirtual 63, 3) := by decide +kernel
theorem d_Ut_step_6 : decode prog_1_method_2_code 6 = .ok (.ifCond .eq 11, 3) := by decide +kernel
theorem d_Ut_step_9 : decode prog_1_method_2_code 9 = .ok (.iload_n 1, 1) := by decide +kernel
theorem d_Ut_step_10 : decode prog_1_method_2_code 10 = .ok (.iload_n 3, 1) := by decide +kernel
theorem d_Ut_step_11 : decode prog_1_method_2_code 11 = .ok (.invokestatic 67, 3) := by decide +kernel
theorem d_Ut_step_14 : decode prog_1_method_2_code 14 = .ok (.ifCond .ne 5, 3) := by decide +kernel
theorem d_Ut_step_17 : decode prog_1_method_2_code 17 = .ok (.iconst 0, 1) := by decide +kernel
theorem d_Ut_step_18 : decode prog_1_method_2_code 18 = .ok (.ireturn, 1) := by decide +kernel
theorem d_Ut_step_19 : decode prog_1_method_2_code 19 = .ok (.aload_n 0, 1) := by decide +kernel
theorem d_Ut_step_20 : decode prog_1_method_2_code 20 = .ok (.iconst 0, 1) := by decide +kernel
theorem d_Ut_step_21 : decode prog_1_method_2_code 21 = .ok (.iload_n 1, 1) := by decide +kernel
theorem d_Ut_step_22 : decode prog_1_method_2_code 22 = .ok (.iload_n 2, 1) := by decide +kernel
theorem d_Ut_step_23 : decode prog_1_method_2_code 23 = .ok (.iload_n 3, 1) := by decide +kernel
theorem d_Ut_step_24 : decode prog_1_method_2_code 24 = .ok (.lload 4, 2) := by decide +kernel
theorem d_Ut_step_26 : decode prog_1_method_2_code 26 = .ok (.invokevirtual 70, 3) := by decide +kernel
theorem d_Ut_step_29 : decode prog_1_method_2_code 29 = .ok (.iconst 1, 1) := by decide +kernel
theorem d_Ut_step_30 : decode prog_1_method_2_code 30 = .ok (.ireturn, 1) := by decide +kernel
theorem d_Ut_asks_0 : decode prog_1_method_3_code 0 = .ok (.aload_n 0, 1) := by decide +kernel
theorem d_Ut_asks_1 : decode prog_1_method_3_code 1 = .ok (.iload_n 1, 1) := by decide +kernel
theorem d_Ut_asks_2 : decode prog_1_method_3_code 2 = .ok (.iload_n 2, 1) := by decide +kernel
theorem d_Ut_asks_3 : decode prog_1_method_3_code 3 = .ok (.invokevirtual 63, 3) := by decide +kernel
theorem d_Ut_asks_6 : decode prog_1_method_3_code 6 = .ok (.ifCond .eq 25, 3) := by decide +kernel
theorem d_Ut_asks_9 : decode prog_1_method_3_code 9 = .ok (.iload_n 3, 1) := by decide +kernel
theorem d_Ut_asks_10 : decode prog_1_method_3_code 10 = .ok (.invokestatic 74, 3) := by decide +kernel
theorem d_Ut_asks_13 : decode prog_1_method_3_code 13 = .ok (.ifCond .eq 18, 3) := by decide +kernel
theorem d_Ut_asks_16 : decode prog_1_method_3_code 16 = .ok (.aload_n 0, 1) := by decide +kernel
theorem d_Ut_asks_17 : decode prog_1_method_3_code 17 = .ok (.getfield 28, 3) := by decide +kernel
theorem d_Ut_asks_20 : decode prog_1_method_3_code 20 = .ok (.iconst 1, 1) := by decide +kernel
theorem d_Ut_asks_21 : decode prog_1_method_3_code 21 = .ok (.iload_n 1, 1) := by decide +kernel
theorem d_Ut_asks_22 : decode prog_1_method_3_code 22 = .ok (.iload_n 2, 1) := by decide +kernel
theorem d_Ut_asks_23 : decode prog_1_method_3_code 23 = .ok (.iload_n 3, 1) := by decide +kernel
theorem d_Ut_asks_24 : decode prog_1_method_3_code 24 = .ok (.invokevirtual 78, 3) := by decide +kernel
theorem d_Ut_asks_27 : decode prog_1_method_3_code 27 = .ok (.iconst (-1), 1) := by decide +kernel
theorem d_Ut_asks_28 : decode prog_1_method_3_code 28 = .ok (.if_icmp .eq 5, 3) := by decide +kernel
theorem d_Ut_asks_31 : decode prog_1_method_3_code 31 = .ok (.iconst 0, 1) := by decide +kernel
theorem d_Ut_asks_32 : decode prog_1_method_3_code 32 = .ok (.ireturn, 1) := by decide +kernel
theorem d_Ut_asks_33 : decode prog_1_method_3_code 33 = .ok (.aload_n 0, 1) := by decide +kernel
theorem d_Ut_asks_34 : decode prog_1_method_3_code 34 = .ok (.iconst 1, 1) := by decide +kernel
theorem d_Ut_asks_35 : decode prog_1_method_3_code 35 = .ok (.iload_n 1, 1) := by decide +kernel
theorem d_Ut_asks_36 : decode prog_1_method_3_code 36 = .ok (.iload_n 2, 1) := by decide +kernel
theorem d_Ut_asks_37 : decode prog_1_method_3_code 37 = .ok (.iload_n 3, 1) := by decide +kernel
theorem d_Ut_asks_38 : decode prog_1_method_3_code 38 = .ok (.lconst 0, 1) := by decide +kernel
theorem d_Ut_asks_39 : decode prog_1_method_3_code 39 = .ok (.invokevirtual 70, 3) := by decide +kernel
theorem d_Ut_asks_42 : decode prog_1_method_3_code 42 = .ok (.iconst 1, 1) := by decide +kernel
theorem d_Ut_asks_43 : decode prog_1_method_3_code 43 = .ok (.ireturn, 1) := by decide +kernel
theorem d_Ut_throwsAt_0 : decode prog_1_method_4_code 0 = .ok (.aload_n 0, 1) := by decide +kernel
theorem d_Ut_throwsAt_1 : decode prog_1_method_4_code 1 = .ok (.iload_n 1, 1) := by decide +kernel
theorem d_Ut_throwsAt_2 : decode prog_1_method_4_code 2 = .ok (.iload_n 2, 1) := by decide +kernel
theorem d_Ut_throwsAt_3 : decode prog_1_method_4_code 3 = .ok (.invokevirtual 63, 3) := by decide +kernel
theorem d_Ut_throwsAt_6 : decode prog_1_method_4_code 6 = .ok (.ifCond .eq 18, 3) := by decide +kernel
theorem d_Ut_throwsAt_9 : decode prog_1_method_4_code 9 = .ok (.aload_n 0, 1) := by decide +kernel
theorem d_Ut_throwsAt_10 : decode prog_1_method_4_code 10 = .ok (.getfield 28, 3) := by decide +kernel
theorem d_Ut_throwsAt_13 : decode prog_1_method_4_code 13 = .ok (.iconst 2, 1) := by decide +kernel
theorem d_Ut_throwsAt_14 : decode prog_1_method_4_code 14 = .ok (.iload_n 1, 1) := by decide +kernel
theorem d_Ut_throwsAt_15 : decode prog_1_method_4_code 15 = .ok (.iload_n 2, 1) := by decide +kernel
theorem d_Ut_throwsAt_16 : decode prog_1_method_4_code 16 = .ok (.iconst 0, 1) := by decide +kernel
theorem d_Ut_throwsAt_17 : decode prog_1_method_4_code 17 = .ok (.invokevirtual 78, 3) := by decide +kernel
theorem d_Ut_throwsAt_20 : decode prog_1_method_4_code 20 = .ok (.iconst (-1), 1) := by decide +kernel
theorem d_Ut_throwsAt_21 : decode prog_1_method_4_code 21 = .ok (.if_icmp .eq 5, 3) := by decide +kernel
theorem d_Ut_throwsAt_24 : decode prog_1_method_4_code 24 = .ok (.iconst 0, 1) := by decide +kernel
theorem d_Ut_throwsAt_25 : decode prog_1_method_4_code 25 = .ok (.ireturn, 1) := by decide +kernel
theorem d_Ut_throwsAt_26 : decode prog_1_method_4_code 26 = .ok (.aload_n 0, 1) := by decide +kernel
theorem d_Ut_throwsAt_27 : decode prog_1_method_4_code 27 = .ok (.iconst 2, 1) := by decide +kernel
theorem d_Ut_throwsAt_28 : decode prog_1_method_4_code 28 = .ok (.iload_n 1, 1) := by decide +kernel
theorem d_Ut_throwsAt_29 : decode prog_1_method_4_code 29 = .ok (.iload_n 2, 1) := by decide +kernel
theorem d_Ut_throwsAt_30 : decode prog_1_method_4_code 30 = .ok (.iconst 0, 1) := by decide +kernel
theorem d_Ut_throwsAt_31 : decode prog_1_method_4_code 31 = .ok (.lconst 0, 1) := by decide +kernel
theorem d_Ut_throwsAt_32 : decode prog_1_method_4_code 32 = .ok (.invokevirtual 70, 3) := by decide +kernel
theorem d_Ut_throwsAt_35 : decode prog_1_method_4_code 35 = .ok (.iconst 1, 1) := by decide +kernel
theorem d_Ut_throwsAt_36 : decode prog_1_method_4_code 36 = .ok (.ireturn, 1) := by decide +kernel
theorem d_Ut_safe_0 : decode prog_1_method_5_code 0 = .ok (.aload_n 0, 1) := by decide +kernel
theorem d_Ut_safe_1 : decode prog_1_method_5_code 1 = .ok (.getfield 51, 3) := by decide +kernel
theorem d_Ut_safe_4 : decode prog_1_method_5_code 4 = .ok (.iload_n 1, 1) := by decide +kernel
theorem d_Ut_safe_5 : decode prog_1_method_5_code 5 = .ok (.invokevirtual 82, 3) := by decide +kernel
theorem d_Ut_safe_8 : decode prog_1_method_5_code 8 = .ok (.ifCond .eq 10, 3) := by decide +kernel
theorem d_Ut_safe_11 : decode prog_1_method_5_code 11 = .ok (.aload_n 0, 1) := by decide +kernel
theorem d_Ut_safe_12 : decode prog_1_method_5_code 12 = .ok (.getfield 59, 3) := by decide +kernel
theorem d_Ut_safe_15 : decode prog_1_method_5_code 15 = .ok (.ifCond .eq 5, 3) := by decide +kernel
theorem d_Ut_safe_18 : decode prog_1_method_5_code 18 = .ok (.iconst 0, 1) := by decide +kernel
theorem d_Ut_safe_19 : decode prog_1_method_5_code 19 = .ok (.ireturn, 1) := by decide +kernel
theorem d_Ut_safe_20 : decode prog_1_method_5_code 20 = .ok (.aload_n 0, 1) := by decide +kernel
theorem d_Ut_safe_21 : decode prog_1_method_5_code 21 = .ok (.getfield 51, 3) := by decide +kernel
theorem d_Ut_safe_24 : decode prog_1_method_5_code 24 = .ok (.getfield 85, 3) := by decide +kernel
theorem d_Ut_safe_27 : decode prog_1_method_5_code 27 = .ok (.iload_n 1, 1) := by decide +kernel
theorem d_Ut_safe_28 : decode prog_1_method_5_code 28 = .ok (.lload_n 2, 1) := by decide +kernel
theorem d_Ut_safe_29 : decode prog_1_method_5_code 29 = .ok (.lastore, 1) := by decide +kernel
theorem d_Ut_safe_30 : decode prog_1_method_5_code 30 = .ok (.iconst 1, 1) := by decide +kernel
theorem d_Ut_safe_31 : decode prog_1_method_5_code 31 = .ok (.ireturn, 1) := by decide +kernel
theorem d_Ut_bar_0 : decode prog_1_method_6_code 0 = .ok (.iload_n 1, 1) := by decide +kernel
theorem d_Ut_bar_1 : decode prog_1_method_6_code 1 = .ok (.invokestatic 74, 3) := by decide +kernel
theorem d_Ut_bar_4 : decode prog_1_method_6_code 4 = .ok (.ifCond .eq 20, 3) := by decide +kernel
theorem d_Ut_bar_7 : decode prog_1_method_6_code 7 = .ok (.iload_n 2, 1) := by decide +kernel
theorem d_Ut_bar_8 : decode prog_1_method_6_code 8 = .ok (.ifCond .lt 16, 3) := by decide +kernel
theorem d_Ut_bar_11 : decode prog_1_method_6_code 11 = .ok (.iload_n 2, 1) := by decide +kernel
theorem d_Ut_bar_12 : decode prog_1_method_6_code 12 = .ok (.bipush 64, 2) := by decide +kernel
theorem d_Ut_bar_14 : decode prog_1_method_6_code 14 = .ok (.if_icmp .ge 10, 3) := by decide +kernel
theorem d_Ut_bar_17 : decode prog_1_method_6_code 17 = .ok (.aload_n 0, 1) := by decide +kernel
theorem d_Ut_bar_18 : decode prog_1_method_6_code 18 = .ok (.getfield 59, 3) := by decide +kernel
theorem d_Ut_bar_21 : decode prog_1_method_6_code 21 = .ok (.ifCond .eq 5, 3) := by decide +kernel
theorem d_Ut_bar_24 : decode prog_1_method_6_code 24 = .ok (.iconst 0, 1) := by decide +kernel
theorem d_Ut_bar_25 : decode prog_1_method_6_code 25 = .ok (.ireturn, 1) := by decide +kernel
theorem d_Ut_bar_26 : decode prog_1_method_6_code 26 = .ok (.iload_n 2, 1) := by decide +kernel
theorem d_Ut_bar_27 : decode prog_1_method_6_code 27 = .ok (.aload_n 0, 1) := by decide +kernel
theorem d_Ut_bar_28 : decode prog_1_method_6_code 28 = .ok (.getfield 51, 3) := by decide +kernel
theorem d_Ut_bar_31 : decode prog_1_method_6_code 31 = .ok (.getfield 89, 3) := by decide +kernel
theorem d_Ut_bar_34 : decode prog_1_method_6_code 34 = .ok (.if_icmp .lt 16, 3) := by decide +kernel
theorem d_Ut_bar_37 : decode prog_1_method_6_code 37 = .ok (.aload_n 0, 1) := by decide +kernel
theorem d_Ut_bar_38 : decode prog_1_method_6_code 38 = .ok (.getfield 55, 3) := by decide +kernel
theorem d_Ut_bar_41 : decode prog_1_method_6_code 41 = .ok (.iload_n 2, 1) := by decide +kernel
theorem d_Ut_bar_42 : decode prog_1_method_6_code 42 = .ok (.iaload, 1) := by decide +kernel
theorem d_Ut_bar_43 : decode prog_1_method_6_code 43 = .ok (.iload_n 1, 1) := by decide +kernel
theorem d_Ut_bar_44 : decode prog_1_method_6_code 44 = .ok (.invokestatic 93, 3) := by decide +kernel
theorem d_Ut_bar_47 : decode prog_1_method_6_code 47 = .ok (.ifCond .eq 5, 3) := by decide +kernel
theorem d_Ut_bar_50 : decode prog_1_method_6_code 50 = .ok (.iconst 0, 1) := by decide +kernel
theorem d_Ut_bar_51 : decode prog_1_method_6_code 51 = .ok (.ireturn, 1) := by decide +kernel
theorem d_Ut_bar_52 : decode prog_1_method_6_code 52 = .ok (.aload_n 0, 1) := by decide +kernel
theorem d_Ut_bar_53 : decode prog_1_method_6_code 53 = .ok (.getfield 55, 3) := by decide +kernel
theorem d_Ut_bar_56 : decode prog_1_method_6_code 56 = .ok (.iload_n 2, 1) := by decide +kernel
theorem d_Ut_bar_57 : decode prog_1_method_6_code 57 = .ok (.dup2, 1) := by decide +kernel
theorem d_Ut_bar_58 : decode prog_1_method_6_code 58 = .ok (.iaload, 1) := by decide +kernel
theorem d_Ut_bar_59 : decode prog_1_method_6_code 59 = .ok (.iconst 1, 1) := by decide +kernel
theorem d_Ut_bar_60 : decode prog_1_method_6_code 60 = .ok (.iload_n 1, 1) := by decide +kernel
theorem d_Ut_bar_61 : decode prog_1_method_6_code 61 = .ok (.ishl, 1) := by decide +kernel
theorem d_Ut_bar_62 : decode prog_1_method_6_code 62 = .ok (.ior, 1) := by decide +kernel
theorem d_Ut_bar_63 : decode prog_1_method_6_code 63 = .ok (.iastore, 1) := by decide +kernel
theorem d_Ut_bar_64 : decode prog_1_method_6_code 64 = .ok (.iconst 1, 1) := by decide +kernel
theorem d_Ut_bar_65 : decode prog_1_method_6_code 65 = .ok (.ireturn, 1) := by decide +kernel
theorem d_Ut_play_0 : decode prog_1_method_7_code 0 = .ok (.iload_n 3, 1) := by decide +kernel
theorem d_Ut_play_1 : decode prog_1_method_7_code 1 = .ok (.ifCond .lt 16, 3) := by decide +kernel
theorem d_Ut_play_4 : decode prog_1_method_7_code 4 = .ok (.iload_n 3, 1) := by decide +kernel
theorem d_Ut_play_5 : decode prog_1_method_7_code 5 = .ok (.bipush 64, 2) := by decide +kernel
theorem d_Ut_play_7 : decode prog_1_method_7_code 7 = .ok (.if_icmp .gt 10, 3) := by decide +kernel
theorem d_Ut_play_10 : decode prog_1_method_7_code 10 = .ok (.aload_n 0, 1) := by decide +kernel
theorem d_Ut_play_11 : decode prog_1_method_7_code 11 = .ok (.getfield 59, 3) := by decide +kernel
theorem d_Ut_play_14 : decode prog_1_method_7_code 14 = .ok (.ifCond .eq 5, 3) := by decide +kernel
theorem d_Ut_play_17 : decode prog_1_method_7_code 17 = .ok (.iconst (-1), 1) := by decide +kernel
theorem d_Ut_play_18 : decode prog_1_method_7_code 18 = .ok (.ireturn, 1) := by decide +kernel
theorem d_Ut_play_19 : decode prog_1_method_7_code 19 = .ok (.aload_n 0, 1) := by decide +kernel
theorem d_Ut_play_20 : decode prog_1_method_7_code 20 = .ok (.getfield 37, 3) := by decide +kernel
theorem d_Ut_play_23 : decode prog_1_method_7_code 23 = .ok (.lload_n 1, 1) := by decide +kernel
theorem d_Ut_play_24 : decode prog_1_method_7_code 24 = .ok (.putfield 96, 3) := by decide +kernel
theorem d_Ut_play_27 : decode prog_1_method_7_code 27 = .ok (.iconst 0, 1) := by decide +kernel
theorem d_Ut_play_28 : decode prog_1_method_7_code 28 = .ok (.istore 4, 2) := by decide +kernel
theorem d_Ut_play_30 : decode prog_1_method_7_code 30 = .ok (.iload 4, 2) := by decide +kernel
theorem d_Ut_play_32 : decode prog_1_method_7_code 32 = .ok (.iload_n 3, 1) := by decide +kernel
theorem d_Ut_play_33 : decode prog_1_method_7_code 33 = .ok (.if_icmp .ge 32, 3) := by decide +kernel
theorem d_Ut_play_36 : decode prog_1_method_7_code 36 = .ok (.aload_n 0, 1) := by decide +kernel
theorem d_Ut_play_37 : decode prog_1_method_7_code 37 = .ok (.getfield 51, 3) := by decide +kernel
theorem d_Ut_play_40 : decode prog_1_method_7_code 40 = .ok (.getfield 89, 3) := by decide +kernel
theorem d_Ut_play_43 : decode prog_1_method_7_code 43 = .ok (.bipush 64, 2) := by decide +kernel
theorem d_Ut_play_45 : decode prog_1_method_7_code 45 = .ok (.if_icmp .ge 20, 3) := by decide +kernel
theorem d_Ut_play_48 : decode prog_1_method_7_code 48 = .ok (.aload_n 0, 1) := by decide +kernel
theorem d_Ut_play_49 : decode prog_1_method_7_code 49 = .ok (.invokevirtual 100, 3) := by decide +kernel
theorem d_Ut_play_52 : decode prog_1_method_7_code 52 = .ok (.ifCond .le 13, 3) := by decide +kernel
theorem d_Ut_play_55 : decode prog_1_method_7_code 55 = .ok (.aload_n 0, 1) := by decide +kernel
theorem d_Ut_play_56 : decode prog_1_method_7_code 56 = .ok (.invokevirtual 104, 3) := by decide +kernel
theorem d_Ut_play_59 : decode prog_1_method_7_code 59 = .ok (.iinc 4 1, 3) := by decide +kernel
theorem d_Ut_play_62 : decode prog_1_method_7_code 62 = .ok (.goto (-32), 3) := by decide +kernel
theorem d_Ut_play_65 : decode prog_1_method_7_code 65 = .ok (.iload 4, 2) := by decide +kernel
theorem d_Ut_play_67 : decode prog_1_method_7_code 67 = .ok (.ireturn, 1) := by decide +kernel
theorem d_Ut_output_0 : decode prog_1_method_8_code 0 = .ok (.aload_n 0, 1) := by decide +kernel
theorem d_Ut_output_1 : decode prog_1_method_8_code 1 = .ok (.getfield 51, 3) := by decide +kernel
theorem d_Ut_output_4 : decode prog_1_method_8_code 4 = .ok (.iload_n 1, 1) := by decide +kernel
theorem d_Ut_output_5 : decode prog_1_method_8_code 5 = .ok (.iload_n 2, 1) := by decide +kernel
theorem d_Ut_output_6 : decode prog_1_method_8_code 6 = .ok (.invokevirtual 107, 3) := by decide +kernel
theorem d_Ut_output_9 : decode prog_1_method_8_code 9 = .ok (.lreturn, 1) := by decide +kernel
theorem d_Ut_owner_0 : decode prog_1_method_9_code 0 = .ok (.aload_n 0, 1) := by decide +kernel
theorem d_Ut_owner_1 : decode prog_1_method_9_code 1 = .ok (.getfield 51, 3) := by decide +kernel
theorem d_Ut_owner_4 : decode prog_1_method_9_code 4 = .ok (.iload_n 1, 1) := by decide +kernel
theorem d_Ut_owner_5 : decode prog_1_method_9_code 5 = .ok (.iload_n 2, 1) := by decide +kernel
theorem d_Ut_owner_6 : decode prog_1_method_9_code 6 = .ok (.invokevirtual 111, 3) := by decide +kernel
theorem d_Ut_owner_9 : decode prog_1_method_9_code 9 = .ok (.ireturn, 1) := by decide +kernel
theorem d_Ut_state_0 : decode prog_1_method_10_code 0 = .ok (.aload_n 0, 1) := by decide +kernel
theorem d_Ut_state_1 : decode prog_1_method_10_code 1 = .ok (.iload_n 1, 1) := by decide +kernel
theorem d_Ut_state_2 : decode prog_1_method_10_code 2 = .ok (.invokevirtual 114, 3) := by decide +kernel
theorem d_Ut_state_5 : decode prog_1_method_10_code 5 = .ok (.ifCond .eq 11, 3) := by decide +kernel
theorem d_Ut_state_8 : decode prog_1_method_10_code 8 = .ok (.aload_n 0, 1) := by decide +kernel
theorem d_Ut_state_9 : decode prog_1_method_10_code 9 = .ok (.iload_n 1, 1) := by decide +kernel
theorem d_Ut_state_10 : decode prog_1_method_10_code 10 = .ok (.invokevirtual 117, 3) := by decide +kernel
theorem d_Ut_state_13 : decode prog_1_method_10_code 13 = .ok (.goto 4, 3) := by decide +kernel
theorem d_Ut_state_16 : decode prog_1_method_10_code 16 = .ok (.iconst (-1), 1) := by decide +kernel
theorem d_Ut_state_17 : decode prog_1_method_10_code 17 = .ok (.ireturn, 1) := by decide +kernel
theorem d_Ut_restart_0 : decode prog_1_method_11_code 0 = .ok (.aload_n 0, 1) := by decide +kernel
theorem d_Ut_restart_1 : decode prog_1_method_11_code 1 = .ok (.iload_n 1, 1) := by decide +kernel
theorem d_Ut_restart_2 : decode prog_1_method_11_code 2 = .ok (.invokevirtual 114, 3) := by decide +kernel
theorem d_Ut_restart_5 : decode prog_1_method_11_code 5 = .ok (.ifCond .eq 12, 3) := by decide +kernel
theorem d_Ut_restart_8 : decode prog_1_method_11_code 8 = .ok (.aload_n 0, 1) := by decide +kernel
theorem d_Ut_restart_9 : decode prog_1_method_11_code 9 = .ok (.iload_n 1, 1) := by decide +kernel
theorem d_Ut_restart_10 : decode prog_1_method_11_code 10 = .ok (.invokevirtual 117, 3) := by decide +kernel
theorem d_Ut_restart_13 : decode prog_1_method_11_code 13 = .ok (.iconst 2, 1) := by decide +kernel
theorem d_Ut_restart_14 : decode prog_1_method_11_code 14 = .ok (.if_icmp .eq 5, 3) := by decide +kernel
theorem d_Ut_restart_17 : decode prog_1_method_11_code 17 = .ok (.iconst 0, 1) := by decide +kernel
theorem d_Ut_restart_18 : decode prog_1_method_11_code 18 = .ok (.ireturn, 1) := by decide +kernel
theorem d_Ut_restart_19 : decode prog_1_method_11_code 19 = .ok (.aload_n 0, 1) := by decide +kernel
theorem d_Ut_restart_20 : decode prog_1_method_11_code 20 = .ok (.getfield 20, 3) := by decide +kernel
theorem d_Ut_restart_23 : decode prog_1_method_11_code 23 = .ok (.iload_n 1, 1) := by decide +kernel
theorem d_Ut_restart_24 : decode prog_1_method_11_code 24 = .ok (.aaload, 1) := by decide +kernel
theorem d_Ut_restart_25 : decode prog_1_method_11_code 25 = .ok (.iconst 0, 1) := by decide +kernel
theorem d_Ut_restart_26 : decode prog_1_method_11_code 26 = .ok (.putfield 121, 3) := by decide +kernel
theorem d_Ut_restart_29 : decode prog_1_method_11_code 29 = .ok (.iconst 1, 1) := by decide +kernel
theorem d_Ut_restart_30 : decode prog_1_method_11_code 30 = .ok (.ireturn, 1) := by decide +kernel
theorem d_Ut_held_0 : decode prog_1_method_12_code 0 = .ok (.aload_n 0, 1) := by decide +kernel
theorem d_Ut_held_1 : decode prog_1_method_12_code 1 = .ok (.iload_n 1, 1) := by decide +kernel
theorem d_Ut_held_2 : decode prog_1_method_12_code 2 = .ok (.invokevirtual 114, 3) := by decide +kernel
theorem d_Ut_held_5 : decode prog_1_method_12_code 5 = .ok (.ifCond .eq 24, 3) := by decide +kernel
theorem d_Ut_held_8 : decode prog_1_method_12_code 8 = .ok (.aload_n 0, 1) := by decide +kernel
theorem d_Ut_held_9 : decode prog_1_method_12_code 9 = .ok (.iload_n 1, 1) := by decide +kernel
theorem d_Ut_held_10 : decode prog_1_method_12_code 10 = .ok (.invokevirtual 117, 3) := by decide +kernel
theorem d_Ut_held_13 : decode prog_1_method_12_code 13 = .ok (.iconst 2, 1) := by decide +kernel
theorem d_Ut_held_14 : decode prog_1_method_12_code 14 = .ok (.if_icmp .ne 15, 3) := by decide +kernel
theorem d_Ut_held_17 : decode prog_1_method_12_code 17 = .ok (.aload_n 0, 1) := by decide +kernel
theorem d_Ut_held_18 : decode prog_1_method_12_code 18 = .ok (.getfield 20, 3) := by decide +kernel
theorem d_Ut_held_21 : decode prog_1_method_12_code 21 = .ok (.iload_n 1, 1) := by decide +kernel
theorem d_Ut_held_22 : decode prog_1_method_12_code 22 = .ok (.aaload, 1) := by decide +kernel
theorem d_Ut_held_23 : decode prog_1_method_12_code 23 = .ok (.getfield 124, 3) := by decide +kernel
theorem d_Ut_held_26 : decode prog_1_method_12_code 26 = .ok (.goto 4, 3) := by decide +kernel
theorem d_Ut_held_29 : decode prog_1_method_12_code 29 = .ok (.iconst (-1), 1) := by decide +kernel
theorem d_Ut_held_30 : decode prog_1_method_12_code 30 = .ok (.ireturn, 1) := by decide +kernel
theorem d_Ut_log_0 : decode prog_1_method_13_code 0 = .ok (.aload_n 0, 1) := by decide +kernel
theorem d_Ut_log_1 : decode prog_1_method_13_code 1 = .ok (.getfield 44, 3) := by decide +kernel
theorem d_Ut_log_4 : decode prog_1_method_13_code 4 = .ok (.iload_n 1, 1) := by decide +kernel
theorem d_Ut_log_5 : decode prog_1_method_13_code 5 = .ok (.iload_n 2, 1) := by decide +kernel
theorem d_Ut_log_6 : decode prog_1_method_13_code 6 = .ok (.invokevirtual 127, 3) := by decide +kernel
theorem d_Ut_log_9 : decode prog_1_method_13_code 9 = .ok (.ireturn, 1) := by decide +kernel
theorem d_Ut_count_0 : decode prog_1_method_14_code 0 = .ok (.iload_n 1, 1) := by decide +kernel
theorem d_Ut_count_1 : decode prog_1_method_14_code 1 = .ok (.tableswitch 60 0 3 #[31, 39, 47, 55], 31) := by decide +kernel
theorem d_Ut_count_32 : decode prog_1_method_14_code 32 = .ok (.aload_n 0, 1) := by decide +kernel
theorem d_Ut_count_33 : decode prog_1_method_14_code 33 = .ok (.getfield 51, 3) := by decide +kernel
theorem d_Ut_count_36 : decode prog_1_method_14_code 36 = .ok (.getfield 89, 3) := by decide +kernel
theorem d_Ut_count_39 : decode prog_1_method_14_code 39 = .ok (.ireturn, 1) := by decide +kernel
theorem d_Ut_count_40 : decode prog_1_method_14_code 40 = .ok (.aload_n 0, 1) := by decide +kernel
theorem d_Ut_count_41 : decode prog_1_method_14_code 41 = .ok (.getfield 44, 3) := by decide +kernel
theorem d_Ut_count_44 : decode prog_1_method_14_code 44 = .ok (.getfield 130, 3) := by decide +kernel
theorem d_Ut_count_47 : decode prog_1_method_14_code 47 = .ok (.ireturn, 1) := by decide +kernel
theorem d_Ut_count_48 : decode prog_1_method_14_code 48 = .ok (.aload_n 0, 1) := by decide +kernel
theorem d_Ut_count_49 : decode prog_1_method_14_code 49 = .ok (.getfield 28, 3) := by decide +kernel
theorem d_Ut_count_52 : decode prog_1_method_14_code 52 = .ok (.getfield 133, 3) := by decide +kernel
theorem d_Ut_count_55 : decode prog_1_method_14_code 55 = .ok (.ireturn, 1) := by decide +kernel
theorem d_Ut_count_56 : decode prog_1_method_14_code 56 = .ok (.aload_n 0, 1) := by decide +kernel
theorem d_Ut_count_57 : decode prog_1_method_14_code 57 = .ok (.invokevirtual 100, 3) := by decide +kernel
theorem d_Ut_count_60 : decode prog_1_method_14_code 60 = .ok (.ireturn, 1) := by decide +kernel
theorem d_Ut_count_61 : decode prog_1_method_14_code 61 = .ok (.iload_n 1, 1) := by decide +kernel
theorem d_Ut_count_62 : decode prog_1_method_14_code 62 = .ok (.iconst 4, 1) := by decide +kernel
theorem d_Ut_count_63 : decode prog_1_method_14_code 63 = .ok (.if_icmp .lt 27, 3) := by decide +kernel
theorem d_Ut_count_66 : decode prog_1_method_14_code 66 = .ok (.aload_n 0, 1) := by decide +kernel
theorem d_Ut_count_67 : decode prog_1_method_14_code 67 = .ok (.iload_n 1, 1) := by decide +kernel
theorem d_Ut_count_68 : decode prog_1_method_14_code 68 = .ok (.iconst 4, 1) := by decide +kernel
theorem d_Ut_count_69 : decode prog_1_method_14_code 69 = .ok (.isub, 1) := by decide +kernel
theorem d_Ut_count_70 : decode prog_1_method_14_code 70 = .ok (.invokevirtual 114, 3) := by decide +kernel
theorem d_Ut_count_73 : decode prog_1_method_14_code 73 = .ok (.ifCond .eq 17, 3) := by decide +kernel
theorem d_Ut_count_76 : decode prog_1_method_14_code 76 = .ok (.aload_n 0, 1) := by decide +kernel
theorem d_Ut_count_77 : decode prog_1_method_14_code 77 = .ok (.getfield 20, 3) := by decide +kernel
theorem d_Ut_count_80 : decode prog_1_method_14_code 80 = .ok (.iload_n 1, 1) := by decide +kernel
theorem d_Ut_count_81 : decode prog_1_method_14_code 81 = .ok (.iconst 4, 1) := by decide +kernel
theorem d_Ut_count_82 : decode prog_1_method_14_code 82 = .ok (.isub, 1) := by decide +kernel
theorem d_Ut_count_83 : decode prog_1_method_14_code 83 = .ok (.aaload, 1) := by decide +kernel
theorem d_Ut_count_84 : decode prog_1_method_14_code 84 = .ok (.getfield 134, 3) := by decide +kernel
theorem d_Ut_count_87 : decode prog_1_method_14_code 87 = .ok (.goto 4, 3) := by decide +kernel
theorem d_Ut_count_90 : decode prog_1_method_14_code 90 = .ok (.iconst (-1), 1) := by decide +kernel
theorem d_Ut_count_91 : decode prog_1_method_14_code 91 = .ok (.ireturn, 1) := by decide +kernel
theorem d_Ut_close_0 : decode prog_1_method_15_code 0 = .ok (.aload_n 0, 1) := by decide +kernel
theorem d_Ut_close_1 : decode prog_1_method_15_code 1 = .ok (.getfield 59, 3) := by decide +kernel
theorem d_Ut_close_4 : decode prog_1_method_15_code 4 = .ok (.ifCond .eq 5, 3) := by decide +kernel
theorem d_Ut_close_7 : decode prog_1_method_15_code 7 = .ok (.iconst 0, 1) := by decide +kernel
theorem d_Ut_close_8 : decode prog_1_method_15_code 8 = .ok (.ireturn, 1) := by decide +kernel
theorem d_Ut_close_9 : decode prog_1_method_15_code 9 = .ok (.iconst 0, 1) := by decide +kernel
theorem d_Ut_close_10 : decode prog_1_method_15_code 10 = .ok (.istore_n 1, 1) := by decide +kernel
theorem d_Ut_close_11 : decode prog_1_method_15_code 11 = .ok (.iconst 0, 1) := by decide +kernel
theorem d_Ut_close_12 : decode prog_1_method_15_code 12 = .ok (.istore_n 2, 1) := by decide +kernel
theorem d_Ut_close_13 : decode prog_1_method_15_code 13 = .ok (.iload_n 2, 1) := by decide +kernel
theorem d_Ut_close_14 : decode prog_1_method_15_code 14 = .ok (.aload_n 0, 1) := by decide +kernel
theorem d_Ut_close_15 : decode prog_1_method_15_code 15 = .ok (.getfield 20, 3) := by decide +kernel
theorem d_Ut_close_18 : decode prog_1_method_15_code 18 = .ok (.arraylength, 1) := by decide +kernel
theorem d_Ut_close_19 : decode prog_1_method_15_code 19 = .ok (.if_icmp .ge 21, 3) := by decide +kernel
theorem d_Ut_close_22 : decode prog_1_method_15_code 22 = .ok (.aload_n 0, 1) := by decide +kernel
theorem d_Ut_close_23 : decode prog_1_method_15_code 23 = .ok (.iload_n 2, 1) := by decide +kernel
theorem d_Ut_close_24 : decode prog_1_method_15_code 24 = .ok (.invokevirtual 117, 3) := by decide +kernel
theorem d_Ut_close_27 : decode prog_1_method_15_code 27 = .ok (.iconst 3, 1) := by decide +kernel
theorem d_Ut_close_28 : decode prog_1_method_15_code 28 = .ok (.if_icmp .eq 6, 3) := by decide +kernel
theorem d_Ut_close_31 : decode prog_1_method_15_code 31 = .ok (.iinc 1 1, 3) := by decide +kernel
theorem d_Ut_close_34 : decode prog_1_method_15_code 34 = .ok (.iinc 2 1, 3) := by decide +kernel
theorem d_Ut_close_37 : decode prog_1_method_15_code 37 = .ok (.goto (-24), 3) := by decide +kernel
theorem d_Ut_close_40 : decode prog_1_method_15_code 40 = .ok (.aload_n 0, 1) := by decide +kernel
theorem d_Ut_close_41 : decode prog_1_method_15_code 41 = .ok (.getfield 51, 3) := by decide +kernel
theorem d_Ut_close_44 : decode prog_1_method_15_code 44 = .ok (.invokevirtual 137, 3) := by decide +kernel
theorem d_Ut_close_47 : decode prog_1_method_15_code 47 = .ok (.aload_n 0, 1) := by decide +kernel
theorem d_Ut_close_48 : decode prog_1_method_15_code 48 = .ok (.iconst 1, 1) := by decide +kernel
theorem d_Ut_close_49 : decode prog_1_method_15_code 49 = .ok (.putfield 59, 3) := by decide +kernel
theorem d_Ut_close_52 : decode prog_1_method_15_code 52 = .ok (.iload_n 1, 1) := by decide +kernel
theorem d_Ut_close_53 : decode prog_1_method_15_code 53 = .ok (.ireturn, 1) := by decide +kernel
theorem d_Ut_isUnit_0 : decode prog_1_method_16_code 0 = .ok (.iload_n 1, 1) := by decide +kernel
theorem d_Ut_isUnit_1 : decode prog_1_method_16_code 1 = .ok (.ifCond .lt 16, 3) := by decide +kernel
theorem d_Ut_isUnit_4 : decode prog_1_method_16_code 4 = .ok (.iload_n 1, 1) := by decide +kernel
theorem d_Ut_isUnit_5 : decode prog_1_method_16_code 5 = .ok (.aload_n 0, 1) := by decide +kernel
theorem d_Ut_isUnit_6 : decode prog_1_method_16_code 6 = .ok (.getfield 20, 3) := by decide +kernel
theorem d_Ut_isUnit_9 : decode prog_1_method_16_code 9 = .ok (.arraylength, 1) := by decide +kernel
theorem d_Ut_isUnit_10 : decode prog_1_method_16_code 10 = .ok (.if_icmp .ge 7, 3) := by decide +kernel
theorem d_Ut_isUnit_13 : decode prog_1_method_16_code 13 = .ok (.iconst 1, 1) := by decide +kernel
theorem d_Ut_isUnit_14 : decode prog_1_method_16_code 14 = .ok (.goto 4, 3) := by decide +kernel
theorem d_Ut_isUnit_17 : decode prog_1_method_16_code 17 = .ok (.iconst 0, 1) := by decide +kernel
theorem d_Ut_isUnit_18 : decode prog_1_method_16_code 18 = .ok (.ireturn, 1) := by decide +kernel
theorem d_Ut_isWay_0 : decode prog_1_method_17_code 0 = .ok (.iload_n 0, 1) := by decide +kernel
theorem d_Ut_isWay_1 : decode prog_1_method_17_code 1 = .ok (.ifCond .lt 13, 3) := by decide +kernel
theorem d_Ut_isWay_4 : decode prog_1_method_17_code 4 = .ok (.iload_n 0, 1) := by decide +kernel
theorem d_Ut_isWay_5 : decode prog_1_method_17_code 5 = .ok (.bipush 16, 2) := by decide +kernel
theorem d_Ut_isWay_7 : decode prog_1_method_17_code 7 = .ok (.if_icmp .ge 7, 3) := by decide +kernel
theorem d_Ut_isWay_10 : decode prog_1_method_17_code 10 = .ok (.iconst 1, 1) := by decide +kernel
theorem d_Ut_isWay_11 : decode prog_1_method_17_code 11 = .ok (.goto 4, 3) := by decide +kernel
theorem d_Ut_isWay_14 : decode prog_1_method_17_code 14 = .ok (.iconst 0, 1) := by decide +kernel
theorem d_Ut_isWay_15 : decode prog_1_method_17_code 15 = .ok (.ireturn, 1) := by decide +kernel
theorem d_Ut_isOutputOf_0 : decode prog_1_method_18_code 0 = .ok (.iload_n 1, 1) := by decide +kernel
theorem d_Ut_isOutputOf_1 : decode prog_1_method_18_code 1 = .ok (.ifCond .lt 14, 3) := by decide +kernel
theorem d_Ut_isOutputOf_4 : decode prog_1_method_18_code 4 = .ok (.iload_n 1, 1) := by decide +kernel
theorem d_Ut_isOutputOf_5 : decode prog_1_method_18_code 5 = .ok (.iconst 4, 1) := by decide +kernel
theorem d_Ut_isOutputOf_6 : decode prog_1_method_18_code 6 = .ok (.idiv, 1) := by decide +kernel
theorem d_Ut_isOutputOf_7 : decode prog_1_method_18_code 7 = .ok (.iload_n 0, 1) := by decide +kernel
theorem d_Ut_isOutputOf_8 : decode prog_1_method_18_code 8 = .ok (.if_icmp .ne 7, 3) := by decide +kernel
theorem d_Ut_isOutputOf_11 : decode prog_1_method_18_code 11 = .ok (.iconst 1, 1) := by decide +kernel
theorem d_Ut_isOutputOf_12 : decode prog_1_method_18_code 12 = .ok (.goto 4, 3) := by decide +kernel
theorem d_Ut_isOutputOf_15 : decode prog_1_method_18_code 15 = .ok (.iconst 0, 1) := by decide +kernel
theorem d_Ut_isOutputOf_16 : decode prog_1_method_18_code 16 = .ok (.ireturn, 1) := by decide +kernel
theorem d_Ut_hasWay_0 : decode prog_1_method_19_code 0 = .ok (.iload_n 0, 1) := by decide +kernel
theorem d_Ut_hasWay_1 : decode prog_1_method_19_code 1 = .ok (.iload_n 1, 1) := by decide +kernel
theorem d_Ut_hasWay_2 : decode prog_1_method_19_code 2 = .ok (.ishr, 1) := by decide +kernel
theorem d_Ut_hasWay_3 : decode prog_1_method_19_code 3 = .ok (.iconst 1, 1) := by decide +kernel
theorem d_Ut_hasWay_4 : decode prog_1_method_19_code 4 = .ok (.iand, 1) := by decide +kernel
theorem d_Ut_hasWay_5 : decode prog_1_method_19_code 5 = .ok (.ifCond .eq 7, 3) := by decide +kernel
theorem d_Ut_hasWay_8 : decode prog_1_method_19_code 8 = .ok (.iconst 1, 1) := by decide +kernel
theorem d_Ut_hasWay_9 : decode prog_1_method_19_code 9 = .ok (.goto 4, 3) := by decide +kernel
theorem d_Ut_hasWay_12 : decode prog_1_method_19_code 12 = .ok (.iconst 0, 1) := by decide +kernel
theorem d_Ut_hasWay_13 : decode prog_1_method_19_code 13 = .ok (.ireturn, 1) := by decide +kernel
theorem d_Ut_takesEntry_0 : decode prog_1_method_20_code 0 = .ok (.aload_n 0, 1) := by decide +kernel
theorem d_Ut_takesEntry_1 : decode prog_1_method_20_code 1 = .ok (.iload_n 1, 1) := by decide +kernel
theorem d_Ut_takesEntry_2 : decode prog_1_method_20_code 2 = .ok (.invokevirtual 114, 3) := by decide +kernel
theorem d_Ut_takesEntry_5 : decode prog_1_method_20_code 5 = .ok (.ifCond .eq 51, 3) := by decide +kernel
theorem d_Ut_takesEntry_8 : decode prog_1_method_20_code 8 = .ok (.iload_n 2, 1) := by decide +kernel
theorem d_Ut_takesEntry_9 : decode prog_1_method_20_code 9 = .ok (.ifCond .lt 47, 3) := by decide +kernel
theorem d_Ut_takesEntry_12 : decode prog_1_method_20_code 12 = .ok (.iload_n 2, 1) := by decide +kernel
theorem d_Ut_takesEntry_13 : decode prog_1_method_20_code 13 = .ok (.sipush 200, 3) := by decide +kernel
theorem d_Ut_takesEntry_16 : decode prog_1_method_20_code 16 = .ok (.if_icmp .gt 40, 3) := by decide +kernel
theorem d_Ut_takesEntry_19 : decode prog_1_method_20_code 19 = .ok (.aload_n 0, 1) := by decide +kernel
theorem d_Ut_takesEntry_20 : decode prog_1_method_20_code 20 = .ok (.getfield 59, 3) := by decide +kernel
theorem d_Ut_takesEntry_23 : decode prog_1_method_20_code 23 = .ok (.ifCond .ne 33, 3) := by decide +kernel
theorem d_Ut_takesEntry_26 : decode prog_1_method_20_code 26 = .ok (.iload_n 2, 1) := by decide +kernel
theorem d_Ut_takesEntry_27 : decode prog_1_method_20_code 27 = .ok (.aload_n 0, 1) := by decide +kernel
theorem d_Ut_takesEntry_28 : decode prog_1_method_20_code 28 = .ok (.getfield 20, 3) := by decide +kernel
theorem d_Ut_takesEntry_31 : decode prog_1_method_20_code 31 = .ok (.iload_n 1, 1) := by decide +kernel
theorem d_Ut_takesEntry_32 : decode prog_1_method_20_code 32 = .ok (.aaload, 1) := by decide +kernel
theorem d_Ut_takesEntry_33 : decode prog_1_method_20_code 33 = .ok (.getfield 134, 3) := by decide +kernel
theorem d_Ut_takesEntry_36 : decode prog_1_method_20_code 36 = .ok (.if_icmp .lt 20, 3) := by decide +kernel
theorem d_Ut_takesEntry_39 : decode prog_1_method_20_code 39 = .ok (.aload_n 0, 1) := by decide +kernel
theorem d_Ut_takesEntry_40 : decode prog_1_method_20_code 40 = .ok (.getfield 28, 3) := by decide +kernel
theorem d_Ut_takesEntry_43 : decode prog_1_method_20_code 43 = .ok (.getfield 133, 3) := by decide +kernel
theorem d_Ut_takesEntry_46 : decode prog_1_method_20_code 46 = .ok (.sipush 300, 3) := by decide +kernel
theorem d_Ut_takesEntry_49 : decode prog_1_method_20_code 49 = .ok (.if_icmp .ge 7, 3) := by decide +kernel
theorem d_Ut_takesEntry_52 : decode prog_1_method_20_code 52 = .ok (.iconst 1, 1) := by decide +kernel
theorem d_Ut_takesEntry_53 : decode prog_1_method_20_code 53 = .ok (.goto 4, 3) := by decide +kernel
theorem d_Ut_takesEntry_56 : decode prog_1_method_20_code 56 = .ok (.iconst 0, 1) := by decide +kernel
theorem d_Ut_takesEntry_57 : decode prog_1_method_20_code 57 = .ok (.ireturn, 1) := by decide +kernel
theorem d_Ut_tell_0 : decode prog_1_method_21_code 0 = .ok (.aload_n 0, 1) := by decide +kernel
theorem d_Ut_tell_1 : decode prog_1_method_21_code 1 = .ok (.getfield 28, 3) := by decide +kernel
theorem d_Ut_tell_4 : decode prog_1_method_21_code 4 = .ok (.iload_n 1, 1) := by decide +kernel
theorem d_Ut_tell_5 : decode prog_1_method_21_code 5 = .ok (.iload_n 2, 1) := by decide +kernel
theorem d_Ut_tell_6 : decode prog_1_method_21_code 6 = .ok (.iload_n 3, 1) := by decide +kernel
theorem d_Ut_tell_7 : decode prog_1_method_21_code 7 = .ok (.iload 4, 2) := by decide +kernel
theorem d_Ut_tell_9 : decode prog_1_method_21_code 9 = .ok (.lload 5, 2) := by decide +kernel
theorem d_Ut_tell_11 : decode prog_1_method_21_code 11 = .ok (.invokevirtual 140, 3) := by decide +kernel
theorem d_Ut_tell_14 : decode prog_1_method_21_code 14 = .ok (.aload_n 0, 1) := by decide +kernel
theorem d_Ut_tell_15 : decode prog_1_method_21_code 15 = .ok (.getfield 20, 3) := by decide +kernel
theorem d_Ut_tell_18 : decode prog_1_method_21_code 18 = .ok (.iload_n 2, 1) := by decide +kernel
theorem d_Ut_tell_19 : decode prog_1_method_21_code 19 = .ok (.aaload, 1) := by decide +kernel
theorem d_Ut_tell_20 : decode prog_1_method_21_code 20 = .ok (.aload_n 0, 1) := by decide +kernel
theorem d_Ut_tell_21 : decode prog_1_method_21_code 21 = .ok (.getfield 20, 3) := by decide +kernel
theorem d_Ut_tell_24 : decode prog_1_method_21_code 24 = .ok (.iload_n 2, 1) := by decide +kernel
theorem d_Ut_tell_25 : decode prog_1_method_21_code 25 = .ok (.aaload, 1) := by decide +kernel
theorem d_Ut_tell_26 : decode prog_1_method_21_code 26 = .ok (.getfield 143, 3) := by decide +kernel
theorem d_Ut_tell_29 : decode prog_1_method_21_code 29 = .ok (.iload_n 3, 1) := by decide +kernel
theorem d_Ut_tell_30 : decode prog_1_method_21_code 30 = .ok (.invokestatic 15, 3) := by decide +kernel
theorem d_Ut_tell_33 : decode prog_1_method_21_code 33 = .ok (.putfield 143, 3) := by decide +kernel
theorem d_Ut_tell_36 : decode prog_1_method_21_code 36 = .ok (.return_, 1) := by decide +kernel
theorem d_Ut_modeOf_0 : decode prog_1_method_22_code 0 = .ok (.aload_n 0, 1) := by decide +kernel
theorem d_Ut_modeOf_1 : decode prog_1_method_22_code 1 = .ok (.getfield 59, 3) := by decide +kernel
theorem d_Ut_modeOf_4 : decode prog_1_method_22_code 4 = .ok (.ifCond .eq 5, 3) := by decide +kernel
theorem d_Ut_modeOf_7 : decode prog_1_method_22_code 7 = .ok (.iconst 4, 1) := by decide +kernel
theorem d_Ut_modeOf_8 : decode prog_1_method_22_code 8 = .ok (.ireturn, 1) := by decide +kernel
theorem d_Ut_modeOf_9 : decode prog_1_method_22_code 9 = .ok (.aload_n 0, 1) := by decide +kernel
theorem d_Ut_modeOf_10 : decode prog_1_method_22_code 10 = .ok (.getfield 20, 3) := by decide +kernel
theorem d_Ut_modeOf_13 : decode prog_1_method_22_code 13 = .ok (.iload_n 1, 1) := by decide +kernel
theorem d_Ut_modeOf_14 : decode prog_1_method_22_code 14 = .ok (.aaload, 1) := by decide +kernel
theorem d_Ut_modeOf_15 : decode prog_1_method_22_code 15 = .ok (.invokevirtual 146, 3) := by decide +kernel
theorem d_Ut_modeOf_18 : decode prog_1_method_22_code 18 = .ok (.ifCond .eq 7, 3) := by decide +kernel
theorem d_Ut_modeOf_21 : decode prog_1_method_22_code 21 = .ok (.iconst 3, 1) := by decide +kernel
theorem d_Ut_modeOf_22 : decode prog_1_method_22_code 22 = .ok (.goto 12, 3) := by decide +kernel
theorem d_Ut_modeOf_25 : decode prog_1_method_22_code 25 = .ok (.aload_n 0, 1) := by decide +kernel
theorem d_Ut_modeOf_26 : decode prog_1_method_22_code 26 = .ok (.getfield 20, 3) := by decide +kernel
theorem d_Ut_modeOf_29 : decode prog_1_method_22_code 29 = .ok (.iload_n 1, 1) := by decide +kernel
theorem d_Ut_modeOf_30 : decode prog_1_method_22_code 30 = .ok (.aaload, 1) := by decide +kernel
theorem d_Ut_modeOf_31 : decode prog_1_method_22_code 31 = .ok (.getfield 121, 3) := by decide +kernel
theorem d_Ut_modeOf_34 : decode prog_1_method_22_code 34 = .ok (.ireturn, 1) := by decide +kernel
theorem d_Ut_acting_0 : decode prog_1_method_23_code 0 = .ok (.iconst 0, 1) := by decide +kernel
theorem d_Ut_acting_1 : decode prog_1_method_23_code 1 = .ok (.istore_n 1, 1) := by decide +kernel
theorem d_Ut_acting_2 : decode prog_1_method_23_code 2 = .ok (.iconst 0, 1) := by decide +kernel
theorem d_Ut_acting_3 : decode prog_1_method_23_code 3 = .ok (.istore_n 2, 1) := by decide +kernel
theorem d_Ut_acting_4 : decode prog_1_method_23_code 4 = .ok (.iload_n 2, 1) := by decide +kernel
theorem d_Ut_acting_5 : decode prog_1_method_23_code 5 = .ok (.aload_n 0, 1) := by decide +kernel
theorem d_Ut_acting_6 : decode prog_1_method_23_code 6 = .ok (.getfield 20, 3) := by decide +kernel
theorem d_Ut_acting_9 : decode prog_1_method_23_code 9 = .ok (.arraylength, 1) := by decide +kernel
theorem d_Ut_acting_10 : decode prog_1_method_23_code 10 = .ok (.if_icmp .ge 27, 3) := by decide +kernel
theorem d_Ut_acting_13 : decode prog_1_method_23_code 13 = .ok (.aload_n 0, 1) := by decide +kernel
theorem d_Ut_acting_14 : decode prog_1_method_23_code 14 = .ok (.iload_n 2, 1) := by decide +kernel
theorem d_Ut_acting_15 : decode prog_1_method_23_code 15 = .ok (.invokevirtual 117, 3) := by decide +kernel
theorem d_Ut_acting_18 : decode prog_1_method_23_code 18 = .ok (.istore_n 3, 1) := by decide +kernel
theorem d_Ut_acting_19 : decode prog_1_method_23_code 19 = .ok (.iload_n 3, 1) := by decide +kernel
theorem d_Ut_acting_20 : decode prog_1_method_23_code 20 = .ok (.ifCond .eq 8, 3) := by decide +kernel
theorem d_Ut_acting_23 : decode prog_1_method_23_code 23 = .ok (.iload_n 3, 1) := by decide +kernel
theorem d_Ut_acting_24 : decode prog_1_method_23_code 24 = .ok (.iconst 1, 1) := by decide +kernel
theorem d_Ut_acting_25 : decode prog_1_method_23_code 25 = .ok (.if_icmp .ne 6, 3) := by decide +kernel
theorem d_Ut_acting_28 : decode prog_1_method_23_code 28 = .ok (.iinc 1 1, 3) := by decide +kernel
theorem d_Ut_acting_31 : decode prog_1_method_23_code 31 = .ok (.iinc 2 1, 3) := by decide +kernel
theorem d_Ut_acting_34 : decode prog_1_method_23_code 34 = .ok (.goto (-30), 3) := by decide +kernel
theorem d_Ut_acting_37 : decode prog_1_method_23_code 37 = .ok (.iload_n 1, 1) := by decide +kernel
theorem d_Ut_acting_38 : decode prog_1_method_23_code 38 = .ok (.ireturn, 1) := by decide +kernel
theorem d_Ut_passSecond_0 : decode prog_1_method_24_code 0 = .ok (.aload_n 0, 1) := by decide +kernel
theorem d_Ut_passSecond_1 : decode prog_1_method_24_code 1 = .ok (.getfield 51, 3) := by decide +kernel
theorem d_Ut_passSecond_4 : decode prog_1_method_24_code 4 = .ok (.getfield 89, 3) := by decide +kernel
theorem d_Ut_passSecond_7 : decode prog_1_method_24_code 7 = .ok (.istore_n 1, 1) := by decide +kernel
theorem d_Ut_passSecond_8 : decode prog_1_method_24_code 8 = .ok (.aload_n 0, 1) := by decide +kernel
theorem d_Ut_passSecond_9 : decode prog_1_method_24_code 9 = .ok (.getfield 28, 3) := by decide +kernel
theorem d_Ut_passSecond_12 : decode prog_1_method_24_code 12 = .ok (.aload_n 0, 1) := by decide +kernel
theorem d_Ut_passSecond_13 : decode prog_1_method_24_code 13 = .ok (.getfield 20, 3) := by decide +kernel
theorem d_Ut_passSecond_16 : decode prog_1_method_24_code 16 = .ok (.invokevirtual 150, 3) := by decide +kernel
theorem d_Ut_passSecond_19 : decode prog_1_method_24_code 19 = .ok (.aload_n 0, 1) := by decide +kernel
theorem d_Ut_passSecond_20 : decode prog_1_method_24_code 20 = .ok (.getfield 37, 3) := by decide +kernel
theorem d_Ut_passSecond_23 : decode prog_1_method_24_code 23 = .ok (.aload_n 0, 1) := by decide +kernel
theorem d_Ut_passSecond_24 : decode prog_1_method_24_code 24 = .ok (.getfield 20, 3) := by decide +kernel
theorem d_Ut_passSecond_27 : decode prog_1_method_24_code 27 = .ok (.invokevirtual 154, 3) := by decide +kernel
theorem d_Ut_passSecond_30 : decode prog_1_method_24_code 30 = .ok (.aload_n 0, 1) := by decide +kernel
theorem d_Ut_passSecond_31 : decode prog_1_method_24_code 31 = .ok (.getfield 37, 3) := by decide +kernel
theorem d_Ut_passSecond_34 : decode prog_1_method_24_code 34 = .ok (.invokevirtual 157, 3) := by decide +kernel
theorem d_Ut_passSecond_37 : decode prog_1_method_24_code 37 = .ok (.aload_n 0, 1) := by decide +kernel
theorem d_Ut_passSecond_38 : decode prog_1_method_24_code 38 = .ok (.invokevirtual 160, 3) := by decide +kernel
theorem d_Ut_passSecond_41 : decode prog_1_method_24_code 41 = .ok (.aload_n 0, 1) := by decide +kernel
theorem d_Ut_passSecond_42 : decode prog_1_method_24_code 42 = .ok (.iload_n 1, 1) := by decide +kernel
theorem d_Ut_passSecond_43 : decode prog_1_method_24_code 43 = .ok (.invokevirtual 163, 3) := by decide +kernel
theorem d_Ut_passSecond_46 : decode prog_1_method_24_code 46 = .ok (.aload_n 0, 1) := by decide +kernel
theorem d_Ut_passSecond_47 : decode prog_1_method_24_code 47 = .ok (.aload_n 0, 1) := by decide +kernel
theorem d_Ut_passSecond_48 : decode prog_1_method_24_code 48 = .ok (.getfield 55, 3) := by decide +kernel
theorem d_Ut_passSecond_51 : decode prog_1_method_24_code 51 = .ok (.iload_n 1, 1) := by decide +kernel
theorem d_Ut_passSecond_52 : decode prog_1_method_24_code 52 = .ok (.iaload, 1) := by decide +kernel
theorem d_Ut_passSecond_53 : decode prog_1_method_24_code 53 = .ok (.invokevirtual 166, 3) := by decide +kernel
theorem d_Ut_passSecond_56 : decode prog_1_method_24_code 56 = .ok (.aload_n 0, 1) := by decide +kernel
theorem d_Ut_passSecond_57 : decode prog_1_method_24_code 57 = .ok (.invokevirtual 169, 3) := by decide +kernel
theorem d_Ut_passSecond_60 : decode prog_1_method_24_code 60 = .ok (.aload_n 0, 1) := by decide +kernel
theorem d_Ut_passSecond_61 : decode prog_1_method_24_code 61 = .ok (.getfield 51, 3) := by decide +kernel
theorem d_Ut_passSecond_64 : decode prog_1_method_24_code 64 = .ok (.invokevirtual 172, 3) := by decide +kernel
theorem d_Ut_passSecond_67 : decode prog_1_method_24_code 67 = .ok (.iconst 0, 1) := by decide +kernel
theorem d_Ut_passSecond_68 : decode prog_1_method_24_code 68 = .ok (.istore_n 2, 1) := by decide +kernel
theorem d_Ut_passSecond_69 : decode prog_1_method_24_code 69 = .ok (.iload_n 2, 1) := by decide +kernel
theorem d_Ut_passSecond_70 : decode prog_1_method_24_code 70 = .ok (.aload_n 0, 1) := by decide +kernel
theorem d_Ut_passSecond_71 : decode prog_1_method_24_code 71 = .ok (.getfield 37, 3) := by decide +kernel
theorem d_Ut_passSecond_74 : decode prog_1_method_24_code 74 = .ok (.getfield 175, 3) := by decide +kernel
theorem d_Ut_passSecond_77 : decode prog_1_method_24_code 77 = .ok (.if_icmp .ge 37, 3) := by decide +kernel
theorem d_Ut_passSecond_80 : decode prog_1_method_24_code 80 = .ok (.aload_n 0, 1) := by decide +kernel
theorem d_Ut_passSecond_81 : decode prog_1_method_24_code 81 = .ok (.getfield 37, 3) := by decide +kernel
theorem d_Ut_passSecond_84 : decode prog_1_method_24_code 84 = .ok (.getfield 176, 3) := by decide +kernel
theorem d_Ut_passSecond_87 : decode prog_1_method_24_code 87 = .ok (.iload_n 2, 1) := by decide +kernel
theorem d_Ut_passSecond_88 : decode prog_1_method_24_code 88 = .ok (.iaload, 1) := by decide +kernel
theorem d_Ut_passSecond_89 : decode prog_1_method_24_code 89 = .ok (.istore_n 3, 1) := by decide +kernel
theorem d_Ut_passSecond_90 : decode prog_1_method_24_code 90 = .ok (.aload_n 0, 1) := by decide +kernel
theorem d_Ut_passSecond_91 : decode prog_1_method_24_code 91 = .ok (.getfield 44, 3) := by decide +kernel
theorem d_Ut_passSecond_94 : decode prog_1_method_24_code 94 = .ok (.iload_n 1, 1) := by decide +kernel
theorem d_Ut_passSecond_95 : decode prog_1_method_24_code 95 = .ok (.iload_n 3, 1) := by decide +kernel
theorem d_Ut_passSecond_96 : decode prog_1_method_24_code 96 = .ok (.aload_n 0, 1) := by decide +kernel
theorem d_Ut_passSecond_97 : decode prog_1_method_24_code 97 = .ok (.getfield 20, 3) := by decide +kernel
theorem d_Ut_passSecond_100 : decode prog_1_method_24_code 100 = .ok (.iload_n 3, 1) := by decide +kernel
theorem d_Ut_passSecond_101 : decode prog_1_method_24_code 101 = .ok (.aaload, 1) := by decide +kernel
theorem d_Ut_passSecond_102 : decode prog_1_method_24_code 102 = .ok (.getfield 179, 3) := by decide +kernel
theorem d_Ut_passSecond_105 : decode prog_1_method_24_code 105 = .ok (.invokevirtual 182, 3) := by decide +kernel
theorem d_Ut_passSecond_108 : decode prog_1_method_24_code 108 = .ok (.iinc 2 1, 3) := by decide +kernel
theorem d_Ut_passSecond_111 : decode prog_1_method_24_code 111 = .ok (.goto (-42), 3) := by decide +kernel
theorem d_Ut_passSecond_114 : decode prog_1_method_24_code 114 = .ok (.return_, 1) := by decide +kernel
theorem d_Ut_takeTurns_0 : decode prog_1_method_25_code 0 = .ok (.iconst 0, 1) := by decide +kernel
theorem d_Ut_takeTurns_1 : decode prog_1_method_25_code 1 = .ok (.istore_n 1, 1) := by decide +kernel
theorem d_Ut_takeTurns_2 : decode prog_1_method_25_code 2 = .ok (.iload_n 1, 1) := by decide +kernel
theorem d_Ut_takeTurns_3 : decode prog_1_method_25_code 3 = .ok (.aload_n 0, 1) := by decide +kernel
theorem d_Ut_takeTurns_4 : decode prog_1_method_25_code 4 = .ok (.getfield 20, 3) := by decide +kernel
theorem d_Ut_takeTurns_7 : decode prog_1_method_25_code 7 = .ok (.arraylength, 1) := by decide +kernel
theorem d_Ut_takeTurns_8 : decode prog_1_method_25_code 8 = .ok (.if_icmp .ge 19, 3) := by decide +kernel
theorem d_Ut_takeTurns_11 : decode prog_1_method_25_code 11 = .ok (.aload_n 0, 1) := by decide +kernel
theorem d_Ut_takeTurns_12 : decode prog_1_method_25_code 12 = .ok (.getfield 20, 3) := by decide +kernel
theorem d_Ut_takeTurns_15 : decode prog_1_method_25_code 15 = .ok (.iload_n 1, 1) := by decide +kernel
theorem d_Ut_takeTurns_16 : decode prog_1_method_25_code 16 = .ok (.aaload, 1) := by decide +kernel
theorem d_Ut_takeTurns_17 : decode prog_1_method_25_code 17 = .ok (.iconst (-1), 1) := by decide +kernel
theorem d_Ut_takeTurns_18 : decode prog_1_method_25_code 18 = .ok (.putfield 179, 3) := by decide +kernel
theorem d_Ut_takeTurns_21 : decode prog_1_method_25_code 21 = .ok (.iinc 1 1, 3) := by decide +kernel
theorem d_Ut_takeTurns_24 : decode prog_1_method_25_code 24 = .ok (.goto (-22), 3) := by decide +kernel
theorem d_Ut_takeTurns_27 : decode prog_1_method_25_code 27 = .ok (.iconst 0, 1) := by decide +kernel
theorem d_Ut_takeTurns_28 : decode prog_1_method_25_code 28 = .ok (.istore_n 1, 1) := by decide +kernel
theorem d_Ut_takeTurns_29 : decode prog_1_method_25_code 29 = .ok (.iload_n 1, 1) := by decide +kernel
theorem d_Ut_takeTurns_30 : decode prog_1_method_25_code 30 = .ok (.aload_n 0, 1) := by decide +kernel
theorem d_Ut_takeTurns_31 : decode prog_1_method_25_code 31 = .ok (.getfield 37, 3) := by decide +kernel
theorem d_Ut_takeTurns_34 : decode prog_1_method_25_code 34 = .ok (.getfield 175, 3) := by decide +kernel
theorem d_Ut_takeTurns_37 : decode prog_1_method_25_code 37 = .ok (.if_icmp .ge 41, 3) := by decide +kernel
theorem d_Ut_takeTurns_40 : decode prog_1_method_25_code 40 = .ok (.aload_n 0, 1) := by decide +kernel
theorem d_Ut_takeTurns_41 : decode prog_1_method_25_code 41 = .ok (.getfield 20, 3) := by decide +kernel
theorem d_Ut_takeTurns_44 : decode prog_1_method_25_code 44 = .ok (.aload_n 0, 1) := by decide +kernel
theorem d_Ut_takeTurns_45 : decode prog_1_method_25_code 45 = .ok (.getfield 37, 3) := by decide +kernel
theorem d_Ut_takeTurns_48 : decode prog_1_method_25_code 48 = .ok (.getfield 176, 3) := by decide +kernel
theorem d_Ut_takeTurns_51 : decode prog_1_method_25_code 51 = .ok (.iload_n 1, 1) := by decide +kernel
theorem d_Ut_takeTurns_52 : decode prog_1_method_25_code 52 = .ok (.iaload, 1) := by decide +kernel
theorem d_Ut_takeTurns_53 : decode prog_1_method_25_code 53 = .ok (.aaload, 1) := by decide +kernel
theorem d_Ut_takeTurns_54 : decode prog_1_method_25_code 54 = .ok (.astore_n 2, 1) := by decide +kernel
theorem d_Ut_takeTurns_55 : decode prog_1_method_25_code 55 = .ok (.aload_n 2, 1) := by decide +kernel
theorem d_Ut_takeTurns_56 : decode prog_1_method_25_code 56 = .ok (.aload_n 2, 1) := by decide +kernel
theorem d_Ut_takeTurns_57 : decode prog_1_method_25_code 57 = .ok (.getfield 185, 3) := by decide +kernel
theorem d_Ut_takeTurns_60 : decode prog_1_method_25_code 60 = .ok (.iconst (-1), 1) := by decide +kernel
theorem d_Ut_takeTurns_61 : decode prog_1_method_25_code 61 = .ok (.if_icmp .ne 7, 3) := by decide +kernel
theorem d_Ut_takeTurns_64 : decode prog_1_method_25_code 64 = .ok (.iconst 1, 1) := by decide +kernel
theorem d_Ut_takeTurns_65 : decode prog_1_method_25_code 65 = .ok (.goto 4, 3) := by decide +kernel
theorem d_Ut_takeTurns_68 : decode prog_1_method_25_code 68 = .ok (.iconst 2, 1) := by decide +kernel
theorem d_Ut_takeTurns_69 : decode prog_1_method_25_code 69 = .ok (.putfield 179, 3) := by decide +kernel
theorem d_Ut_takeTurns_72 : decode prog_1_method_25_code 72 = .ok (.iinc 1 1, 3) := by decide +kernel
theorem d_Ut_takeTurns_75 : decode prog_1_method_25_code 75 = .ok (.goto (-46), 3) := by decide +kernel
theorem d_Ut_takeTurns_78 : decode prog_1_method_25_code 78 = .ok (.return_, 1) := by decide +kernel
theorem d_Ut_holdThrowers_0 : decode prog_1_method_26_code 0 = .ok (.iconst 0, 1) := by decide +kernel
theorem d_Ut_holdThrowers_1 : decode prog_1_method_26_code 1 = .ok (.istore_n 2, 1) := by decide +kernel
theorem d_Ut_holdThrowers_2 : decode prog_1_method_26_code 2 = .ok (.iload_n 2, 1) := by decide +kernel
theorem d_Ut_holdThrowers_3 : decode prog_1_method_26_code 3 = .ok (.aload_n 0, 1) := by decide +kernel
theorem d_Ut_holdThrowers_4 : decode prog_1_method_26_code 4 = .ok (.getfield 20, 3) := by decide +kernel
theorem d_Ut_holdThrowers_7 : decode prog_1_method_26_code 7 = .ok (.arraylength, 1) := by decide +kernel
theorem d_Ut_holdThrowers_8 : decode prog_1_method_26_code 8 = .ok (.if_icmp .ge 53, 3) := by decide +kernel
theorem d_Ut_holdThrowers_11 : decode prog_1_method_26_code 11 = .ok (.aload_n 0, 1) := by decide +kernel
theorem d_Ut_holdThrowers_12 : decode prog_1_method_26_code 12 = .ok (.getfield 20, 3) := by decide +kernel
theorem d_Ut_holdThrowers_15 : decode prog_1_method_26_code 15 = .ok (.iload_n 2, 1) := by decide +kernel
theorem d_Ut_holdThrowers_16 : decode prog_1_method_26_code 16 = .ok (.aaload, 1) := by decide +kernel
theorem d_Ut_holdThrowers_17 : decode prog_1_method_26_code 17 = .ok (.astore_n 3, 1) := by decide +kernel
theorem d_Ut_holdThrowers_18 : decode prog_1_method_26_code 18 = .ok (.aload_n 3, 1) := by decide +kernel
theorem d_Ut_holdThrowers_19 : decode prog_1_method_26_code 19 = .ok (.getfield 179, 3) := by decide +kernel
theorem d_Ut_holdThrowers_22 : decode prog_1_method_26_code 22 = .ok (.iconst 2, 1) := by decide +kernel
theorem d_Ut_holdThrowers_23 : decode prog_1_method_26_code 23 = .ok (.if_icmp .ne 32, 3) := by decide +kernel
theorem d_Ut_holdThrowers_26 : decode prog_1_method_26_code 26 = .ok (.aload_n 0, 1) := by decide +kernel
theorem d_Ut_holdThrowers_27 : decode prog_1_method_26_code 27 = .ok (.getfield 28, 3) := by decide +kernel
theorem d_Ut_holdThrowers_30 : decode prog_1_method_26_code 30 = .ok (.aload_n 3, 1) := by decide +kernel
theorem d_Ut_holdThrowers_31 : decode prog_1_method_26_code 31 = .ok (.getfield 185, 3) := by decide +kernel
theorem d_Ut_holdThrowers_34 : decode prog_1_method_26_code 34 = .ok (.invokevirtual 188, 3) := by decide +kernel
theorem d_Ut_holdThrowers_37 : decode prog_1_method_26_code 37 = .ok (.aload_n 3, 1) := by decide +kernel
theorem d_Ut_holdThrowers_38 : decode prog_1_method_26_code 38 = .ok (.iconst 2, 1) := by decide +kernel
theorem d_Ut_holdThrowers_39 : decode prog_1_method_26_code 39 = .ok (.putfield 121, 3) := by decide +kernel
theorem d_Ut_holdThrowers_42 : decode prog_1_method_26_code 42 = .ok (.aload_n 3, 1) := by decide +kernel
theorem d_Ut_holdThrowers_43 : decode prog_1_method_26_code 43 = .ok (.iload_n 1, 1) := by decide +kernel
theorem d_Ut_holdThrowers_44 : decode prog_1_method_26_code 44 = .ok (.putfield 124, 3) := by decide +kernel
theorem d_Ut_holdThrowers_47 : decode prog_1_method_26_code 47 = .ok (.aload_n 0, 1) := by decide +kernel
theorem d_Ut_holdThrowers_48 : decode prog_1_method_26_code 48 = .ok (.getfield 51, 3) := by decide +kernel
theorem d_Ut_holdThrowers_51 : decode prog_1_method_26_code 51 = .ok (.iload_n 2, 1) := by decide +kernel
theorem d_Ut_holdThrowers_52 : decode prog_1_method_26_code 52 = .ok (.invokevirtual 191, 3) := by decide +kernel
theorem d_Ut_holdThrowers_55 : decode prog_1_method_26_code 55 = .ok (.iinc 2 1, 3) := by decide +kernel
theorem d_Ut_holdThrowers_58 : decode prog_1_method_26_code 58 = .ok (.goto (-56), 3) := by decide +kernel
theorem d_Ut_holdThrowers_61 : decode prog_1_method_26_code 61 = .ok (.return_, 1) := by decide +kernel
theorem d_Ut_grantWays_0 : decode prog_1_method_27_code 0 = .ok (.iconst 0, 1) := by decide +kernel
theorem d_Ut_grantWays_1 : decode prog_1_method_27_code 1 = .ok (.istore_n 2, 1) := by decide +kernel
theorem d_Ut_grantWays_2 : decode prog_1_method_27_code 2 = .ok (.iload_n 2, 1) := by decide +kernel
theorem d_Ut_grantWays_3 : decode prog_1_method_27_code 3 = .ok (.bipush 16, 2) := by decide +kernel
theorem d_Ut_grantWays_5 : decode prog_1_method_27_code 5 = .ok (.if_icmp .ge 44, 3) := by decide +kernel
theorem d_Ut_grantWays_8 : decode prog_1_method_27_code 8 = .ok (.aload_n 0, 1) := by decide +kernel
theorem d_Ut_grantWays_9 : decode prog_1_method_27_code 9 = .ok (.getfield 51, 3) := by decide +kernel
theorem d_Ut_grantWays_12 : decode prog_1_method_27_code 12 = .ok (.getfield 194, 3) := by decide +kernel
theorem d_Ut_grantWays_15 : decode prog_1_method_27_code 15 = .ok (.iload_n 2, 1) := by decide +kernel
theorem d_Ut_grantWays_16 : decode prog_1_method_27_code 16 = .ok (.iaload, 1) := by decide +kernel
theorem d_Ut_grantWays_17 : decode prog_1_method_27_code 17 = .ok (.iconst (-1), 1) := by decide +kernel
theorem d_Ut_grantWays_18 : decode prog_1_method_27_code 18 = .ok (.if_icmp .ne 25, 3) := by decide +kernel
theorem d_Ut_grantWays_21 : decode prog_1_method_27_code 21 = .ok (.iload_n 1, 1) := by decide +kernel
theorem d_Ut_grantWays_22 : decode prog_1_method_27_code 22 = .ok (.iload_n 2, 1) := by decide +kernel
theorem d_Ut_grantWays_23 : decode prog_1_method_27_code 23 = .ok (.invokestatic 93, 3) := by decide +kernel
theorem d_Ut_grantWays_26 : decode prog_1_method_27_code 26 = .ok (.ifCond .ne 17, 3) := by decide +kernel
theorem d_Ut_grantWays_29 : decode prog_1_method_27_code 29 = .ok (.aload_n 0, 1) := by decide +kernel
theorem d_Ut_grantWays_30 : decode prog_1_method_27_code 30 = .ok (.getfield 51, 3) := by decide +kernel
theorem d_Ut_grantWays_33 : decode prog_1_method_27_code 33 = .ok (.getfield 194, 3) := by decide +kernel
theorem d_Ut_grantWays_36 : decode prog_1_method_27_code 36 = .ok (.iload_n 2, 1) := by decide +kernel
theorem d_Ut_grantWays_37 : decode prog_1_method_27_code 37 = .ok (.aload_n 0, 1) := by decide +kernel
theorem d_Ut_grantWays_38 : decode prog_1_method_27_code 38 = .ok (.iload_n 2, 1) := by decide +kernel
theorem d_Ut_grantWays_39 : decode prog_1_method_27_code 39 = .ok (.invokevirtual 197, 3) := by decide +kernel
theorem d_Ut_grantWays_42 : decode prog_1_method_27_code 42 = .ok (.iastore, 1) := by decide +kernel
theorem d_Ut_grantWays_43 : decode prog_1_method_27_code 43 = .ok (.iinc 2 1, 3) := by decide +kernel
theorem d_Ut_grantWays_46 : decode prog_1_method_27_code 46 = .ok (.goto (-44), 3) := by decide +kernel
theorem d_Ut_grantWays_49 : decode prog_1_method_27_code 49 = .ok (.return_, 1) := by decide +kernel
theorem d_Ut_leastAsker_0 : decode prog_1_method_28_code 0 = .ok (.iconst 0, 1) := by decide +kernel
theorem d_Ut_leastAsker_1 : decode prog_1_method_28_code 1 = .ok (.istore_n 2, 1) := by decide +kernel
theorem d_Ut_leastAsker_2 : decode prog_1_method_28_code 2 = .ok (.iload_n 2, 1) := by decide +kernel
theorem d_Ut_leastAsker_3 : decode prog_1_method_28_code 3 = .ok (.aload_n 0, 1) := by decide +kernel
theorem d_Ut_leastAsker_4 : decode prog_1_method_28_code 4 = .ok (.getfield 20, 3) := by decide +kernel
theorem d_Ut_leastAsker_7 : decode prog_1_method_28_code 7 = .ok (.arraylength, 1) := by decide +kernel
theorem d_Ut_leastAsker_8 : decode prog_1_method_28_code 8 = .ok (.if_icmp .ge 40, 3) := by decide +kernel
theorem d_Ut_leastAsker_11 : decode prog_1_method_28_code 11 = .ok (.aload_n 0, 1) := by decide +kernel
theorem d_Ut_leastAsker_12 : decode prog_1_method_28_code 12 = .ok (.getfield 20, 3) := by decide +kernel
theorem d_Ut_leastAsker_15 : decode prog_1_method_28_code 15 = .ok (.iload_n 2, 1) := by decide +kernel
theorem d_Ut_leastAsker_16 : decode prog_1_method_28_code 16 = .ok (.aaload, 1) := by decide +kernel
theorem d_Ut_leastAsker_17 : decode prog_1_method_28_code 17 = .ok (.getfield 179, 3) := by decide +kernel
theorem d_Ut_leastAsker_20 : decode prog_1_method_28_code 20 = .ok (.iconst 1, 1) := by decide +kernel
theorem d_Ut_leastAsker_21 : decode prog_1_method_28_code 21 = .ok (.if_icmp .ne 21, 3) := by decide +kernel
theorem d_Ut_leastAsker_24 : decode prog_1_method_28_code 24 = .ok (.aload_n 0, 1) := by decide +kernel
theorem d_Ut_leastAsker_25 : decode prog_1_method_28_code 25 = .ok (.getfield 20, 3) := by decide +kernel
theorem d_Ut_leastAsker_28 : decode prog_1_method_28_code 28 = .ok (.iload_n 2, 1) := by decide +kernel
theorem d_Ut_leastAsker_29 : decode prog_1_method_28_code 29 = .ok (.aaload, 1) := by decide +kernel
theorem d_Ut_leastAsker_30 : decode prog_1_method_28_code 30 = .ok (.invokevirtual 200, 3) := by decide +kernel
theorem d_Ut_leastAsker_33 : decode prog_1_method_28_code 33 = .ok (.iload_n 1, 1) := by decide +kernel
theorem d_Ut_leastAsker_34 : decode prog_1_method_28_code 34 = .ok (.invokestatic 93, 3) := by decide +kernel
theorem d_Ut_leastAsker_37 : decode prog_1_method_28_code 37 = .ok (.ifCond .eq 5, 3) := by decide +kernel
theorem d_Ut_leastAsker_40 : decode prog_1_method_28_code 40 = .ok (.iload_n 2, 1) := by decide +kernel
theorem d_Ut_leastAsker_41 : decode prog_1_method_28_code 41 = .ok (.ireturn, 1) := by decide +kernel
theorem d_Ut_leastAsker_42 : decode prog_1_method_28_code 42 = .ok (.iinc 2 1, 3) := by decide +kernel
theorem d_Ut_leastAsker_45 : decode prog_1_method_28_code 45 = .ok (.goto (-43), 3) := by decide +kernel
theorem d_Ut_leastAsker_48 : decode prog_1_method_28_code 48 = .ok (.iconst (-1), 1) := by decide +kernel
theorem d_Ut_leastAsker_49 : decode prog_1_method_28_code 49 = .ok (.ireturn, 1) := by decide +kernel
theorem d_Ut_settle_0 : decode prog_1_method_29_code 0 = .ok (.iconst 0, 1) := by decide +kernel
theorem d_Ut_settle_1 : decode prog_1_method_29_code 1 = .ok (.istore_n 1, 1) := by decide +kernel
theorem d_Ut_settle_2 : decode prog_1_method_29_code 2 = .ok (.iload_n 1, 1) := by decide +kernel
theorem d_Ut_settle_3 : decode prog_1_method_29_code 3 = .ok (.aload_n 0, 1) := by decide +kernel
theorem d_Ut_settle_4 : decode prog_1_method_29_code 4 = .ok (.getfield 20, 3) := by decide +kernel
theorem d_Ut_settle_7 : decode prog_1_method_29_code 7 = .ok (.arraylength, 1) := by decide +kernel
theorem d_Ut_settle_8 : decode prog_1_method_29_code 8 = .ok (.if_icmp .ge 52, 3) := by decide +kernel
theorem d_Ut_settle_11 : decode prog_1_method_29_code 11 = .ok (.aload_n 0, 1) := by decide +kernel
theorem d_Ut_settle_12 : decode prog_1_method_29_code 12 = .ok (.getfield 20, 3) := by decide +kernel
theorem d_Ut_settle_15 : decode prog_1_method_29_code 15 = .ok (.iload_n 1, 1) := by decide +kernel
theorem d_Ut_settle_16 : decode prog_1_method_29_code 16 = .ok (.aaload, 1) := by decide +kernel
theorem d_Ut_settle_17 : decode prog_1_method_29_code 17 = .ok (.getfield 179, 3) := by decide +kernel
theorem d_Ut_settle_20 : decode prog_1_method_29_code 20 = .ok (.iconst 1, 1) := by decide +kernel
theorem d_Ut_settle_21 : decode prog_1_method_29_code 21 = .ok (.if_icmp .ne 33, 3) := by decide +kernel
theorem d_Ut_settle_24 : decode prog_1_method_29_code 24 = .ok (.aload_n 0, 1) := by decide +kernel
theorem d_Ut_settle_25 : decode prog_1_method_29_code 25 = .ok (.getfield 51, 3) := by decide +kernel
theorem d_Ut_settle_28 : decode prog_1_method_29_code 28 = .ok (.iload_n 1, 1) := by decide +kernel
theorem d_Ut_settle_29 : decode prog_1_method_29_code 29 = .ok (.aload_n 0, 1) := by decide +kernel
theorem d_Ut_settle_30 : decode prog_1_method_29_code 30 = .ok (.getfield 20, 3) := by decide +kernel
theorem d_Ut_settle_33 : decode prog_1_method_29_code 33 = .ok (.iload_n 1, 1) := by decide +kernel
theorem d_Ut_settle_34 : decode prog_1_method_29_code 34 = .ok (.aaload, 1) := by decide +kernel
theorem d_Ut_settle_35 : decode prog_1_method_29_code 35 = .ok (.invokevirtual 200, 3) := by decide +kernel
theorem d_Ut_settle_38 : decode prog_1_method_29_code 38 = .ok (.invokevirtual 203, 3) := by decide +kernel
theorem d_Ut_settle_41 : decode prog_1_method_29_code 41 = .ok (.ifCond .eq 13, 3) := by decide +kernel
theorem d_Ut_settle_44 : decode prog_1_method_29_code 44 = .ok (.aload_n 0, 1) := by decide +kernel
theorem d_Ut_settle_45 : decode prog_1_method_29_code 45 = .ok (.getfield 20, 3) := by decide +kernel
theorem d_Ut_settle_48 : decode prog_1_method_29_code 48 = .ok (.iload_n 1, 1) := by decide +kernel
theorem d_Ut_settle_49 : decode prog_1_method_29_code 49 = .ok (.aaload, 1) := by decide +kernel
theorem d_Ut_settle_50 : decode prog_1_method_29_code 50 = .ok (.iconst 0, 1) := by decide +kernel
theorem d_Ut_settle_51 : decode prog_1_method_29_code 51 = .ok (.putfield 179, 3) := by decide +kernel
theorem d_Ut_settle_54 : decode prog_1_method_29_code 54 = .ok (.iinc 1 1, 3) := by decide +kernel
theorem d_Ut_settle_57 : decode prog_1_method_29_code 57 = .ok (.goto (-55), 3) := by decide +kernel
theorem d_Ut_settle_60 : decode prog_1_method_29_code 60 = .ok (.aload_n 0, 1) := by decide +kernel
theorem d_Ut_settle_61 : decode prog_1_method_29_code 61 = .ok (.getfield 28, 3) := by decide +kernel
theorem d_Ut_settle_64 : decode prog_1_method_29_code 64 = .ok (.aload_n 0, 1) := by decide +kernel
theorem d_Ut_settle_65 : decode prog_1_method_29_code 65 = .ok (.getfield 20, 3) := by decide +kernel
theorem d_Ut_settle_68 : decode prog_1_method_29_code 68 = .ok (.aload_n 0, 1) := by decide +kernel
theorem d_Ut_settle_69 : decode prog_1_method_29_code 69 = .ok (.getfield 51, 3) := by decide +kernel
theorem d_Ut_settle_72 : decode prog_1_method_29_code 72 = .ok (.getfield 206, 3) := by decide +kernel
theorem d_Ut_settle_75 : decode prog_1_method_29_code 75 = .ok (.invokevirtual 209, 3) := by decide +kernel
theorem d_Ut_settle_78 : decode prog_1_method_29_code 78 = .ok (.iconst 0, 1) := by decide +kernel
theorem d_Ut_settle_79 : decode prog_1_method_29_code 79 = .ok (.istore_n 1, 1) := by decide +kernel
theorem d_Ut_settle_80 : decode prog_1_method_29_code 80 = .ok (.iload_n 1, 1) := by decide +kernel
theorem d_Ut_settle_81 : decode prog_1_method_29_code 81 = .ok (.aload_n 0, 1) := by decide +kernel
theorem d_Ut_settle_82 : decode prog_1_method_29_code 82 = .ok (.getfield 20, 3) := by decide +kernel
theorem d_Ut_settle_85 : decode prog_1_method_29_code 85 = .ok (.arraylength, 1) := by decide +kernel
theorem d_Ut_settle_86 : decode prog_1_method_29_code 86 = .ok (.if_icmp .ge 66, 3) := by decide +kernel
theorem d_Ut_settle_89 : decode prog_1_method_29_code 89 = .ok (.aload_n 0, 1) := by decide +kernel
theorem d_Ut_settle_90 : decode prog_1_method_29_code 90 = .ok (.getfield 20, 3) := by decide +kernel
theorem d_Ut_settle_93 : decode prog_1_method_29_code 93 = .ok (.iload_n 1, 1) := by decide +kernel
theorem d_Ut_settle_94 : decode prog_1_method_29_code 94 = .ok (.aaload, 1) := by decide +kernel
theorem d_Ut_settle_95 : decode prog_1_method_29_code 95 = .ok (.astore_n 2, 1) := by decide +kernel
theorem d_Ut_settle_96 : decode prog_1_method_29_code 96 = .ok (.aload_n 2, 1) := by decide +kernel
theorem d_Ut_settle_97 : decode prog_1_method_29_code 97 = .ok (.getfield 179, 3) := by decide +kernel
theorem d_Ut_settle_100 : decode prog_1_method_29_code 100 = .ok (.ifCond .ne 33, 3) := by decide +kernel
theorem d_Ut_settle_103 : decode prog_1_method_29_code 103 = .ok (.aload_n 0, 1) := by decide +kernel
theorem d_Ut_settle_104 : decode prog_1_method_29_code 104 = .ok (.getfield 51, 3) := by decide +kernel
theorem d_Ut_settle_107 : decode prog_1_method_29_code 107 = .ok (.iload_n 1, 1) := by decide +kernel
theorem d_Ut_settle_108 : decode prog_1_method_29_code 108 = .ok (.aload_n 2, 1) := by decide +kernel
theorem d_Ut_settle_109 : decode prog_1_method_29_code 109 = .ok (.invokevirtual 213, 3) := by decide +kernel
theorem d_Ut_settle_112 : decode prog_1_method_29_code 112 = .ok (.invokevirtual 216, 3) := by decide +kernel
theorem d_Ut_settle_115 : decode prog_1_method_29_code 115 = .ok (.aload_n 2, 1) := by decide +kernel
theorem d_Ut_settle_116 : decode prog_1_method_29_code 116 = .ok (.dup, 1) := by decide +kernel
theorem d_Ut_settle_117 : decode prog_1_method_29_code 117 = .ok (.getfield 134, 3) := by decide +kernel
theorem d_Ut_settle_120 : decode prog_1_method_29_code 120 = .ok (.iconst 1, 1) := by decide +kernel
theorem d_Ut_settle_121 : decode prog_1_method_29_code 121 = .ok (.iadd, 1) := by decide +kernel
theorem d_Ut_settle_122 : decode prog_1_method_29_code 122 = .ok (.putfield 134, 3) := by decide +kernel
theorem d_Ut_settle_125 : decode prog_1_method_29_code 125 = .ok (.aload_n 2, 1) := by decide +kernel
theorem d_Ut_settle_126 : decode prog_1_method_29_code 126 = .ok (.iconst 0, 1) := by decide +kernel
theorem d_Ut_settle_127 : decode prog_1_method_29_code 127 = .ok (.putfield 121, 3) := by decide +kernel
theorem d_Ut_settle_130 : decode prog_1_method_29_code 130 = .ok (.goto 16, 3) := by decide +kernel
theorem d_Ut_settle_133 : decode prog_1_method_29_code 133 = .ok (.aload_n 2, 1) := by decide +kernel
theorem d_Ut_settle_134 : decode prog_1_method_29_code 134 = .ok (.getfield 179, 3) := by decide +kernel
theorem d_Ut_settle_137 : decode prog_1_method_29_code 137 = .ok (.iconst 1, 1) := by decide +kernel
theorem d_Ut_settle_138 : decode prog_1_method_29_code 138 = .ok (.if_icmp .ne 8, 3) := by decide +kernel
theorem d_Ut_settle_141 : decode prog_1_method_29_code 141 = .ok (.aload_n 2, 1) := by decide +kernel
theorem d_Ut_settle_142 : decode prog_1_method_29_code 142 = .ok (.iconst 1, 1) := by decide +kernel
theorem d_Ut_settle_143 : decode prog_1_method_29_code 143 = .ok (.putfield 121, 3) := by decide +kernel
theorem d_Ut_settle_146 : decode prog_1_method_29_code 146 = .ok (.iinc 1 1, 3) := by decide +kernel
theorem d_Ut_settle_149 : decode prog_1_method_29_code 149 = .ok (.goto (-69), 3) := by decide +kernel
theorem d_Ut_settle_152 : decode prog_1_method_29_code 152 = .ok (.return_, 1) := by decide +kernel
end
section
theorem d_Mo_init_0 : decode prog_8_method_1_code 0 = .ok (.aload_n 0, 1) := by decide +kernel
theorem d_Mo_init_1 : decode prog_8_method_1_code 1 = .ok (.invokespecial 1, 3) := by decide +kernel
theorem d_Mo_init_4 : decode prog_8_method_1_code 4 = .ok (.aload_n 0, 1) := by decide +kernel
theorem d_Mo_init_5 : decode prog_8_method_1_code 5 = .ok (.bipush 32, 2) := by decide +kernel
theorem d_Mo_init_7 : decode prog_8_method_1_code 7 = .ok (.newarray .long, 2) := by decide +kernel
theorem d_Mo_init_9 : decode prog_8_method_1_code 9 = .ok (.putfield 7, 3) := by decide +kernel
theorem d_Mo_init_12 : decode prog_8_method_1_code 12 = .ok (.aload_n 0, 1) := by decide +kernel
theorem d_Mo_init_13 : decode prog_8_method_1_code 13 = .ok (.bipush 32, 2) := by decide +kernel
theorem d_Mo_init_15 : decode prog_8_method_1_code 15 = .ok (.newarray .long, 2) := by decide +kernel
theorem d_Mo_init_17 : decode prog_8_method_1_code 17 = .ok (.putfield 13, 3) := by decide +kernel
theorem d_Mo_init_20 : decode prog_8_method_1_code 20 = .ok (.aload_n 0, 1) := by decide +kernel
theorem d_Mo_init_21 : decode prog_8_method_1_code 21 = .ok (.bipush 16, 2) := by decide +kernel
theorem d_Mo_init_23 : decode prog_8_method_1_code 23 = .ok (.newarray .int, 2) := by decide +kernel
theorem d_Mo_init_25 : decode prog_8_method_1_code 25 = .ok (.putfield 16, 3) := by decide +kernel
theorem d_Mo_init_28 : decode prog_8_method_1_code 28 = .ok (.aload_n 0, 1) := by decide +kernel
theorem d_Mo_init_29 : decode prog_8_method_1_code 29 = .ok (.sipush 2048, 3) := by decide +kernel
theorem d_Mo_init_32 : decode prog_8_method_1_code 32 = .ok (.newarray .long, 2) := by decide +kernel
theorem d_Mo_init_34 : decode prog_8_method_1_code 34 = .ok (.putfield 20, 3) := by decide +kernel
theorem d_Mo_init_37 : decode prog_8_method_1_code 37 = .ok (.aload_n 0, 1) := by decide +kernel
theorem d_Mo_init_38 : decode prog_8_method_1_code 38 = .ok (.sipush 1024, 3) := by decide +kernel
theorem d_Mo_init_41 : decode prog_8_method_1_code 41 = .ok (.newarray .int, 2) := by decide +kernel
theorem d_Mo_init_43 : decode prog_8_method_1_code 43 = .ok (.putfield 23, 3) := by decide +kernel
theorem d_Mo_init_46 : decode prog_8_method_1_code 46 = .ok (.aload_n 0, 1) := by decide +kernel
theorem d_Mo_init_47 : decode prog_8_method_1_code 47 = .ok (.sipush 1024, 3) := by decide +kernel
theorem d_Mo_init_50 : decode prog_8_method_1_code 50 = .ok (.newarray .boolean, 2) := by decide +kernel
theorem d_Mo_init_52 : decode prog_8_method_1_code 52 = .ok (.putfield 26, 3) := by decide +kernel
theorem d_Mo_init_55 : decode prog_8_method_1_code 55 = .ok (.aload_n 0, 1) := by decide +kernel
theorem d_Mo_init_56 : decode prog_8_method_1_code 56 = .ok (.sipush 300, 3) := by decide +kernel
theorem d_Mo_init_59 : decode prog_8_method_1_code 59 = .ok (.newarray .int, 2) := by decide +kernel
theorem d_Mo_init_61 : decode prog_8_method_1_code 61 = .ok (.putfield 30, 3) := by decide +kernel
theorem d_Mo_init_64 : decode prog_8_method_1_code 64 = .ok (.aload_n 0, 1) := by decide +kernel
theorem d_Mo_init_65 : decode prog_8_method_1_code 65 = .ok (.sipush 300, 3) := by decide +kernel
theorem d_Mo_init_68 : decode prog_8_method_1_code 68 = .ok (.newarray .int, 2) := by decide +kernel
theorem d_Mo_init_70 : decode prog_8_method_1_code 70 = .ok (.putfield 33, 3) := by decide +kernel
theorem d_Mo_init_73 : decode prog_8_method_1_code 73 = .ok (.aload_n 0, 1) := by decide +kernel
theorem d_Mo_init_74 : decode prog_8_method_1_code 74 = .ok (.sipush 300, 3) := by decide +kernel
theorem d_Mo_init_77 : decode prog_8_method_1_code 77 = .ok (.newarray .int, 2) := by decide +kernel
theorem d_Mo_init_79 : decode prog_8_method_1_code 79 = .ok (.putfield 36, 3) := by decide +kernel
theorem d_Mo_init_82 : decode prog_8_method_1_code 82 = .ok (.aload_n 0, 1) := by decide +kernel
theorem d_Mo_init_83 : decode prog_8_method_1_code 83 = .ok (.sipush 300, 3) := by decide +kernel
theorem d_Mo_init_86 : decode prog_8_method_1_code 86 = .ok (.newarray .int, 2) := by decide +kernel
theorem d_Mo_init_88 : decode prog_8_method_1_code 88 = .ok (.putfield 39, 3) := by decide +kernel
theorem d_Mo_init_91 : decode prog_8_method_1_code 91 = .ok (.aload_n 0, 1) := by decide +kernel
theorem d_Mo_init_92 : decode prog_8_method_1_code 92 = .ok (.sipush 300, 3) := by decide +kernel
theorem d_Mo_init_95 : decode prog_8_method_1_code 95 = .ok (.newarray .long, 2) := by decide +kernel
theorem d_Mo_init_97 : decode prog_8_method_1_code 97 = .ok (.putfield 42, 3) := by decide +kernel
theorem d_Mo_init_100 : decode prog_8_method_1_code 100 = .ok (.aload_n 0, 1) := by decide +kernel
theorem d_Mo_init_101 : decode prog_8_method_1_code 101 = .ok (.bipush 8, 2) := by decide +kernel
theorem d_Mo_init_103 : decode prog_8_method_1_code 103 = .ok (.newarray .int, 2) := by decide +kernel
theorem d_Mo_init_105 : decode prog_8_method_1_code 105 = .ok (.putfield 45, 3) := by decide +kernel
theorem d_Mo_init_108 : decode prog_8_method_1_code 108 = .ok (.aload_n 0, 1) := by decide +kernel
theorem d_Mo_init_109 : decode prog_8_method_1_code 109 = .ok (.bipush 8, 2) := by decide +kernel
theorem d_Mo_init_111 : decode prog_8_method_1_code 111 = .ok (.newarray .boolean, 2) := by decide +kernel
theorem d_Mo_init_113 : decode prog_8_method_1_code 113 = .ok (.putfield 48, 3) := by decide +kernel
theorem d_Mo_init_116 : decode prog_8_method_1_code 116 = .ok (.aload_n 0, 1) := by decide +kernel
theorem d_Mo_init_117 : decode prog_8_method_1_code 117 = .ok (.bipush 8, 2) := by decide +kernel
theorem d_Mo_init_119 : decode prog_8_method_1_code 119 = .ok (.newarray .int, 2) := by decide +kernel
theorem d_Mo_init_121 : decode prog_8_method_1_code 121 = .ok (.putfield 51, 3) := by decide +kernel
theorem d_Mo_init_124 : decode prog_8_method_1_code 124 = .ok (.aload_n 0, 1) := by decide +kernel
theorem d_Mo_init_125 : decode prog_8_method_1_code 125 = .ok (.sipush 512, 3) := by decide +kernel
theorem d_Mo_init_128 : decode prog_8_method_1_code 128 = .ok (.newarray .int, 2) := by decide +kernel
theorem d_Mo_init_130 : decode prog_8_method_1_code 130 = .ok (.putfield 54, 3) := by decide +kernel
theorem d_Mo_init_133 : decode prog_8_method_1_code 133 = .ok (.aload_n 0, 1) := by decide +kernel
theorem d_Mo_init_134 : decode prog_8_method_1_code 134 = .ok (.sipush 512, 3) := by decide +kernel
theorem d_Mo_init_137 : decode prog_8_method_1_code 137 = .ok (.newarray .int, 2) := by decide +kernel
theorem d_Mo_init_139 : decode prog_8_method_1_code 139 = .ok (.putfield 57, 3) := by decide +kernel
theorem d_Mo_init_142 : decode prog_8_method_1_code 142 = .ok (.aload_n 0, 1) := by decide +kernel
theorem d_Mo_init_143 : decode prog_8_method_1_code 143 = .ok (.sipush 512, 3) := by decide +kernel
theorem d_Mo_init_146 : decode prog_8_method_1_code 146 = .ok (.newarray .int, 2) := by decide +kernel
theorem d_Mo_init_148 : decode prog_8_method_1_code 148 = .ok (.putfield 60, 3) := by decide +kernel
theorem d_Mo_init_151 : decode prog_8_method_1_code 151 = .ok (.aload_n 0, 1) := by decide +kernel
theorem d_Mo_init_152 : decode prog_8_method_1_code 152 = .ok (.bipush 8, 2) := by decide +kernel
theorem d_Mo_init_154 : decode prog_8_method_1_code 154 = .ok (.newarray .boolean, 2) := by decide +kernel
theorem d_Mo_init_156 : decode prog_8_method_1_code 156 = .ok (.putfield 63, 3) := by decide +kernel
theorem d_Mo_init_159 : decode prog_8_method_1_code 159 = .ok (.aload_n 0, 1) := by decide +kernel
theorem d_Mo_init_160 : decode prog_8_method_1_code 160 = .ok (.bipush 8, 2) := by decide +kernel
theorem d_Mo_init_162 : decode prog_8_method_1_code 162 = .ok (.newarray .boolean, 2) := by decide +kernel
theorem d_Mo_init_164 : decode prog_8_method_1_code 164 = .ok (.putfield 66, 3) := by decide +kernel
theorem d_Mo_init_167 : decode prog_8_method_1_code 167 = .ok (.aload_n 0, 1) := by decide +kernel
theorem d_Mo_init_168 : decode prog_8_method_1_code 168 = .ok (.bipush 8, 2) := by decide +kernel
theorem d_Mo_init_170 : decode prog_8_method_1_code 170 = .ok (.newarray .boolean, 2) := by decide +kernel
theorem d_Mo_init_172 : decode prog_8_method_1_code 172 = .ok (.putfield 69, 3) := by decide +kernel
theorem d_Mo_init_175 : decode prog_8_method_1_code 175 = .ok (.aload_n 0, 1) := by decide +kernel
theorem d_Mo_init_176 : decode prog_8_method_1_code 176 = .ok (.sipush 128, 3) := by decide +kernel
theorem d_Mo_init_179 : decode prog_8_method_1_code 179 = .ok (.newarray .boolean, 2) := by decide +kernel
theorem d_Mo_init_181 : decode prog_8_method_1_code 181 = .ok (.putfield 72, 3) := by decide +kernel
theorem d_Mo_init_184 : decode prog_8_method_1_code 184 = .ok (.aload_n 0, 1) := by decide +kernel
theorem d_Mo_init_185 : decode prog_8_method_1_code 185 = .ok (.iload_n 1, 1) := by decide +kernel
theorem d_Mo_init_186 : decode prog_8_method_1_code 186 = .ok (.iconst 1, 1) := by decide +kernel
theorem d_Mo_init_187 : decode prog_8_method_1_code 187 = .ok (.if_icmp .ge 7, 3) := by decide +kernel
theorem d_Mo_init_190 : decode prog_8_method_1_code 190 = .ok (.iconst 1, 1) := by decide +kernel
theorem d_Mo_init_191 : decode prog_8_method_1_code 191 = .ok (.goto 15, 3) := by decide +kernel
theorem d_Mo_init_194 : decode prog_8_method_1_code 194 = .ok (.iload_n 1, 1) := by decide +kernel
theorem d_Mo_init_195 : decode prog_8_method_1_code 195 = .ok (.bipush 8, 2) := by decide +kernel
theorem d_Mo_init_197 : decode prog_8_method_1_code 197 = .ok (.if_icmp .le 8, 3) := by decide +kernel
theorem d_Mo_init_200 : decode prog_8_method_1_code 200 = .ok (.bipush 8, 2) := by decide +kernel
theorem d_Mo_init_202 : decode prog_8_method_1_code 202 = .ok (.goto 4, 3) := by decide +kernel
theorem d_Mo_init_205 : decode prog_8_method_1_code 205 = .ok (.iload_n 1, 1) := by decide +kernel
theorem d_Mo_init_206 : decode prog_8_method_1_code 206 = .ok (.putfield 75, 3) := by decide +kernel
theorem d_Mo_init_209 : decode prog_8_method_1_code 209 = .ok (.iconst 0, 1) := by decide +kernel
theorem d_Mo_init_210 : decode prog_8_method_1_code 210 = .ok (.istore_n 2, 1) := by decide +kernel
theorem d_Mo_init_211 : decode prog_8_method_1_code 211 = .ok (.iload_n 2, 1) := by decide +kernel
theorem d_Mo_init_212 : decode prog_8_method_1_code 212 = .ok (.bipush 16, 2) := by decide +kernel
theorem d_Mo_init_214 : decode prog_8_method_1_code 214 = .ok (.if_icmp .ge 16, 3) := by decide +kernel
theorem d_Mo_init_217 : decode prog_8_method_1_code 217 = .ok (.aload_n 0, 1) := by decide +kernel
theorem d_Mo_init_218 : decode prog_8_method_1_code 218 = .ok (.getfield 16, 3) := by decide +kernel
theorem d_Mo_init_221 : decode prog_8_method_1_code 221 = .ok (.iload_n 2, 1) := by decide +kernel
theorem d_Mo_init_222 : decode prog_8_method_1_code 222 = .ok (.iconst (-1), 1) := by decide +kernel
theorem d_Mo_init_223 : decode prog_8_method_1_code 223 = .ok (.iastore, 1) := by decide +kernel
theorem d_Mo_init_224 : decode prog_8_method_1_code 224 = .ok (.iinc 2 1, 3) := by decide +kernel
theorem d_Mo_init_227 : decode prog_8_method_1_code 227 = .ok (.goto (-16), 3) := by decide +kernel
theorem d_Mo_init_230 : decode prog_8_method_1_code 230 = .ok (.iconst 0, 1) := by decide +kernel
theorem d_Mo_init_231 : decode prog_8_method_1_code 231 = .ok (.istore_n 2, 1) := by decide +kernel
theorem d_Mo_init_232 : decode prog_8_method_1_code 232 = .ok (.iload_n 2, 1) := by decide +kernel
theorem d_Mo_init_233 : decode prog_8_method_1_code 233 = .ok (.bipush 8, 2) := by decide +kernel
theorem d_Mo_init_235 : decode prog_8_method_1_code 235 = .ok (.if_icmp .ge 16, 3) := by decide +kernel
theorem d_Mo_init_238 : decode prog_8_method_1_code 238 = .ok (.aload_n 0, 1) := by decide +kernel
theorem d_Mo_init_239 : decode prog_8_method_1_code 239 = .ok (.getfield 51, 3) := by decide +kernel
theorem d_Mo_init_242 : decode prog_8_method_1_code 242 = .ok (.iload_n 2, 1) := by decide +kernel
theorem d_Mo_init_243 : decode prog_8_method_1_code 243 = .ok (.iconst (-1), 1) := by decide +kernel
theorem d_Mo_init_244 : decode prog_8_method_1_code 244 = .ok (.iastore, 1) := by decide +kernel
theorem d_Mo_init_245 : decode prog_8_method_1_code 245 = .ok (.iinc 2 1, 3) := by decide +kernel
theorem d_Mo_init_248 : decode prog_8_method_1_code 248 = .ok (.goto (-16), 3) := by decide +kernel
theorem d_Mo_init_251 : decode prog_8_method_1_code 251 = .ok (.return_, 1) := by decide +kernel
theorem d_Mo_isIn_0 : decode prog_8_method_2_code 0 = .ok (.iload_n 0, 1) := by decide +kernel
theorem d_Mo_isIn_1 : decode prog_8_method_2_code 1 = .ok (.iload_n 1, 1) := by decide +kernel
theorem d_Mo_isIn_2 : decode prog_8_method_2_code 2 = .ok (.if_icmp .lt 12, 3) := by decide +kernel
theorem d_Mo_isIn_5 : decode prog_8_method_2_code 5 = .ok (.iload_n 0, 1) := by decide +kernel
theorem d_Mo_isIn_6 : decode prog_8_method_2_code 6 = .ok (.iload_n 2, 1) := by decide +kernel
theorem d_Mo_isIn_7 : decode prog_8_method_2_code 7 = .ok (.if_icmp .gt 7, 3) := by decide +kernel
theorem d_Mo_isIn_10 : decode prog_8_method_2_code 10 = .ok (.iconst 1, 1) := by decide +kernel
theorem d_Mo_isIn_11 : decode prog_8_method_2_code 11 = .ok (.goto 4, 3) := by decide +kernel
theorem d_Mo_isIn_14 : decode prog_8_method_2_code 14 = .ok (.iconst 0, 1) := by decide +kernel
theorem d_Mo_isIn_15 : decode prog_8_method_2_code 15 = .ok (.ireturn, 1) := by decide +kernel
theorem d_Mo_isUnit_0 : decode prog_8_method_3_code 0 = .ok (.iload_n 1, 1) := by decide +kernel
theorem d_Mo_isUnit_1 : decode prog_8_method_3_code 1 = .ok (.iconst 0, 1) := by decide +kernel
theorem d_Mo_isUnit_2 : decode prog_8_method_3_code 2 = .ok (.aload_n 0, 1) := by decide +kernel
theorem d_Mo_isUnit_3 : decode prog_8_method_3_code 3 = .ok (.getfield 75, 3) := by decide +kernel
theorem d_Mo_isUnit_6 : decode prog_8_method_3_code 6 = .ok (.iconst 1, 1) := by decide +kernel
theorem d_Mo_isUnit_7 : decode prog_8_method_3_code 7 = .ok (.isub, 1) := by decide +kernel
theorem d_Mo_isUnit_8 : decode prog_8_method_3_code 8 = .ok (.invokestatic 79, 3) := by decide +kernel
theorem d_Mo_isUnit_11 : decode prog_8_method_3_code 11 = .ok (.ireturn, 1) := by decide +kernel
theorem d_Mo_isOpen_0 : decode prog_8_method_4_code 0 = .ok (.aload_n 0, 1) := by decide +kernel
theorem d_Mo_isOpen_1 : decode prog_8_method_4_code 1 = .ok (.getfield 83, 3) := by decide +kernel
theorem d_Mo_isOpen_4 : decode prog_8_method_4_code 4 = .ok (.ifCond .ne 27, 3) := by decide +kernel
theorem d_Mo_isOpen_7 : decode prog_8_method_4_code 7 = .ok (.iload_n 2, 1) := by decide +kernel
theorem d_Mo_isOpen_8 : decode prog_8_method_4_code 8 = .ok (.aload_n 0, 1) := by decide +kernel
theorem d_Mo_isOpen_9 : decode prog_8_method_4_code 9 = .ok (.getfield 45, 3) := by decide +kernel
theorem d_Mo_isOpen_12 : decode prog_8_method_4_code 12 = .ok (.iload_n 1, 1) := by decide +kernel
theorem d_Mo_isOpen_13 : decode prog_8_method_4_code 13 = .ok (.iaload, 1) := by decide +kernel
theorem d_Mo_isOpen_14 : decode prog_8_method_4_code 14 = .ok (.if_icmp .lt 17, 3) := by decide +kernel
theorem d_Mo_isOpen_17 : decode prog_8_method_4_code 17 = .ok (.aload_n 0, 1) := by decide +kernel
theorem d_Mo_isOpen_18 : decode prog_8_method_4_code 18 = .ok (.getfield 87, 3) := by decide +kernel
theorem d_Mo_isOpen_21 : decode prog_8_method_4_code 21 = .ok (.sipush 300, 3) := by decide +kernel
theorem d_Mo_isOpen_24 : decode prog_8_method_4_code 24 = .ok (.if_icmp .ge 7, 3) := by decide +kernel
theorem d_Mo_isOpen_27 : decode prog_8_method_4_code 27 = .ok (.iconst 1, 1) := by decide +kernel
theorem d_Mo_isOpen_28 : decode prog_8_method_4_code 28 = .ok (.goto 4, 3) := by decide +kernel
theorem d_Mo_isOpen_31 : decode prog_8_method_4_code 31 = .ok (.iconst 0, 1) := by decide +kernel
theorem d_Mo_isOpen_32 : decode prog_8_method_4_code 32 = .ok (.ireturn, 1) := by decide +kernel
theorem d_Mo_add_0 : decode prog_8_method_5_code 0 = .ok (.aload_n 0, 1) := by decide +kernel
theorem d_Mo_add_1 : decode prog_8_method_5_code 1 = .ok (.getfield 30, 3) := by decide +kernel
theorem d_Mo_add_4 : decode prog_8_method_5_code 4 = .ok (.aload_n 0, 1) := by decide +kernel
theorem d_Mo_add_5 : decode prog_8_method_5_code 5 = .ok (.getfield 87, 3) := by decide +kernel
theorem d_Mo_add_8 : decode prog_8_method_5_code 8 = .ok (.iload_n 1, 1) := by decide +kernel
theorem d_Mo_add_9 : decode prog_8_method_5_code 9 = .ok (.iastore, 1) := by decide +kernel
theorem d_Mo_add_10 : decode prog_8_method_5_code 10 = .ok (.aload_n 0, 1) := by decide +kernel
theorem d_Mo_add_11 : decode prog_8_method_5_code 11 = .ok (.getfield 33, 3) := by decide +kernel
theorem d_Mo_add_14 : decode prog_8_method_5_code 14 = .ok (.aload_n 0, 1) := by decide +kernel
theorem d_Mo_add_15 : decode prog_8_method_5_code 15 = .ok (.getfield 87, 3) := by decide +kernel
theorem d_Mo_add_18 : decode prog_8_method_5_code 18 = .ok (.iload_n 2, 1) := by decide +kernel
theorem d_Mo_add_19 : decode prog_8_method_5_code 19 = .ok (.iastore, 1) := by decide +kernel
theorem d_Mo_add_20 : decode prog_8_method_5_code 20 = .ok (.aload_n 0, 1) := by decide +kernel
theorem d_Mo_add_21 : decode prog_8_method_5_code 21 = .ok (.getfield 36, 3) := by decide +kernel
theorem d_Mo_add_24 : decode prog_8_method_5_code 24 = .ok (.aload_n 0, 1) := by decide +kernel
theorem d_Mo_add_25 : decode prog_8_method_5_code 25 = .ok (.getfield 87, 3) := by decide +kernel
theorem d_Mo_add_28 : decode prog_8_method_5_code 28 = .ok (.iload_n 3, 1) := by decide +kernel
theorem d_Mo_add_29 : decode prog_8_method_5_code 29 = .ok (.iastore, 1) := by decide +kernel
theorem d_Mo_add_30 : decode prog_8_method_5_code 30 = .ok (.aload_n 0, 1) := by decide +kernel
theorem d_Mo_add_31 : decode prog_8_method_5_code 31 = .ok (.getfield 39, 3) := by decide +kernel
theorem d_Mo_add_34 : decode prog_8_method_5_code 34 = .ok (.aload_n 0, 1) := by decide +kernel
theorem d_Mo_add_35 : decode prog_8_method_5_code 35 = .ok (.getfield 87, 3) := by decide +kernel
theorem d_Mo_add_38 : decode prog_8_method_5_code 38 = .ok (.iload 4, 2) := by decide +kernel
theorem d_Mo_add_40 : decode prog_8_method_5_code 40 = .ok (.iastore, 1) := by decide +kernel
theorem d_Mo_add_41 : decode prog_8_method_5_code 41 = .ok (.aload_n 0, 1) := by decide +kernel
theorem d_Mo_add_42 : decode prog_8_method_5_code 42 = .ok (.getfield 42, 3) := by decide +kernel
theorem d_Mo_add_45 : decode prog_8_method_5_code 45 = .ok (.aload_n 0, 1) := by decide +kernel
theorem d_Mo_add_46 : decode prog_8_method_5_code 46 = .ok (.getfield 87, 3) := by decide +kernel
theorem d_Mo_add_49 : decode prog_8_method_5_code 49 = .ok (.lload 5, 2) := by decide +kernel
theorem d_Mo_add_51 : decode prog_8_method_5_code 51 = .ok (.lastore, 1) := by decide +kernel
theorem d_Mo_add_52 : decode prog_8_method_5_code 52 = .ok (.aload_n 0, 1) := by decide +kernel
theorem d_Mo_add_53 : decode prog_8_method_5_code 53 = .ok (.dup, 1) := by decide +kernel
theorem d_Mo_add_54 : decode prog_8_method_5_code 54 = .ok (.getfield 87, 3) := by decide +kernel
theorem d_Mo_add_57 : decode prog_8_method_5_code 57 = .ok (.iconst 1, 1) := by decide +kernel
theorem d_Mo_add_58 : decode prog_8_method_5_code 58 = .ok (.iadd, 1) := by decide +kernel
theorem d_Mo_add_59 : decode prog_8_method_5_code 59 = .ok (.putfield 87, 3) := by decide +kernel
theorem d_Mo_add_62 : decode prog_8_method_5_code 62 = .ok (.iconst 1, 1) := by decide +kernel
theorem d_Mo_add_63 : decode prog_8_method_5_code 63 = .ok (.ireturn, 1) := by decide +kernel
theorem d_Mo_find_0 : decode prog_8_method_6_code 0 = .ok (.iconst 0, 1) := by decide +kernel
theorem d_Mo_find_1 : decode prog_8_method_6_code 1 = .ok (.istore 5, 2) := by decide +kernel
theorem d_Mo_find_3 : decode prog_8_method_6_code 3 = .ok (.iload 5, 2) := by decide +kernel
theorem d_Mo_find_5 : decode prog_8_method_6_code 5 = .ok (.aload_n 0, 1) := by decide +kernel
theorem d_Mo_find_6 : decode prog_8_method_6_code 6 = .ok (.getfield 87, 3) := by decide +kernel
theorem d_Mo_find_9 : decode prog_8_method_6_code 9 = .ok (.if_icmp .ge 63, 3) := by decide +kernel
theorem d_Mo_find_12 : decode prog_8_method_6_code 12 = .ok (.aload_n 0, 1) := by decide +kernel
theorem d_Mo_find_13 : decode prog_8_method_6_code 13 = .ok (.getfield 30, 3) := by decide +kernel
theorem d_Mo_find_16 : decode prog_8_method_6_code 16 = .ok (.iload 5, 2) := by decide +kernel
theorem d_Mo_find_18 : decode prog_8_method_6_code 18 = .ok (.iaload, 1) := by decide +kernel
theorem d_Mo_find_19 : decode prog_8_method_6_code 19 = .ok (.iload_n 1, 1) := by decide +kernel
theorem d_Mo_find_20 : decode prog_8_method_6_code 20 = .ok (.if_icmp .ne 46, 3) := by decide +kernel
theorem d_Mo_find_23 : decode prog_8_method_6_code 23 = .ok (.aload_n 0, 1) := by decide +kernel
theorem d_Mo_find_24 : decode prog_8_method_6_code 24 = .ok (.getfield 33, 3) := by decide +kernel
theorem d_Mo_find_27 : decode prog_8_method_6_code 27 = .ok (.iload 5, 2) := by decide +kernel
theorem d_Mo_find_29 : decode prog_8_method_6_code 29 = .ok (.iaload, 1) := by decide +kernel
theorem d_Mo_find_30 : decode prog_8_method_6_code 30 = .ok (.iload_n 2, 1) := by decide +kernel
theorem d_Mo_find_31 : decode prog_8_method_6_code 31 = .ok (.if_icmp .ne 35, 3) := by decide +kernel
theorem d_Mo_find_34 : decode prog_8_method_6_code 34 = .ok (.aload_n 0, 1) := by decide +kernel
theorem d_Mo_find_35 : decode prog_8_method_6_code 35 = .ok (.getfield 36, 3) := by decide +kernel
theorem d_Mo_find_38 : decode prog_8_method_6_code 38 = .ok (.iload 5, 2) := by decide +kernel
theorem d_Mo_find_40 : decode prog_8_method_6_code 40 = .ok (.iaload, 1) := by decide +kernel
theorem d_Mo_find_41 : decode prog_8_method_6_code 41 = .ok (.iload_n 3, 1) := by decide +kernel
theorem d_Mo_find_42 : decode prog_8_method_6_code 42 = .ok (.if_icmp .ne 24, 3) := by decide +kernel
theorem d_Mo_find_45 : decode prog_8_method_6_code 45 = .ok (.iload 4, 2) := by decide +kernel
theorem d_Mo_find_47 : decode prog_8_method_6_code 47 = .ok (.iconst (-1), 1) := by decide +kernel
theorem d_Mo_find_48 : decode prog_8_method_6_code 48 = .ok (.if_icmp .eq 15, 3) := by decide +kernel
theorem d_Mo_find_51 : decode prog_8_method_6_code 51 = .ok (.aload_n 0, 1) := by decide +kernel
theorem d_Mo_find_52 : decode prog_8_method_6_code 52 = .ok (.getfield 39, 3) := by decide +kernel
theorem d_Mo_find_55 : decode prog_8_method_6_code 55 = .ok (.iload 5, 2) := by decide +kernel
theorem d_Mo_find_57 : decode prog_8_method_6_code 57 = .ok (.iaload, 1) := by decide +kernel
theorem d_Mo_find_58 : decode prog_8_method_6_code 58 = .ok (.iload 4, 2) := by decide +kernel
theorem d_Mo_find_60 : decode prog_8_method_6_code 60 = .ok (.if_icmp .ne 6, 3) := by decide +kernel
theorem d_Mo_find_63 : decode prog_8_method_6_code 63 = .ok (.iload 5, 2) := by decide +kernel
theorem d_Mo_find_65 : decode prog_8_method_6_code 65 = .ok (.ireturn, 1) := by decide +kernel
theorem d_Mo_find_66 : decode prog_8_method_6_code 66 = .ok (.iinc 5 1, 3) := by decide +kernel
theorem d_Mo_find_69 : decode prog_8_method_6_code 69 = .ok (.goto (-66), 3) := by decide +kernel
theorem d_Mo_find_72 : decode prog_8_method_6_code 72 = .ok (.iconst (-1), 1) := by decide +kernel
theorem d_Mo_find_73 : decode prog_8_method_6_code 73 = .ok (.ireturn, 1) := by decide +kernel
theorem d_Mo_step_0 : decode prog_8_method_7_code 0 = .ok (.aload_n 0, 1) := by decide +kernel
theorem d_Mo_step_1 : decode prog_8_method_7_code 1 = .ok (.iload_n 1, 1) := by decide +kernel
theorem d_Mo_step_2 : decode prog_8_method_7_code 2 = .ok (.invokevirtual 90, 3) := by decide +kernel
theorem d_Mo_step_5 : decode prog_8_method_7_code 5 = .ok (.ifCond .eq 38, 3) := by decide +kernel
theorem d_Mo_step_8 : decode prog_8_method_7_code 8 = .ok (.iload_n 2, 1) := by decide +kernel
theorem d_Mo_step_9 : decode prog_8_method_7_code 9 = .ok (.iconst 0, 1) := by decide +kernel
theorem d_Mo_step_10 : decode prog_8_method_7_code 10 = .ok (.sipush 200, 3) := by decide +kernel
theorem d_Mo_step_13 : decode prog_8_method_7_code 13 = .ok (.invokestatic 79, 3) := by decide +kernel
theorem d_Mo_step_16 : decode prog_8_method_7_code 16 = .ok (.ifCond .eq 27, 3) := by decide +kernel
theorem d_Mo_step_19 : decode prog_8_method_7_code 19 = .ok (.iload_n 3, 1) := by decide +kernel
theorem d_Mo_step_20 : decode prog_8_method_7_code 20 = .ok (.iconst 4, 1) := by decide +kernel
theorem d_Mo_step_21 : decode prog_8_method_7_code 21 = .ok (.iload_n 1, 1) := by decide +kernel
theorem d_Mo_step_22 : decode prog_8_method_7_code 22 = .ok (.imul, 1) := by decide +kernel
theorem d_Mo_step_23 : decode prog_8_method_7_code 23 = .ok (.iconst 4, 1) := by decide +kernel
theorem d_Mo_step_24 : decode prog_8_method_7_code 24 = .ok (.iload_n 1, 1) := by decide +kernel
theorem d_Mo_step_25 : decode prog_8_method_7_code 25 = .ok (.imul, 1) := by decide +kernel
theorem d_Mo_step_26 : decode prog_8_method_7_code 26 = .ok (.iconst 3, 1) := by decide +kernel
theorem d_Mo_step_27 : decode prog_8_method_7_code 27 = .ok (.iadd, 1) := by decide +kernel
theorem d_Mo_step_28 : decode prog_8_method_7_code 28 = .ok (.invokestatic 79, 3) := by decide +kernel
theorem d_Mo_step_31 : decode prog_8_method_7_code 31 = .ok (.ifCond .eq 12, 3) := by decide +kernel
theorem d_Mo_step_34 : decode prog_8_method_7_code 34 = .ok (.aload_n 0, 1) := by decide +kernel
theorem d_Mo_step_35 : decode prog_8_method_7_code 35 = .ok (.iload_n 1, 1) := by decide +kernel
theorem d_Mo_step_36 : decode prog_8_method_7_code 36 = .ok (.iload_n 2, 1) := by decide +kernel
theorem d_Mo_step_37 : decode prog_8_method_7_code 37 = .ok (.invokevirtual 94, 3) := by decide +kernel
theorem d_Mo_step_40 : decode prog_8_method_7_code 40 = .ok (.ifCond .ne 5, 3) := by decide +kernel
theorem d_Mo_step_43 : decode prog_8_method_7_code 43 = .ok (.iconst 0, 1) := by decide +kernel
theorem d_Mo_step_44 : decode prog_8_method_7_code 44 = .ok (.ireturn, 1) := by decide +kernel
theorem d_Mo_step_45 : decode prog_8_method_7_code 45 = .ok (.aload_n 0, 1) := by decide +kernel
theorem d_Mo_step_46 : decode prog_8_method_7_code 46 = .ok (.iconst 0, 1) := by decide +kernel
theorem d_Mo_step_47 : decode prog_8_method_7_code 47 = .ok (.iload_n 1, 1) := by decide +kernel
theorem d_Mo_step_48 : decode prog_8_method_7_code 48 = .ok (.iload_n 2, 1) := by decide +kernel
theorem d_Mo_step_49 : decode prog_8_method_7_code 49 = .ok (.iload_n 3, 1) := by decide +kernel
theorem d_Mo_step_50 : decode prog_8_method_7_code 50 = .ok (.lload 4, 2) := by decide +kernel
theorem d_Mo_step_52 : decode prog_8_method_7_code 52 = .ok (.invokevirtual 98, 3) := by decide +kernel
theorem d_Mo_step_55 : decode prog_8_method_7_code 55 = .ok (.ireturn, 1) := by decide +kernel
theorem d_Mo_asks_0 : decode prog_8_method_8_code 0 = .ok (.aload_n 0, 1) := by decide +kernel
theorem d_Mo_asks_1 : decode prog_8_method_8_code 1 = .ok (.iload_n 1, 1) := by decide +kernel
theorem d_Mo_asks_2 : decode prog_8_method_8_code 2 = .ok (.invokevirtual 90, 3) := by decide +kernel
theorem d_Mo_asks_5 : decode prog_8_method_8_code 5 = .ok (.ifCond .eq 44, 3) := by decide +kernel
theorem d_Mo_asks_8 : decode prog_8_method_8_code 8 = .ok (.iload_n 2, 1) := by decide +kernel
theorem d_Mo_asks_9 : decode prog_8_method_8_code 9 = .ok (.iconst 0, 1) := by decide +kernel
theorem d_Mo_asks_10 : decode prog_8_method_8_code 10 = .ok (.sipush 200, 3) := by decide +kernel
theorem d_Mo_asks_13 : decode prog_8_method_8_code 13 = .ok (.invokestatic 79, 3) := by decide +kernel
theorem d_Mo_asks_16 : decode prog_8_method_8_code 16 = .ok (.ifCond .eq 33, 3) := by decide +kernel
theorem d_Mo_asks_19 : decode prog_8_method_8_code 19 = .ok (.iload_n 3, 1) := by decide +kernel
theorem d_Mo_asks_20 : decode prog_8_method_8_code 20 = .ok (.iconst 0, 1) := by decide +kernel
theorem d_Mo_asks_21 : decode prog_8_method_8_code 21 = .ok (.bipush 15, 2) := by decide +kernel
theorem d_Mo_asks_23 : decode prog_8_method_8_code 23 = .ok (.invokestatic 79, 3) := by decide +kernel
theorem d_Mo_asks_26 : decode prog_8_method_8_code 26 = .ok (.ifCond .eq 23, 3) := by decide +kernel
theorem d_Mo_asks_29 : decode prog_8_method_8_code 29 = .ok (.aload_n 0, 1) := by decide +kernel
theorem d_Mo_asks_30 : decode prog_8_method_8_code 30 = .ok (.iload_n 1, 1) := by decide +kernel
theorem d_Mo_asks_31 : decode prog_8_method_8_code 31 = .ok (.iload_n 2, 1) := by decide +kernel
theorem d_Mo_asks_32 : decode prog_8_method_8_code 32 = .ok (.invokevirtual 94, 3) := by decide +kernel
theorem d_Mo_asks_35 : decode prog_8_method_8_code 35 = .ok (.ifCond .eq 14, 3) := by decide +kernel
theorem d_Mo_asks_38 : decode prog_8_method_8_code 38 = .ok (.aload_n 0, 1) := by decide +kernel
theorem d_Mo_asks_39 : decode prog_8_method_8_code 39 = .ok (.iconst 1, 1) := by decide +kernel
theorem d_Mo_asks_40 : decode prog_8_method_8_code 40 = .ok (.iload_n 1, 1) := by decide +kernel
theorem d_Mo_asks_41 : decode prog_8_method_8_code 41 = .ok (.iload_n 2, 1) := by decide +kernel
theorem d_Mo_asks_42 : decode prog_8_method_8_code 42 = .ok (.iload_n 3, 1) := by decide +kernel
theorem d_Mo_asks_43 : decode prog_8_method_8_code 43 = .ok (.invokevirtual 102, 3) := by decide +kernel
theorem d_Mo_asks_46 : decode prog_8_method_8_code 46 = .ok (.ifCond .lt 5, 3) := by decide +kernel
theorem d_Mo_asks_49 : decode prog_8_method_8_code 49 = .ok (.iconst 0, 1) := by decide +kernel
theorem d_Mo_asks_50 : decode prog_8_method_8_code 50 = .ok (.ireturn, 1) := by decide +kernel
theorem d_Mo_asks_51 : decode prog_8_method_8_code 51 = .ok (.aload_n 0, 1) := by decide +kernel
theorem d_Mo_asks_52 : decode prog_8_method_8_code 52 = .ok (.iconst 1, 1) := by decide +kernel
theorem d_Mo_asks_53 : decode prog_8_method_8_code 53 = .ok (.iload_n 1, 1) := by decide +kernel
theorem d_Mo_asks_54 : decode prog_8_method_8_code 54 = .ok (.iload_n 2, 1) := by decide +kernel
theorem d_Mo_asks_55 : decode prog_8_method_8_code 55 = .ok (.iload_n 3, 1) := by decide +kernel
theorem d_Mo_asks_56 : decode prog_8_method_8_code 56 = .ok (.lconst 0, 1) := by decide +kernel
theorem d_Mo_asks_57 : decode prog_8_method_8_code 57 = .ok (.invokevirtual 98, 3) := by decide +kernel
theorem d_Mo_asks_60 : decode prog_8_method_8_code 60 = .ok (.ireturn, 1) := by decide +kernel
theorem d_Mo_throwsAt_0 : decode prog_8_method_9_code 0 = .ok (.aload_n 0, 1) := by decide +kernel
theorem d_Mo_throwsAt_1 : decode prog_8_method_9_code 1 = .ok (.iload_n 1, 1) := by decide +kernel
theorem d_Mo_throwsAt_2 : decode prog_8_method_9_code 2 = .ok (.invokevirtual 90, 3) := by decide +kernel
theorem d_Mo_throwsAt_5 : decode prog_8_method_9_code 5 = .ok (.ifCond .eq 34, 3) := by decide +kernel
theorem d_Mo_throwsAt_8 : decode prog_8_method_9_code 8 = .ok (.iload_n 2, 1) := by decide +kernel
theorem d_Mo_throwsAt_9 : decode prog_8_method_9_code 9 = .ok (.iconst 0, 1) := by decide +kernel
theorem d_Mo_throwsAt_10 : decode prog_8_method_9_code 10 = .ok (.sipush 200, 3) := by decide +kernel
theorem d_Mo_throwsAt_13 : decode prog_8_method_9_code 13 = .ok (.invokestatic 79, 3) := by decide +kernel
theorem d_Mo_throwsAt_16 : decode prog_8_method_9_code 16 = .ok (.ifCond .eq 23, 3) := by decide +kernel
theorem d_Mo_throwsAt_19 : decode prog_8_method_9_code 19 = .ok (.aload_n 0, 1) := by decide +kernel
theorem d_Mo_throwsAt_20 : decode prog_8_method_9_code 20 = .ok (.iload_n 1, 1) := by decide +kernel
theorem d_Mo_throwsAt_21 : decode prog_8_method_9_code 21 = .ok (.iload_n 2, 1) := by decide +kernel
theorem d_Mo_throwsAt_22 : decode prog_8_method_9_code 22 = .ok (.invokevirtual 94, 3) := by decide +kernel
theorem d_Mo_throwsAt_25 : decode prog_8_method_9_code 25 = .ok (.ifCond .eq 14, 3) := by decide +kernel
theorem d_Mo_throwsAt_28 : decode prog_8_method_9_code 28 = .ok (.aload_n 0, 1) := by decide +kernel
theorem d_Mo_throwsAt_29 : decode prog_8_method_9_code 29 = .ok (.iconst 2, 1) := by decide +kernel
theorem d_Mo_throwsAt_30 : decode prog_8_method_9_code 30 = .ok (.iload_n 1, 1) := by decide +kernel
theorem d_Mo_throwsAt_31 : decode prog_8_method_9_code 31 = .ok (.iload_n 2, 1) := by decide +kernel
theorem d_Mo_throwsAt_32 : decode prog_8_method_9_code 32 = .ok (.iconst (-1), 1) := by decide +kernel
theorem d_Mo_throwsAt_33 : decode prog_8_method_9_code 33 = .ok (.invokevirtual 102, 3) := by decide +kernel
theorem d_Mo_throwsAt_36 : decode prog_8_method_9_code 36 = .ok (.ifCond .lt 5, 3) := by decide +kernel
theorem d_Mo_throwsAt_39 : decode prog_8_method_9_code 39 = .ok (.iconst 0, 1) := by decide +kernel
theorem d_Mo_throwsAt_40 : decode prog_8_method_9_code 40 = .ok (.ireturn, 1) := by decide +kernel
theorem d_Mo_throwsAt_41 : decode prog_8_method_9_code 41 = .ok (.aload_n 0, 1) := by decide +kernel
theorem d_Mo_throwsAt_42 : decode prog_8_method_9_code 42 = .ok (.iconst 2, 1) := by decide +kernel
theorem d_Mo_throwsAt_43 : decode prog_8_method_9_code 43 = .ok (.iload_n 1, 1) := by decide +kernel
theorem d_Mo_throwsAt_44 : decode prog_8_method_9_code 44 = .ok (.iload_n 2, 1) := by decide +kernel
theorem d_Mo_throwsAt_45 : decode prog_8_method_9_code 45 = .ok (.iconst 0, 1) := by decide +kernel
theorem d_Mo_throwsAt_46 : decode prog_8_method_9_code 46 = .ok (.lconst 0, 1) := by decide +kernel
theorem d_Mo_throwsAt_47 : decode prog_8_method_9_code 47 = .ok (.invokevirtual 98, 3) := by decide +kernel
theorem d_Mo_throwsAt_50 : decode prog_8_method_9_code 50 = .ok (.ireturn, 1) := by decide +kernel
theorem d_Mo_safe_0 : decode prog_8_method_10_code 0 = .ok (.iload_n 1, 1) := by decide +kernel
theorem d_Mo_safe_1 : decode prog_8_method_10_code 1 = .ok (.iconst 0, 1) := by decide +kernel
theorem d_Mo_safe_2 : decode prog_8_method_10_code 2 = .ok (.iconst 4, 1) := by decide +kernel
theorem d_Mo_safe_3 : decode prog_8_method_10_code 3 = .ok (.aload_n 0, 1) := by decide +kernel
theorem d_Mo_safe_4 : decode prog_8_method_10_code 4 = .ok (.getfield 75, 3) := by decide +kernel
theorem d_Mo_safe_7 : decode prog_8_method_10_code 7 = .ok (.imul, 1) := by decide +kernel
theorem d_Mo_safe_8 : decode prog_8_method_10_code 8 = .ok (.iconst 1, 1) := by decide +kernel
theorem d_Mo_safe_9 : decode prog_8_method_10_code 9 = .ok (.isub, 1) := by decide +kernel
theorem d_Mo_safe_10 : decode prog_8_method_10_code 10 = .ok (.invokestatic 79, 3) := by decide +kernel
theorem d_Mo_safe_13 : decode prog_8_method_10_code 13 = .ok (.ifCond .eq 10, 3) := by decide +kernel
theorem d_Mo_safe_16 : decode prog_8_method_10_code 16 = .ok (.aload_n 0, 1) := by decide +kernel
theorem d_Mo_safe_17 : decode prog_8_method_10_code 17 = .ok (.getfield 83, 3) := by decide +kernel
theorem d_Mo_safe_20 : decode prog_8_method_10_code 20 = .ok (.ifCond .eq 5, 3) := by decide +kernel
theorem d_Mo_safe_23 : decode prog_8_method_10_code 23 = .ok (.iconst 0, 1) := by decide +kernel
theorem d_Mo_safe_24 : decode prog_8_method_10_code 24 = .ok (.ireturn, 1) := by decide +kernel
theorem d_Mo_safe_25 : decode prog_8_method_10_code 25 = .ok (.aload_n 0, 1) := by decide +kernel
theorem d_Mo_safe_26 : decode prog_8_method_10_code 26 = .ok (.getfield 13, 3) := by decide +kernel
theorem d_Mo_safe_29 : decode prog_8_method_10_code 29 = .ok (.iload_n 1, 1) := by decide +kernel
theorem d_Mo_safe_30 : decode prog_8_method_10_code 30 = .ok (.lload_n 2, 1) := by decide +kernel
theorem d_Mo_safe_31 : decode prog_8_method_10_code 31 = .ok (.lastore, 1) := by decide +kernel
theorem d_Mo_safe_32 : decode prog_8_method_10_code 32 = .ok (.iconst 1, 1) := by decide +kernel
theorem d_Mo_safe_33 : decode prog_8_method_10_code 33 = .ok (.ireturn, 1) := by decide +kernel
theorem d_Mo_bar_0 : decode prog_8_method_11_code 0 = .ok (.iload_n 1, 1) := by decide +kernel
theorem d_Mo_bar_1 : decode prog_8_method_11_code 1 = .ok (.iconst 0, 1) := by decide +kernel
theorem d_Mo_bar_2 : decode prog_8_method_11_code 2 = .ok (.bipush 15, 2) := by decide +kernel
theorem d_Mo_bar_4 : decode prog_8_method_11_code 4 = .ok (.invokestatic 79, 3) := by decide +kernel
theorem d_Mo_bar_7 : decode prog_8_method_11_code 7 = .ok (.ifCond .eq 42, 3) := by decide +kernel
theorem d_Mo_bar_10 : decode prog_8_method_11_code 10 = .ok (.iload_n 2, 1) := by decide +kernel
theorem d_Mo_bar_11 : decode prog_8_method_11_code 11 = .ok (.iconst 0, 1) := by decide +kernel
theorem d_Mo_bar_12 : decode prog_8_method_11_code 12 = .ok (.bipush 63, 2) := by decide +kernel
theorem d_Mo_bar_14 : decode prog_8_method_11_code 14 = .ok (.invokestatic 79, 3) := by decide +kernel
theorem d_Mo_bar_17 : decode prog_8_method_11_code 17 = .ok (.ifCond .eq 32, 3) := by decide +kernel
theorem d_Mo_bar_20 : decode prog_8_method_11_code 20 = .ok (.aload_n 0, 1) := by decide +kernel
theorem d_Mo_bar_21 : decode prog_8_method_11_code 21 = .ok (.getfield 83, 3) := by decide +kernel
theorem d_Mo_bar_24 : decode prog_8_method_11_code 24 = .ok (.ifCond .ne 25, 3) := by decide +kernel
theorem d_Mo_bar_27 : decode prog_8_method_11_code 27 = .ok (.iload_n 2, 1) := by decide +kernel
theorem d_Mo_bar_28 : decode prog_8_method_11_code 28 = .ok (.aload_n 0, 1) := by decide +kernel
theorem d_Mo_bar_29 : decode prog_8_method_11_code 29 = .ok (.getfield 106, 3) := by decide +kernel
theorem d_Mo_bar_32 : decode prog_8_method_11_code 32 = .ok (.if_icmp .lt 17, 3) := by decide +kernel
theorem d_Mo_bar_35 : decode prog_8_method_11_code 35 = .ok (.aload_n 0, 1) := by decide +kernel
theorem d_Mo_bar_36 : decode prog_8_method_11_code 36 = .ok (.getfield 26, 3) := by decide +kernel
theorem d_Mo_bar_39 : decode prog_8_method_11_code 39 = .ok (.bipush 16, 2) := by decide +kernel
theorem d_Mo_bar_41 : decode prog_8_method_11_code 41 = .ok (.iload_n 2, 1) := by decide +kernel
theorem d_Mo_bar_42 : decode prog_8_method_11_code 42 = .ok (.imul, 1) := by decide +kernel
theorem d_Mo_bar_43 : decode prog_8_method_11_code 43 = .ok (.iload_n 1, 1) := by decide +kernel
theorem d_Mo_bar_44 : decode prog_8_method_11_code 44 = .ok (.iadd, 1) := by decide +kernel
theorem d_Mo_bar_45 : decode prog_8_method_11_code 45 = .ok (.baload, 1) := by decide +kernel
theorem d_Mo_bar_46 : decode prog_8_method_11_code 46 = .ok (.ifCond .eq 5, 3) := by decide +kernel
theorem d_Mo_bar_49 : decode prog_8_method_11_code 49 = .ok (.iconst 0, 1) := by decide +kernel
theorem d_Mo_bar_50 : decode prog_8_method_11_code 50 = .ok (.ireturn, 1) := by decide +kernel
theorem d_Mo_bar_51 : decode prog_8_method_11_code 51 = .ok (.aload_n 0, 1) := by decide +kernel
theorem d_Mo_bar_52 : decode prog_8_method_11_code 52 = .ok (.getfield 26, 3) := by decide +kernel
theorem d_Mo_bar_55 : decode prog_8_method_11_code 55 = .ok (.bipush 16, 2) := by decide +kernel
theorem d_Mo_bar_57 : decode prog_8_method_11_code 57 = .ok (.iload_n 2, 1) := by decide +kernel
theorem d_Mo_bar_58 : decode prog_8_method_11_code 58 = .ok (.imul, 1) := by decide +kernel
theorem d_Mo_bar_59 : decode prog_8_method_11_code 59 = .ok (.iload_n 1, 1) := by decide +kernel
theorem d_Mo_bar_60 : decode prog_8_method_11_code 60 = .ok (.iadd, 1) := by decide +kernel
theorem d_Mo_bar_61 : decode prog_8_method_11_code 61 = .ok (.iconst 1, 1) := by decide +kernel
theorem d_Mo_bar_62 : decode prog_8_method_11_code 62 = .ok (.bastore, 1) := by decide +kernel
theorem d_Mo_bar_63 : decode prog_8_method_11_code 63 = .ok (.iconst 1, 1) := by decide +kernel
theorem d_Mo_bar_64 : decode prog_8_method_11_code 64 = .ok (.ireturn, 1) := by decide +kernel
theorem d_Mo_hasEnded_0 : decode prog_8_method_12_code 0 = .ok (.iconst 1, 1) := by decide +kernel
theorem d_Mo_hasEnded_1 : decode prog_8_method_12_code 1 = .ok (.istore_n 2, 1) := by decide +kernel
theorem d_Mo_hasEnded_2 : decode prog_8_method_12_code 2 = .ok (.iconst 0, 1) := by decide +kernel
theorem d_Mo_hasEnded_3 : decode prog_8_method_12_code 3 = .ok (.istore_n 3, 1) := by decide +kernel
theorem d_Mo_hasEnded_4 : decode prog_8_method_12_code 4 = .ok (.iload_n 3, 1) := by decide +kernel
theorem d_Mo_hasEnded_5 : decode prog_8_method_12_code 5 = .ok (.aload_n 0, 1) := by decide +kernel
theorem d_Mo_hasEnded_6 : decode prog_8_method_12_code 6 = .ok (.getfield 87, 3) := by decide +kernel
theorem d_Mo_hasEnded_9 : decode prog_8_method_12_code 9 = .ok (.if_icmp .ge 44, 3) := by decide +kernel
theorem d_Mo_hasEnded_12 : decode prog_8_method_12_code 12 = .ok (.iload_n 2, 1) := by decide +kernel
theorem d_Mo_hasEnded_13 : decode prog_8_method_12_code 13 = .ok (.ifCond .eq 32, 3) := by decide +kernel
theorem d_Mo_hasEnded_16 : decode prog_8_method_12_code 16 = .ok (.aload_n 0, 1) := by decide +kernel
theorem d_Mo_hasEnded_17 : decode prog_8_method_12_code 17 = .ok (.getfield 33, 3) := by decide +kernel
theorem d_Mo_hasEnded_20 : decode prog_8_method_12_code 20 = .ok (.iload_n 3, 1) := by decide +kernel
theorem d_Mo_hasEnded_21 : decode prog_8_method_12_code 21 = .ok (.iaload, 1) := by decide +kernel
theorem d_Mo_hasEnded_22 : decode prog_8_method_12_code 22 = .ok (.iload_n 1, 1) := by decide +kernel
theorem d_Mo_hasEnded_23 : decode prog_8_method_12_code 23 = .ok (.if_icmp .ne 18, 3) := by decide +kernel
theorem d_Mo_hasEnded_26 : decode prog_8_method_12_code 26 = .ok (.aload_n 0, 1) := by decide +kernel
theorem d_Mo_hasEnded_27 : decode prog_8_method_12_code 27 = .ok (.getfield 36, 3) := by decide +kernel
theorem d_Mo_hasEnded_30 : decode prog_8_method_12_code 30 = .ok (.iload_n 3, 1) := by decide +kernel
theorem d_Mo_hasEnded_31 : decode prog_8_method_12_code 31 = .ok (.iaload, 1) := by decide +kernel
theorem d_Mo_hasEnded_32 : decode prog_8_method_12_code 32 = .ok (.aload_n 0, 1) := by decide +kernel
theorem d_Mo_hasEnded_33 : decode prog_8_method_12_code 33 = .ok (.getfield 45, 3) := by decide +kernel
theorem d_Mo_hasEnded_36 : decode prog_8_method_12_code 36 = .ok (.iload_n 1, 1) := by decide +kernel
theorem d_Mo_hasEnded_37 : decode prog_8_method_12_code 37 = .ok (.iaload, 1) := by decide +kernel
theorem d_Mo_hasEnded_38 : decode prog_8_method_12_code 38 = .ok (.if_icmp .ge 7, 3) := by decide +kernel
theorem d_Mo_hasEnded_41 : decode prog_8_method_12_code 41 = .ok (.iconst 1, 1) := by decide +kernel
theorem d_Mo_hasEnded_42 : decode prog_8_method_12_code 42 = .ok (.goto 4, 3) := by decide +kernel
theorem d_Mo_hasEnded_45 : decode prog_8_method_12_code 45 = .ok (.iconst 0, 1) := by decide +kernel
theorem d_Mo_hasEnded_46 : decode prog_8_method_12_code 46 = .ok (.istore_n 2, 1) := by decide +kernel
theorem d_Mo_hasEnded_47 : decode prog_8_method_12_code 47 = .ok (.iinc 3 1, 3) := by decide +kernel
theorem d_Mo_hasEnded_50 : decode prog_8_method_12_code 50 = .ok (.goto (-46), 3) := by decide +kernel
theorem d_Mo_hasEnded_53 : decode prog_8_method_12_code 53 = .ok (.iload_n 2, 1) := by decide +kernel
theorem d_Mo_hasEnded_54 : decode prog_8_method_12_code 54 = .ok (.ireturn, 1) := by decide +kernel
theorem d_Mo_goes_0 : decode prog_8_method_13_code 0 = .ok (.aload_n 0, 1) := by decide +kernel
theorem d_Mo_goes_1 : decode prog_8_method_13_code 1 = .ok (.getfield 83, 3) := by decide +kernel
theorem d_Mo_goes_4 : decode prog_8_method_13_code 4 = .ok (.ifCond .ne 25, 3) := by decide +kernel
theorem d_Mo_goes_7 : decode prog_8_method_13_code 7 = .ok (.aload_n 0, 1) := by decide +kernel
theorem d_Mo_goes_8 : decode prog_8_method_13_code 8 = .ok (.getfield 51, 3) := by decide +kernel
theorem d_Mo_goes_11 : decode prog_8_method_13_code 11 = .ok (.iload_n 1, 1) := by decide +kernel
theorem d_Mo_goes_12 : decode prog_8_method_13_code 12 = .ok (.iaload, 1) := by decide +kernel
theorem d_Mo_goes_13 : decode prog_8_method_13_code 13 = .ok (.iconst (-1), 1) := by decide +kernel
theorem d_Mo_goes_14 : decode prog_8_method_13_code 14 = .ok (.if_icmp .ne 15, 3) := by decide +kernel
theorem d_Mo_goes_17 : decode prog_8_method_13_code 17 = .ok (.aload_n 0, 1) := by decide +kernel
theorem d_Mo_goes_18 : decode prog_8_method_13_code 18 = .ok (.iload_n 1, 1) := by decide +kernel
theorem d_Mo_goes_19 : decode prog_8_method_13_code 19 = .ok (.invokevirtual 109, 3) := by decide +kernel
theorem d_Mo_goes_22 : decode prog_8_method_13_code 22 = .ok (.ifCond .ne 7, 3) := by decide +kernel
theorem d_Mo_goes_25 : decode prog_8_method_13_code 25 = .ok (.iconst 1, 1) := by decide +kernel
theorem d_Mo_goes_26 : decode prog_8_method_13_code 26 = .ok (.goto 4, 3) := by decide +kernel
theorem d_Mo_goes_29 : decode prog_8_method_13_code 29 = .ok (.iconst 0, 1) := by decide +kernel
theorem d_Mo_goes_30 : decode prog_8_method_13_code 30 = .ok (.ireturn, 1) := by decide +kernel
theorem d_Mo_going_0 : decode prog_8_method_14_code 0 = .ok (.iconst 0, 1) := by decide +kernel
theorem d_Mo_going_1 : decode prog_8_method_14_code 1 = .ok (.istore_n 1, 1) := by decide +kernel
theorem d_Mo_going_2 : decode prog_8_method_14_code 2 = .ok (.iconst 0, 1) := by decide +kernel
theorem d_Mo_going_3 : decode prog_8_method_14_code 3 = .ok (.istore_n 2, 1) := by decide +kernel
theorem d_Mo_going_4 : decode prog_8_method_14_code 4 = .ok (.iload_n 2, 1) := by decide +kernel
theorem d_Mo_going_5 : decode prog_8_method_14_code 5 = .ok (.aload_n 0, 1) := by decide +kernel
theorem d_Mo_going_6 : decode prog_8_method_14_code 6 = .ok (.getfield 75, 3) := by decide +kernel
theorem d_Mo_going_9 : decode prog_8_method_14_code 9 = .ok (.if_icmp .ge 25, 3) := by decide +kernel
theorem d_Mo_going_12 : decode prog_8_method_14_code 12 = .ok (.iload_n 1, 1) := by decide +kernel
theorem d_Mo_going_13 : decode prog_8_method_14_code 13 = .ok (.aload_n 0, 1) := by decide +kernel
theorem d_Mo_going_14 : decode prog_8_method_14_code 14 = .ok (.iload_n 2, 1) := by decide +kernel
theorem d_Mo_going_15 : decode prog_8_method_14_code 15 = .ok (.invokevirtual 112, 3) := by decide +kernel
theorem d_Mo_going_18 : decode prog_8_method_14_code 18 = .ok (.ifCond .eq 7, 3) := by decide +kernel
theorem d_Mo_going_21 : decode prog_8_method_14_code 21 = .ok (.iconst 1, 1) := by decide +kernel
theorem d_Mo_going_22 : decode prog_8_method_14_code 22 = .ok (.goto 4, 3) := by decide +kernel
theorem d_Mo_going_25 : decode prog_8_method_14_code 25 = .ok (.iconst 0, 1) := by decide +kernel
theorem d_Mo_going_26 : decode prog_8_method_14_code 26 = .ok (.iadd, 1) := by decide +kernel
theorem d_Mo_going_27 : decode prog_8_method_14_code 27 = .ok (.istore_n 1, 1) := by decide +kernel
theorem d_Mo_going_28 : decode prog_8_method_14_code 28 = .ok (.iinc 2 1, 3) := by decide +kernel
theorem d_Mo_going_31 : decode prog_8_method_14_code 31 = .ok (.goto (-27), 3) := by decide +kernel
theorem d_Mo_going_34 : decode prog_8_method_14_code 34 = .ok (.iload_n 1, 1) := by decide +kernel
theorem d_Mo_going_35 : decode prog_8_method_14_code 35 = .ok (.ireturn, 1) := by decide +kernel
theorem d_Mo_isGive_0 : decode prog_8_method_15_code 0 = .ok (.iconst 0, 1) := by decide +kernel
theorem d_Mo_isGive_1 : decode prog_8_method_15_code 1 = .ok (.istore_n 2, 1) := by decide +kernel
theorem d_Mo_isGive_2 : decode prog_8_method_15_code 2 = .ok (.iconst 0, 1) := by decide +kernel
theorem d_Mo_isGive_3 : decode prog_8_method_15_code 3 = .ok (.istore_n 3, 1) := by decide +kernel
theorem d_Mo_isGive_4 : decode prog_8_method_15_code 4 = .ok (.iload_n 3, 1) := by decide +kernel
theorem d_Mo_isGive_5 : decode prog_8_method_15_code 5 = .ok (.aload_n 0, 1) := by decide +kernel
theorem d_Mo_isGive_6 : decode prog_8_method_15_code 6 = .ok (.getfield 87, 3) := by decide +kernel
theorem d_Mo_isGive_9 : decode prog_8_method_15_code 9 = .ok (.if_icmp .ge 72, 3) := by decide +kernel
theorem d_Mo_isGive_12 : decode prog_8_method_15_code 12 = .ok (.iload_n 2, 1) := by decide +kernel
theorem d_Mo_isGive_13 : decode prog_8_method_15_code 13 = .ok (.aload_n 0, 1) := by decide +kernel
theorem d_Mo_isGive_14 : decode prog_8_method_15_code 14 = .ok (.getfield 30, 3) := by decide +kernel
theorem d_Mo_isGive_17 : decode prog_8_method_15_code 17 = .ok (.iload_n 3, 1) := by decide +kernel
theorem d_Mo_isGive_18 : decode prog_8_method_15_code 18 = .ok (.iaload, 1) := by decide +kernel
theorem d_Mo_isGive_19 : decode prog_8_method_15_code 19 = .ok (.iconst 1, 1) := by decide +kernel
theorem d_Mo_isGive_20 : decode prog_8_method_15_code 20 = .ok (.if_icmp .ne 52, 3) := by decide +kernel
theorem d_Mo_isGive_23 : decode prog_8_method_15_code 23 = .ok (.aload_n 0, 1) := by decide +kernel
theorem d_Mo_isGive_24 : decode prog_8_method_15_code 24 = .ok (.getfield 33, 3) := by decide +kernel
theorem d_Mo_isGive_27 : decode prog_8_method_15_code 27 = .ok (.iload_n 3, 1) := by decide +kernel
theorem d_Mo_isGive_28 : decode prog_8_method_15_code 28 = .ok (.iaload, 1) := by decide +kernel
theorem d_Mo_isGive_29 : decode prog_8_method_15_code 29 = .ok (.aload_n 0, 1) := by decide +kernel
theorem d_Mo_isGive_30 : decode prog_8_method_15_code 30 = .ok (.getfield 33, 3) := by decide +kernel
theorem d_Mo_isGive_33 : decode prog_8_method_15_code 33 = .ok (.iload_n 1, 1) := by decide +kernel
theorem d_Mo_isGive_34 : decode prog_8_method_15_code 34 = .ok (.iaload, 1) := by decide +kernel
theorem d_Mo_isGive_35 : decode prog_8_method_15_code 35 = .ok (.if_icmp .ne 37, 3) := by decide +kernel
theorem d_Mo_isGive_38 : decode prog_8_method_15_code 38 = .ok (.aload_n 0, 1) := by decide +kernel
theorem d_Mo_isGive_39 : decode prog_8_method_15_code 39 = .ok (.getfield 39, 3) := by decide +kernel
theorem d_Mo_isGive_42 : decode prog_8_method_15_code 42 = .ok (.iload_n 3, 1) := by decide +kernel
theorem d_Mo_isGive_43 : decode prog_8_method_15_code 43 = .ok (.iaload, 1) := by decide +kernel
theorem d_Mo_isGive_44 : decode prog_8_method_15_code 44 = .ok (.aload_n 0, 1) := by decide +kernel
theorem d_Mo_isGive_45 : decode prog_8_method_15_code 45 = .ok (.getfield 39, 3) := by decide +kernel
theorem d_Mo_isGive_48 : decode prog_8_method_15_code 48 = .ok (.iload_n 1, 1) := by decide +kernel
theorem d_Mo_isGive_49 : decode prog_8_method_15_code 49 = .ok (.iaload, 1) := by decide +kernel
theorem d_Mo_isGive_50 : decode prog_8_method_15_code 50 = .ok (.if_icmp .ne 22, 3) := by decide +kernel
theorem d_Mo_isGive_53 : decode prog_8_method_15_code 53 = .ok (.aload_n 0, 1) := by decide +kernel
theorem d_Mo_isGive_54 : decode prog_8_method_15_code 54 = .ok (.getfield 36, 3) := by decide +kernel
theorem d_Mo_isGive_57 : decode prog_8_method_15_code 57 = .ok (.iload_n 3, 1) := by decide +kernel
theorem d_Mo_isGive_58 : decode prog_8_method_15_code 58 = .ok (.iaload, 1) := by decide +kernel
theorem d_Mo_isGive_59 : decode prog_8_method_15_code 59 = .ok (.aload_n 0, 1) := by decide +kernel
theorem d_Mo_isGive_60 : decode prog_8_method_15_code 60 = .ok (.getfield 36, 3) := by decide +kernel
theorem d_Mo_isGive_63 : decode prog_8_method_15_code 63 = .ok (.iload_n 1, 1) := by decide +kernel
theorem d_Mo_isGive_64 : decode prog_8_method_15_code 64 = .ok (.iaload, 1) := by decide +kernel
theorem d_Mo_isGive_65 : decode prog_8_method_15_code 65 = .ok (.if_icmp .ge 7, 3) := by decide +kernel
theorem d_Mo_isGive_68 : decode prog_8_method_15_code 68 = .ok (.iconst 1, 1) := by decide +kernel
theorem d_Mo_isGive_69 : decode prog_8_method_15_code 69 = .ok (.goto 4, 3) := by decide +kernel
theorem d_Mo_isGive_72 : decode prog_8_method_15_code 72 = .ok (.iconst 0, 1) := by decide +kernel
theorem d_Mo_isGive_73 : decode prog_8_method_15_code 73 = .ok (.iadd, 1) := by decide +kernel
theorem d_Mo_isGive_74 : decode prog_8_method_15_code 74 = .ok (.istore_n 2, 1) := by decide +kernel
theorem d_Mo_isGive_75 : decode prog_8_method_15_code 75 = .ok (.iinc 3 1, 3) := by decide +kernel
theorem d_Mo_isGive_78 : decode prog_8_method_15_code 78 = .ok (.goto (-74), 3) := by decide +kernel
theorem d_Mo_isGive_81 : decode prog_8_method_15_code 81 = .ok (.iload_n 2, 1) := by decide +kernel
theorem d_Mo_isGive_82 : decode prog_8_method_15_code 82 = .ok (.iconst 2, 1) := by decide +kernel
theorem d_Mo_isGive_83 : decode prog_8_method_15_code 83 = .ok (.irem, 1) := by decide +kernel
theorem d_Mo_isGive_84 : decode prog_8_method_15_code 84 = .ok (.iconst 1, 1) := by decide +kernel
theorem d_Mo_isGive_85 : decode prog_8_method_15_code 85 = .ok (.if_icmp .ne 7, 3) := by decide +kernel
theorem d_Mo_isGive_88 : decode prog_8_method_15_code 88 = .ok (.iconst 1, 1) := by decide +kernel
theorem d_Mo_isGive_89 : decode prog_8_method_15_code 89 = .ok (.goto 4, 3) := by decide +kernel
theorem d_Mo_isGive_92 : decode prog_8_method_15_code 92 = .ok (.iconst 0, 1) := by decide +kernel
theorem d_Mo_isGive_93 : decode prog_8_method_15_code 93 = .ok (.ireturn, 1) := by decide +kernel
theorem d_Mo_isNow_0 : decode prog_8_method_16_code 0 = .ok (.aload_n 0, 1) := by decide +kernel
theorem d_Mo_isNow_1 : decode prog_8_method_16_code 1 = .ok (.getfield 30, 3) := by decide +kernel
theorem d_Mo_isNow_4 : decode prog_8_method_16_code 4 = .ok (.iload_n 1, 1) := by decide +kernel
theorem d_Mo_isNow_5 : decode prog_8_method_16_code 5 = .ok (.iaload, 1) := by decide +kernel
theorem d_Mo_isNow_6 : decode prog_8_method_16_code 6 = .ok (.iload_n 2, 1) := by decide +kernel
theorem d_Mo_isNow_7 : decode prog_8_method_16_code 7 = .ok (.if_icmp .ne 32, 3) := by decide +kernel
theorem d_Mo_isNow_10 : decode prog_8_method_16_code 10 = .ok (.aload_n 0, 1) := by decide +kernel
theorem d_Mo_isNow_11 : decode prog_8_method_16_code 11 = .ok (.getfield 33, 3) := by decide +kernel
theorem d_Mo_isNow_14 : decode prog_8_method_16_code 14 = .ok (.iload_n 1, 1) := by decide +kernel
theorem d_Mo_isNow_15 : decode prog_8_method_16_code 15 = .ok (.iaload, 1) := by decide +kernel
theorem d_Mo_isNow_16 : decode prog_8_method_16_code 16 = .ok (.iload_n 3, 1) := by decide +kernel
theorem d_Mo_isNow_17 : decode prog_8_method_16_code 17 = .ok (.if_icmp .ne 22, 3) := by decide +kernel
theorem d_Mo_isNow_20 : decode prog_8_method_16_code 20 = .ok (.aload_n 0, 1) := by decide +kernel
theorem d_Mo_isNow_21 : decode prog_8_method_16_code 21 = .ok (.getfield 36, 3) := by decide +kernel
theorem d_Mo_isNow_24 : decode prog_8_method_16_code 24 = .ok (.iload_n 1, 1) := by decide +kernel
theorem d_Mo_isNow_25 : decode prog_8_method_16_code 25 = .ok (.iaload, 1) := by decide +kernel
theorem d_Mo_isNow_26 : decode prog_8_method_16_code 26 = .ok (.aload_n 0, 1) := by decide +kernel
theorem d_Mo_isNow_27 : decode prog_8_method_16_code 27 = .ok (.getfield 45, 3) := by decide +kernel
theorem d_Mo_isNow_30 : decode prog_8_method_16_code 30 = .ok (.iload_n 3, 1) := by decide +kernel
theorem d_Mo_isNow_31 : decode prog_8_method_16_code 31 = .ok (.iaload, 1) := by decide +kernel
theorem d_Mo_isNow_32 : decode prog_8_method_16_code 32 = .ok (.if_icmp .ne 7, 3) := by decide +kernel
theorem d_Mo_isNow_35 : decode prog_8_method_16_code 35 = .ok (.iconst 1, 1) := by decide +kernel
theorem d_Mo_isNow_36 : decode prog_8_method_16_code 36 = .ok (.goto 4, 3) := by decide +kernel
theorem d_Mo_isNow_39 : decode prog_8_method_16_code 39 = .ok (.iconst 0, 1) := by decide +kernel
theorem d_Mo_isNow_40 : decode prog_8_method_16_code 40 = .ok (.ireturn, 1) := by decide +kernel
theorem d_Mo_takeTurn_0 : decode prog_8_method_17_code 0 = .ok (.aload_n 0, 1) := by decide +kernel
theorem d_Mo_takeTurn_1 : decode prog_8_method_17_code 1 = .ok (.getfield 54, 3) := by decide +kernel
theorem d_Mo_takeTurn_4 : decode prog_8_method_17_code 4 = .ok (.aload_n 0, 1) := by decide +kernel
theorem d_Mo_takeTurn_5 : decode prog_8_method_17_code 5 = .ok (.getfield 115, 3) := by decide +kernel
theorem d_Mo_takeTurn_8 : decode prog_8_method_17_code 8 = .ok (.aload_n 0, 1) := by decide +kernel
theorem d_Mo_takeTurn_9 : decode prog_8_method_17_code 9 = .ok (.getfield 106, 3) := by decide +kernel
theorem d_Mo_takeTurn_12 : decode prog_8_method_17_code 12 = .ok (.iastore, 1) := by decide +kernel
theorem d_Mo_takeTurn_13 : decode prog_8_method_17_code 13 = .ok (.aload_n 0, 1) := by decide +kernel
theorem d_Mo_takeTurn_14 : decode prog_8_method_17_code 14 = .ok (.getfield 57, 3) := by decide +kernel
theorem d_Mo_takeTurn_17 : decode prog_8_method_17_code 17 = .ok (.aload_n 0, 1) := by decide +kernel
theorem d_Mo_takeTurn_18 : decode prog_8_method_17_code 18 = .ok (.getfield 115, 3) := by decide +kernel
theorem d_Mo_takeTurn_21 : decode prog_8_method_17_code 21 = .ok (.iload_n 1, 1) := by decide +kernel
theorem d_Mo_takeTurn_22 : decode prog_8_method_17_code 22 = .ok (.iastore, 1) := by decide +kernel
theorem d_Mo_takeTurn_23 : decode prog_8_method_17_code 23 = .ok (.aload_n 0, 1) := by decide +kernel
theorem d_Mo_takeTurn_24 : decode prog_8_method_17_code 24 = .ok (.getfield 60, 3) := by decide +kernel
theorem d_Mo_takeTurn_27 : decode prog_8_method_17_code 27 = .ok (.aload_n 0, 1) := by decide +kernel
theorem d_Mo_takeTurn_28 : decode prog_8_method_17_code 28 = .ok (.getfield 115, 3) := by decide +kernel
theorem d_Mo_takeTurn_31 : decode prog_8_method_17_code 31 = .ok (.iconst 0, 1) := by decide +kernel
theorem d_Mo_takeTurn_32 : decode prog_8_method_17_code 32 = .ok (.iastore, 1) := by decide +kernel
theorem d_Mo_takeTurn_33 : decode prog_8_method_17_code 33 = .ok (.aload_n 0, 1) := by decide +kernel
theorem d_Mo_takeTurn_34 : decode prog_8_method_17_code 34 = .ok (.dup, 1) := by decide +kernel
theorem d_Mo_takeTurn_35 : decode prog_8_method_17_code 35 = .ok (.getfield 115, 3) := by decide +kernel
theorem d_Mo_takeTurn_38 : decode prog_8_method_17_code 38 = .ok (.iconst 1, 1) := by decide +kernel
theorem d_Mo_takeTurn_39 : decode prog_8_method_17_code 39 = .ok (.iadd, 1) := by decide +kernel
theorem d_Mo_takeTurn_40 : decode prog_8_method_17_code 40 = .ok (.putfield 115, 3) := by decide +kernel
theorem d_Mo_takeTurn_43 : decode prog_8_method_17_code 43 = .ok (.aload_n 0, 1) := by decide +kernel
theorem d_Mo_takeTurn_44 : decode prog_8_method_17_code 44 = .ok (.iconst 2, 1) := by decide +kernel
theorem d_Mo_takeTurn_45 : decode prog_8_method_17_code 45 = .ok (.iload_n 1, 1) := by decide +kernel
theorem d_Mo_takeTurn_46 : decode prog_8_method_17_code 46 = .ok (.aload_n 0, 1) := by decide +kernel
theorem d_Mo_takeTurn_47 : decode prog_8_method_17_code 47 = .ok (.getfield 45, 3) := by decide +kernel
theorem d_Mo_takeTurn_50 : decode prog_8_method_17_code 50 = .ok (.iload_n 1, 1) := by decide +kernel
theorem d_Mo_takeTurn_51 : decode prog_8_method_17_code 51 = .ok (.iaload, 1) := by decide +kernel
theorem d_Mo_takeTurn_52 : decode prog_8_method_17_code 52 = .ok (.iconst (-1), 1) := by decide +kernel
theorem d_Mo_takeTurn_53 : decode prog_8_method_17_code 53 = .ok (.invokevirtual 102, 3) := by decide +kernel
theorem d_Mo_takeTurn_56 : decode prog_8_method_17_code 56 = .ok (.istore_n 2, 1) := by decide +kernel
theorem d_Mo_takeTurn_57 : decode prog_8_method_17_code 57 = .ok (.aload_n 0, 1) := by decide +kernel
theorem d_Mo_takeTurn_58 : decode prog_8_method_17_code 58 = .ok (.getfield 69, 3) := by decide +kernel
theorem d_Mo_takeTurn_61 : decode prog_8_method_17_code 61 = .ok (.iload_n 1, 1) := by decide +kernel
theorem d_Mo_takeTurn_62 : decode prog_8_method_17_code 62 = .ok (.iload_n 2, 1) := by decide +kernel
theorem d_Mo_takeTurn_63 : decode prog_8_method_17_code 63 = .ok (.ifCond .lt 7, 3) := by decide +kernel
theorem d_Mo_takeTurn_66 : decode prog_8_method_17_code 66 = .ok (.iconst 1, 1) := by decide +kernel
theorem d_Mo_takeTurn_67 : decode prog_8_method_17_code 67 = .ok (.goto 4, 3) := by decide +kernel
theorem d_Mo_takeTurn_70 : decode prog_8_method_17_code 70 = .ok (.iconst 0, 1) := by decide +kernel
theorem d_Mo_takeTurn_71 : decode prog_8_method_17_code 71 = .ok (.bastore, 1) := by decide +kernel
theorem d_Mo_takeTurn_72 : decode prog_8_method_17_code 72 = .ok (.iload_n 2, 1) := by decide +kernel
theorem d_Mo_takeTurn_73 : decode prog_8_method_17_code 73 = .ok (.ifCond .lt 11, 3) := by decide +kernel
theorem d_Mo_takeTurn_76 : decode prog_8_method_17_code 76 = .ok (.aload_n 0, 1) := by decide +kernel
theorem d_Mo_takeTurn_77 : decode prog_8_method_17_code 77 = .ok (.getfield 30, 3) := by decide +kernel
theorem d_Mo_takeTurn_80 : decode prog_8_method_17_code 80 = .ok (.iload_n 2, 1) := by decide +kernel
theorem d_Mo_takeTurn_81 : decode prog_8_method_17_code 81 = .ok (.iconst 3, 1) := by decide +kernel
theorem d_Mo_takeTurn_82 : decode prog_8_method_17_code 82 = .ok (.iastore, 1) := by decide +kernel
theorem d_Mo_takeTurn_83 : decode prog_8_method_17_code 83 = .ok (.return_, 1) := by decide +kernel
theorem d_Mo_takeTurn_84 : decode prog_8_method_17_code 84 = .ok (.iconst 0, 1) := by decide +kernel
theorem d_Mo_takeTurn_85 : decode prog_8_method_17_code 85 = .ok (.istore_n 3, 1) := by decide +kernel
theorem d_Mo_takeTurn_86 : decode prog_8_method_17_code 86 = .ok (.iload_n 3, 1) := by decide +kernel
theorem d_Mo_takeTurn_87 : decode prog_8_method_17_code 87 = .ok (.aload_n 0, 1) := by decide +kernel
theorem d_Mo_takeTurn_88 : decode prog_8_method_17_code 88 = .ok (.getfield 87, 3) := by decide +kernel
theorem d_Mo_takeTurn_91 : decode prog_8_method_17_code 91 = .ok (.if_icmp .ge 59, 3) := by decide +kernel
theorem d_Mo_takeTurn_94 : decode prog_8_method_17_code 94 = .ok (.aload_n 0, 1) := by decide +kernel
theorem d_Mo_takeTurn_95 : decode prog_8_method_17_code 95 = .ok (.iload_n 3, 1) := by decide +kernel
theorem d_Mo_takeTurn_96 : decode prog_8_method_17_code 96 = .ok (.iconst 1, 1) := by decide +kernel
theorem d_Mo_takeTurn_97 : decode prog_8_method_17_code 97 = .ok (.iload_n 1, 1) := by decide +kernel
theorem d_Mo_takeTurn_98 : decode prog_8_method_17_code 98 = .ok (.invokevirtual 118, 3) := by decide +kernel
theorem d_Mo_takeTurn_101 : decode prog_8_method_17_code 101 = .ok (.ifCond .eq 43, 3) := by decide +kernel
theorem d_Mo_takeTurn_104 : decode prog_8_method_17_code 104 = .ok (.aload_n 0, 1) := by decide +kernel
theorem d_Mo_takeTurn_105 : decode prog_8_method_17_code 105 = .ok (.iload_n 3, 1) := by decide +kernel
theorem d_Mo_takeTurn_106 : decode prog_8_method_17_code 106 = .ok (.invokevirtual 121, 3) := by decide +kernel
theorem d_Mo_takeTurn_109 : decode prog_8_method_17_code 109 = .ok (.ifCond .ne 35, 3) := by decide +kernel
theorem d_Mo_takeTurn_112 : decode prog_8_method_17_code 112 = .ok (.aload_n 0, 1) := by decide +kernel
theorem d_Mo_takeTurn_113 : decode prog_8_method_17_code 113 = .ok (.getfield 16, 3) := by decide +kernel
theorem d_Mo_takeTurn_116 : decode prog_8_method_17_code 116 = .ok (.aload_n 0, 1) := by decide +kernel
theorem d_Mo_takeTurn_117 : decode prog_8_method_17_code 117 = .ok (.getfield 39, 3) := by decide +kernel
theorem d_Mo_takeTurn_120 : decode prog_8_method_17_code 120 = .ok (.iload_n 3, 1) := by decide +kernel
theorem d_Mo_takeTurn_121 : decode prog_8_method_17_code 121 = .ok (.iaload, 1) := by decide +kernel
theorem d_Mo_takeTurn_122 : decode prog_8_method_17_code 122 = .ok (.iaload, 1) := by decide +kernel
theorem d_Mo_takeTurn_123 : decode prog_8_method_17_code 123 = .ok (.iload_n 1, 1) := by decide +kernel
theorem d_Mo_takeTurn_124 : decode prog_8_method_17_code 124 = .ok (.if_icmp .eq 20, 3) := by decide +kernel
theorem d_Mo_takeTurn_127 : decode prog_8_method_17_code 127 = .ok (.aload_n 0, 1) := by decide +kernel
theorem d_Mo_takeTurn_128 : decode prog_8_method_17_code 128 = .ok (.getfield 72, 3) := by decide +kernel
theorem d_Mo_takeTurn_131 : decode prog_8_method_17_code 131 = .ok (.bipush 8, 2) := by decide +kernel
theorem d_Mo_takeTurn_133 : decode prog_8_method_17_code 133 = .ok (.aload_n 0, 1) := by decide +kernel
theorem d_Mo_takeTurn_134 : decode prog_8_method_17_code 134 = .ok (.getfield 39, 3) := by decide +kernel
theorem d_Mo_takeTurn_137 : decode prog_8_method_17_code 137 = .ok (.iload_n 3, 1) := by decide +kernel
theorem d_Mo_takeTurn_138 : decode prog_8_method_17_code 138 = .ok (.iaload, 1) := by decide +kernel
theorem d_Mo_takeTurn_139 : decode prog_8_method_17_code 139 = .ok (.imul, 1) := by decide +kernel
theorem d_Mo_takeTurn_140 : decode prog_8_method_17_code 140 = .ok (.iload_n 1, 1) := by decide +kernel
theorem d_Mo_takeTurn_141 : decode prog_8_method_17_code 141 = .ok (.iadd, 1) := by decide +kernel
theorem d_Mo_takeTurn_142 : decode prog_8_method_17_code 142 = .ok (.iconst 1, 1) := by decide +kernel
theorem d_Mo_takeTurn_143 : decode prog_8_method_17_code 143 = .ok (.bastore, 1) := by decide +kernel
theorem d_Mo_takeTurn_144 : decode prog_8_method_17_code 144 = .ok (.iinc 3 1, 3) := by decide +kernel
theorem d_Mo_takeTurn_147 : decode prog_8_method_17_code 147 = .ok (.goto (-61), 3) := by decide +kernel
theorem d_Mo_takeTurn_150 : decode prog_8_method_17_code 150 = .ok (.return_, 1) := by decide +kernel
theorem d_Mo_turnsOf_0 : decode prog_8_method_18_code 0 = .ok (.lload_n 1, 1) := by decide +kernel
theorem d_Mo_turnsOf_1 : decode prog_8_method_18_code 1 = .ok (.lstore_n 3, 1) := by decide +kernel
theorem d_Mo_turnsOf_2 : decode prog_8_method_18_code 2 = .ok (.iconst 0, 1) := by decide +kernel
theorem d_Mo_turnsOf_3 : decode prog_8_method_18_code 3 = .ok (.istore 5, 2) := by decide +kernel
theorem d_Mo_turnsOf_5 : decode prog_8_method_18_code 5 = .ok (.iconst 0, 1) := by decide +kernel
theorem d_Mo_turnsOf_6 : decode prog_8_method_18_code 6 = .ok (.istore 6, 2) := by decide +kernel
theorem d_Mo_turnsOf_8 : decode prog_8_method_18_code 8 = .ok (.iload 6, 2) := by decide +kernel
theorem d_Mo_turnsOf_10 : decode prog_8_method_18_code 10 = .ok (.aload_n 0, 1) := by decide +kernel
theorem d_Mo_turnsOf_11 : decode prog_8_method_18_code 11 = .ok (.getfield 75, 3) := by decide +kernel
theorem d_Mo_turnsOf_14 : decode prog_8_method_18_code 14 = .ok (.if_icmp .ge 42, 3) := by decide +kernel
theorem d_Mo_turnsOf_17 : decode prog_8_method_18_code 17 = .ok (.aload_n 0, 1) := by decide +kernel
theorem d_Mo_turnsOf_18 : decode prog_8_method_18_code 18 = .ok (.getfield 63, 3) := by decide +kernel
theorem d_Mo_turnsOf_21 : decode prog_8_method_18_code 21 = .ok (.iload 6, 2) := by decide +kernel
theorem d_Mo_turnsOf_23 : decode prog_8_method_18_code 23 = .ok (.aload_n 0, 1) := by decide +kernel
theorem d_Mo_turnsOf_24 : decode prog_8_method_18_code 24 = .ok (.iload 6, 2) := by decide +kernel
theorem d_Mo_turnsOf_26 : decode prog_8_method_18_code 26 = .ok (.invokevirtual 112, 3) := by decide +kernel
theorem d_Mo_turnsOf_29 : decode prog_8_method_18_code 29 = .ok (.bastore, 1) := by decide +kernel
theorem d_Mo_turnsOf_30 : decode prog_8_method_18_code 30 = .ok (.iload 5, 2) := by decide +kernel
theorem d_Mo_turnsOf_32 : decode prog_8_method_18_code 32 = .ok (.aload_n 0, 1) := by decide +kernel
theorem d_Mo_turnsOf_33 : decode prog_8_method_18_code 33 = .ok (.getfield 63, 3) := by decide +kernel
theorem d_Mo_turnsOf_36 : decode prog_8_method_18_code 36 = .ok (.iload 6, 2) := by decide +kernel
theorem d_Mo_turnsOf_38 : decode prog_8_method_18_code 38 = .ok (.baload, 1) := by decide +kernel
theorem d_Mo_turnsOf_39 : decode prog_8_method_18_code 39 = .ok (.ifCond .eq 7, 3) := by decide +kernel
theorem d_Mo_turnsOf_42 : decode prog_8_method_18_code 42 = .ok (.iconst 1, 1) := by decide +kernel
theorem d_Mo_turnsOf_43 : decode prog_8_method_18_code 43 = .ok (.goto 4, 3) := by decide +kernel
theorem d_Mo_turnsOf_46 : decode prog_8_method_18_code 46 = .ok (.iconst 0, 1) := by decide +kernel
theorem d_Mo_turnsOf_47 : decode prog_8_method_18_code 47 = .ok (.iadd, 1) := by decide +kernel
theorem d_Mo_turnsOf_48 : decode prog_8_method_18_code 48 = .ok (.istore 5, 2) := by decide +kernel
theorem d_Mo_turnsOf_50 : decode prog_8_method_18_code 50 = .ok (.iinc 6 1, 3) := by decide +kernel
theorem d_Mo_turnsOf_53 : decode prog_8_method_18_code 53 = .ok (.goto (-45), 3) := by decide +kernel
theorem d_Mo_turnsOf_56 : decode prog_8_method_18_code 56 = .ok (.iconst 0, 1) := by decide +kernel
theorem d_Mo_turnsOf_57 : decode prog_8_method_18_code 57 = .ok (.istore 6, 2) := by decide +kernel
theorem d_Mo_turnsOf_59 : decode prog_8_method_18_code 59 = .ok (.iload 6, 2) := by decide +kernel
theorem d_Mo_turnsOf_61 : decode prog_8_method_18_code 61 = .ok (.aload_n 0, 1) := by decide +kernel
theorem d_Mo_turnsOf_62 : decode prog_8_method_18_code 62 = .ok (.getfield 75, 3) := by decide +kernel
theorem d_Mo_turnsOf_65 : decode prog_8_method_18_code 65 = .ok (.if_icmp .ge 23, 3) := by decide +kernel
theorem d_Mo_turnsOf_68 : decode prog_8_method_18_code 68 = .ok (.aload_n 0, 1) := by decide +kernel
theorem d_Mo_turnsOf_69 : decode prog_8_method_18_code 69 = .ok (.getfield 66, 3) := by decide +kernel
theorem d_Mo_turnsOf_72 : decode prog_8_method_18_code 72 = .ok (.iload 6, 2) := by decide +kernel
theorem d_Mo_turnsOf_74 : decode prog_8_method_18_code 74 = .ok (.aload_n 0, 1) := by decide +kernel
theorem d_Mo_turnsOf_75 : decode prog_8_method_18_code 75 = .ok (.getfield 63, 3) := by decide +kernel
theorem d_Mo_turnsOf_78 : decode prog_8_method_18_code 78 = .ok (.iload 6, 2) := by decide +kernel
theorem d_Mo_turnsOf_80 : decode prog_8_method_18_code 80 = .ok (.baload, 1) := by decide +kernel
theorem d_Mo_turnsOf_81 : decode prog_8_method_18_code 81 = .ok (.bastore, 1) := by decide +kernel
theorem d_Mo_turnsOf_82 : decode prog_8_method_18_code 82 = .ok (.iinc 6 1, 3) := by decide +kernel
theorem d_Mo_turnsOf_85 : decode prog_8_method_18_code 85 = .ok (.goto (-26), 3) := by decide +kernel
theorem d_Mo_turnsOf_88 : decode prog_8_method_18_code 88 = .ok (.iload 5, 2) := by decide +kernel
theorem d_Mo_turnsOf_90 : decode prog_8_method_18_code 90 = .ok (.ifCond .le 88, 3) := by decide +kernel
theorem d_Mo_turnsOf_93 : decode prog_8_method_18_code 93 = .ok (.lload_n 3, 1) := by decide +kernel
theorem d_Mo_turnsOf_94 : decode prog_8_method_18_code 94 = .ok (.ldc2_w 124, 3) := by decide +kernel
theorem d_Mo_turnsOf_97 : decode prog_8_method_18_code 97 = .ok (.lmul, 1) := by decide +kernel
theorem d_Mo_turnsOf_98 : decode prog_8_method_18_code 98 = .ok (.ldc2_w 126, 3) := by decide +kernel
theorem d_Mo_turnsOf_101 : decode prog_8_method_18_code 101 = .ok (.ladd, 1) := by decide +kernel
theorem d_Mo_turnsOf_102 : decode prog_8_method_18_code 102 = .ok (.lstore_n 3, 1) := by decide +kernel
theorem d_Mo_turnsOf_103 : decode prog_8_method_18_code 103 = .ok (.lload_n 3, 1) := by decide +kernel
theorem d_Mo_turnsOf_104 : decode prog_8_method_18_code 104 = .ok (.bipush 33, 2) := by decide +kernel
theorem d_Mo_turnsOf_106 : decode prog_8_method_18_code 106 = .ok (.lushr, 1) := by decide +kernel
theorem d_Mo_turnsOf_107 : decode prog_8_method_18_code 107 = .ok (.iload 5, 2) := by decide +kernel
theorem d_Mo_turnsOf_109 : decode prog_8_method_18_code 109 = .ok (.i2l, 1) := by decide +kernel
theorem d_Mo_turnsOf_110 : decode prog_8_method_18_code 110 = .ok (.lrem, 1) := by decide +kernel
theorem d_Mo_turnsOf_111 : decode prog_8_method_18_code 111 = .ok (.l2i, 1) := by decide +kernel
theorem d_Mo_turnsOf_112 : decode prog_8_method_18_code 112 = .ok (.istore 6, 2) := by decide +kernel
theorem d_Mo_turnsOf_114 : decode prog_8_method_18_code 114 = .ok (.iconst 0, 1) := by decide +kernel
theorem d_Mo_turnsOf_115 : decode prog_8_method_18_code 115 = .ok (.istore 7, 2) := by decide +kernel
theorem d_Mo_turnsOf_117 : decode prog_8_method_18_code 117 = .ok (.aload_n 0, 1) := by decide +kernel
theorem d_Mo_turnsOf_118 : decode prog_8_method_18_code 118 = .ok (.getfield 66, 3) := by decide +kernel
theorem d_Mo_turnsOf_121 : decode prog_8_method_18_code 121 = .ok (.iload 7, 2) := by decide +kernel
theorem d_Mo_turnsOf_123 : decode prog_8_method_18_code 123 = .ok (.baload, 1) := by decide +kernel
theorem d_Mo_turnsOf_124 : decode prog_8_method_18_code 124 = .ok (.ifCond .eq 8, 3) := by decide +kernel
theorem d_Mo_turnsOf_127 : decode prog_8_method_18_code 127 = .ok (.iload 6, 2) := by decide +kernel
theorem d_Mo_turnsOf_129 : decode prog_8_method_18_code 129 = .ok (.ifCond .le 29, 3) := by decide +kernel
theorem d_Mo_turnsOf_132 : decode prog_8_method_18_code 132 = .ok (.iload 6, 2) := by decide +kernel
theorem d_Mo_turnsOf_134 : decode prog_8_method_18_code 134 = .ok (.aload_n 0, 1) := by decide +kernel
theorem d_Mo_turnsOf_135 : decode prog_8_method_18_code 135 = .ok (.getfield 66, 3) := by decide +kernel
theorem d_Mo_turnsOf_138 : decode prog_8_method_18_code 138 = .ok (.iload 7, 2) := by decide +kernel
theorem d_Mo_turnsOf_140 : decode prog_8_method_18_code 140 = .ok (.baload, 1) := by decide +kernel
theorem d_Mo_turnsOf_141 : decode prog_8_method_18_code 141 = .ok (.ifCond .eq 7, 3) := by decide +kernel
theorem d_Mo_turnsOf_144 : decode prog_8_method_18_code 144 = .ok (.iconst 1, 1) := by decide +kernel
theorem d_Mo_turnsOf_145 : decode prog_8_method_18_code 145 = .ok (.goto 4, 3) := by decide +kernel
theorem d_Mo_turnsOf_148 : decode prog_8_method_18_code 148 = .ok (.iconst 0, 1) := by decide +kernel
theorem d_Mo_turnsOf_149 : decode prog_8_method_18_code 149 = .ok (.isub, 1) := by decide +kernel
theorem d_Mo_turnsOf_150 : decode prog_8_method_18_code 150 = .ok (.istore 6, 2) := by decide +kernel
theorem d_Mo_turnsOf_152 : decode prog_8_method_18_code 152 = .ok (.iinc 7 1, 3) := by decide +kernel
theorem d_Mo_turnsOf_155 : decode prog_8_method_18_code 155 = .ok (.goto (-38), 3) := by decide +kernel
theorem d_Mo_turnsOf_158 : decode prog_8_method_18_code 158 = .ok (.aload_n 0, 1) := by decide +kernel
theorem d_Mo_turnsOf_159 : decode prog_8_method_18_code 159 = .ok (.getfield 66, 3) := by decide +kernel
theorem d_Mo_turnsOf_162 : decode prog_8_method_18_code 162 = .ok (.iload 7, 2) := by decide +kernel
theorem d_Mo_turnsOf_164 : decode prog_8_method_18_code 164 = .ok (.iconst 0, 1) := by decide +kernel
theorem d_Mo_turnsOf_165 : decode prog_8_method_18_code 165 = .ok (.bastore, 1) := by decide +kernel
theorem d_Mo_turnsOf_166 : decode prog_8_method_18_code 166 = .ok (.aload_n 0, 1) := by decide +kernel
theorem d_Mo_turnsOf_167 : decode prog_8_method_18_code 167 = .ok (.iload 7, 2) := by decide +kernel
theorem d_Mo_turnsOf_169 : decode prog_8_method_18_code 169 = .ok (.invokevirtual 128, 3) := by decide +kernel
theorem d_Mo_turnsOf_172 : decode prog_8_method_18_code 172 = .ok (.iinc 5 (-1), 3) := by decide +kernel
theorem d_Mo_turnsOf_175 : decode prog_8_method_18_code 175 = .ok (.goto (-87), 3) := by decide +kernel
theorem d_Mo_turnsOf_178 : decode prog_8_method_18_code 178 = .ok (.lload_n 3, 1) := by decide +kernel
theorem d_Mo_turnsOf_179 : decode prog_8_method_18_code 179 = .ok (.lreturn, 1) := by decide +kernel
theorem d_Mo_tellEnd_0 : decode prog_8_method_19_code 0 = .ok (.aload_n 0, 1) := by decide +kernel
theorem d_Mo_tellEnd_1 : decode prog_8_method_19_code 1 = .ok (.getfield 115, 3) := by decide +kernel
theorem d_Mo_tellEnd_4 : decode prog_8_method_19_code 4 = .ok (.iconst 1, 1) := by decide +kernel
theorem d_Mo_tellEnd_5 : decode prog_8_method_19_code 5 = .ok (.isub, 1) := by decide +kernel
theorem d_Mo_tellEnd_6 : decode prog_8_method_19_code 6 = .ok (.istore_n 3, 1) := by decide +kernel
theorem d_Mo_tellEnd_7 : decode prog_8_method_19_code 7 = .ok (.iload_n 3, 1) := by decide +kernel
theorem d_Mo_tellEnd_8 : decode prog_8_method_19_code 8 = .ok (.ifCond .lt 48, 3) := by decide +kernel
theorem d_Mo_tellEnd_11 : decode prog_8_method_19_code 11 = .ok (.aload_n 0, 1) := by decide +kernel
theorem d_Mo_tellEnd_12 : decode prog_8_method_19_code 12 = .ok (.getfield 54, 3) := by decide +kernel
theorem d_Mo_tellEnd_15 : decode prog_8_method_19_code 15 = .ok (.iload_n 3, 1) := by decide +kernel
theorem d_Mo_tellEnd_16 : decode prog_8_method_19_code 16 = .ok (.iaload, 1) := by decide +kernel
theorem d_Mo_tellEnd_17 : decode prog_8_method_19_code 17 = .ok (.aload_n 0, 1) := by decide +kernel
theorem d_Mo_tellEnd_18 : decode prog_8_method_19_code 18 = .ok (.getfield 106, 3) := by decide +kernel
theorem d_Mo_tellEnd_21 : decode prog_8_method_19_code 21 = .ok (.if_icmp .ne 35, 3) := by decide +kernel
theorem d_Mo_tellEnd_24 : decode prog_8_method_19_code 24 = .ok (.aload_n 0, 1) := by decide +kernel
theorem d_Mo_tellEnd_25 : decode prog_8_method_19_code 25 = .ok (.getfield 60, 3) := by decide +kernel
theorem d_Mo_tellEnd_28 : decode prog_8_method_19_code 28 = .ok (.iload_n 3, 1) := by decide +kernel
theorem d_Mo_tellEnd_29 : decode prog_8_method_19_code 29 = .ok (.aload_n 0, 1) := by decide +kernel
theorem d_Mo_tellEnd_30 : decode prog_8_method_19_code 30 = .ok (.getfield 57, 3) := by decide +kernel
theorem d_Mo_tellEnd_33 : decode prog_8_method_19_code 33 = .ok (.iload_n 3, 1) := by decide +kernel
theorem d_Mo_tellEnd_34 : decode prog_8_method_19_code 34 = .ok (.iaload, 1) := by decide +kernel
theorem d_Mo_tellEnd_35 : decode prog_8_method_19_code 35 = .ok (.iload_n 1, 1) := by decide +kernel
theorem d_Mo_tellEnd_36 : decode prog_8_method_19_code 36 = .ok (.if_icmp .ne 7, 3) := by decide +kernel
theorem d_Mo_tellEnd_39 : decode prog_8_method_19_code 39 = .ok (.iload_n 2, 1) := by decide +kernel
theorem d_Mo_tellEnd_40 : decode prog_8_method_19_code 40 = .ok (.goto 9, 3) := by decide +kernel
theorem d_Mo_tellEnd_43 : decode prog_8_method_19_code 43 = .ok (.aload_n 0, 1) := by decide +kernel
theorem d_Mo_tellEnd_44 : decode prog_8_method_19_code 44 = .ok (.getfield 60, 3) := by decide +kernel
theorem d_Mo_tellEnd_47 : decode prog_8_method_19_code 47 = .ok (.iload_n 3, 1) := by decide +kernel
theorem d_Mo_tellEnd_48 : decode prog_8_method_19_code 48 = .ok (.iaload, 1) := by decide +kernel
theorem d_Mo_tellEnd_49 : decode prog_8_method_19_code 49 = .ok (.iastore, 1) := by decide +kernel
theorem d_Mo_tellEnd_50 : decode prog_8_method_19_code 50 = .ok (.iinc 3 (-1), 3) := by decide +kernel
theorem d_Mo_tellEnd_53 : decode prog_8_method_19_code 53 = .ok (.goto (-46), 3) := by decide +kernel
theorem d_Mo_tellEnd_56 : decode prog_8_method_19_code 56 = .ok (.return_, 1) := by decide +kernel
theorem d_Mo_ownsAll_0 : decode prog_8_method_20_code 0 = .ok (.iconst 1, 1) := by decide +kernel
theorem d_Mo_ownsAll_1 : decode prog_8_method_20_code 1 = .ok (.istore_n 2, 1) := by decide +kernel
theorem d_Mo_ownsAll_2 : decode prog_8_method_20_code 2 = .ok (.iconst 0, 1) := by decide +kernel
theorem d_Mo_ownsAll_3 : decode prog_8_method_20_code 3 = .ok (.istore_n 3, 1) := by decide +kernel
theorem d_Mo_ownsAll_4 : decode prog_8_method_20_code 4 = .ok (.iload_n 3, 1) := by decide +kernel
theorem d_Mo_ownsAll_5 : decode prog_8_method_20_code 5 = .ok (.aload_n 0, 1) := by decide +kernel
theorem d_Mo_ownsAll_6 : decode prog_8_method_20_code 6 = .ok (.getfield 87, 3) := by decide +kernel
theorem d_Mo_ownsAll_9 : decode prog_8_method_20_code 9 = .ok (.if_icmp .ge 52, 3) := by decide +kernel
theorem d_Mo_ownsAll_12 : decode prog_8_method_20_code 12 = .ok (.iload_n 2, 1) := by decide +kernel
theorem d_Mo_ownsAll_13 : decode prog_8_method_20_code 13 = .ok (.ifCond .eq 40, 3) := by decide +kernel
theorem d_Mo_ownsAll_16 : decode prog_8_method_20_code 16 = .ok (.aload_n 0, 1) := by decide +kernel
theorem d_Mo_ownsAll_17 : decode prog_8_method_20_code 17 = .ok (.iload_n 3, 1) := by decide +kernel
theorem d_Mo_ownsAll_18 : decode prog_8_method_20_code 18 = .ok (.iconst 1, 1) := by decide +kernel
theorem d_Mo_ownsAll_19 : decode prog_8_method_20_code 19 = .ok (.iload_n 1, 1) := by decide +kernel
theorem d_Mo_ownsAll_20 : decode prog_8_method_20_code 20 = .ok (.invokevirtual 118, 3) := by decide +kernel
theorem d_Mo_ownsAll_23 : decode prog_8_method_20_code 23 = .ok (.ifCond .eq 26, 3) := by decide +kernel
theorem d_Mo_ownsAll_26 : decode prog_8_method_20_code 26 = .ok (.aload_n 0, 1) := by decide +kernel
theorem d_Mo_ownsAll_27 : decode prog_8_method_20_code 27 = .ok (.iload_n 3, 1) := by decide +kernel
theorem d_Mo_ownsAll_28 : decode prog_8_method_20_code 28 = .ok (.invokevirtual 121, 3) := by decide +kernel
theorem d_Mo_ownsAll_31 : decode prog_8_method_20_code 31 = .ok (.ifCond .ne 18, 3) := by decide +kernel
theorem d_Mo_ownsAll_34 : decode prog_8_method_20_code 34 = .ok (.aload_n 0, 1) := by decide +kernel
theorem d_Mo_ownsAll_35 : decode prog_8_method_20_code 35 = .ok (.getfield 16, 3) := by decide +kernel
theorem d_Mo_ownsAll_38 : decode prog_8_method_20_code 38 = .ok (.aload_n 0, 1) := by decide +kernel
theorem d_Mo_ownsAll_39 : decode prog_8_method_20_code 39 = .ok (.getfield 39, 3) := by decide +kernel
theorem d_Mo_ownsAll_42 : decode prog_8_method_20_code 42 = .ok (.iload_n 3, 1) := by decide +kernel
theorem d_Mo_ownsAll_43 : decode prog_8_method_20_code 43 = .ok (.iaload, 1) := by decide +kernel
theorem d_Mo_ownsAll_44 : decode prog_8_method_20_code 44 = .ok (.iaload, 1) := by decide +kernel
theorem d_Mo_ownsAll_45 : decode prog_8_method_20_code 45 = .ok (.iload_n 1, 1) := by decide +kernel
theorem d_Mo_ownsAll_46 : decode prog_8_method_20_code 46 = .ok (.if_icmp .ne 7, 3) := by decide +kernel
theorem d_Mo_ownsAll_49 : decode prog_8_method_20_code 49 = .ok (.iconst 1, 1) := by decide +kernel
theorem d_Mo_ownsAll_50 : decode prog_8_method_20_code 50 = .ok (.goto 4, 3) := by decide +kernel
theorem d_Mo_ownsAll_53 : decode prog_8_method_20_code 53 = .ok (.iconst 0, 1) := by decide +kernel
theorem d_Mo_ownsAll_54 : decode prog_8_method_20_code 54 = .ok (.istore_n 2, 1) := by decide +kernel
theorem d_Mo_ownsAll_55 : decode prog_8_method_20_code 55 = .ok (.iinc 3 1, 3) := by decide +kernel
theorem d_Mo_ownsAll_58 : decode prog_8_method_20_code 58 = .ok (.goto (-54), 3) := by decide +kernel
theorem d_Mo_ownsAll_61 : decode prog_8_method_20_code 61 = .ok (.iload_n 2, 1) := by decide +kernel
theorem d_Mo_ownsAll_62 : decode prog_8_method_20_code 62 = .ok (.ireturn, 1) := by decide +kernel
theorem d_Mo_act_0 : decode prog_8_method_21_code 0 = .ok (.aload_n 0, 1) := by decide +kernel
theorem d_Mo_act_1 : decode prog_8_method_21_code 1 = .ok (.iload_n 1, 1) := by decide +kernel
theorem d_Mo_act_2 : decode prog_8_method_21_code 2 = .ok (.invokevirtual 132, 3) := by decide +kernel
theorem d_Mo_act_5 : decode prog_8_method_21_code 5 = .ok (.ifCond .ne 17, 3) := by decide +kernel
theorem d_Mo_act_8 : decode prog_8_method_21_code 8 = .ok (.aload_n 0, 1) := by decide +kernel
theorem d_Mo_act_9 : decode prog_8_method_21_code 9 = .ok (.getfield 48, 3) := by decide +kernel
theorem d_Mo_act_12 : decode prog_8_method_21_code 12 = .ok (.iload_n 1, 1) := by decide +kernel
theorem d_Mo_act_13 : decode prog_8_method_21_code 13 = .ok (.iconst 1, 1) := by decide +kernel
theorem d_Mo_act_14 : decode prog_8_method_21_code 14 = .ok (.bastore, 1) := by decide +kernel
theorem d_Mo_act_15 : decode prog_8_method_21_code 15 = .ok (.aload_n 0, 1) := by decide +kernel
theorem d_Mo_act_16 : decode prog_8_method_21_code 16 = .ok (.iload_n 1, 1) := by decide +kernel
theorem d_Mo_act_17 : decode prog_8_method_21_code 17 = .ok (.iconst 1, 1) := by decide +kernel
theorem d_Mo_act_18 : decode prog_8_method_21_code 18 = .ok (.invokevirtual 135, 3) := by decide +kernel
theorem d_Mo_act_21 : decode prog_8_method_21_code 21 = .ok (.return_, 1) := by decide +kernel
theorem d_Mo_act_22 : decode prog_8_method_21_code 22 = .ok (.aload_n 0, 1) := by decide +kernel
theorem d_Mo_act_23 : decode prog_8_method_21_code 23 = .ok (.getfield 48, 3) := by decide +kernel
theorem d_Mo_act_26 : decode prog_8_method_21_code 26 = .ok (.iload_n 1, 1) := by decide +kernel
theorem d_Mo_act_27 : decode prog_8_method_21_code 27 = .ok (.iconst 0, 1) := by decide +kernel
theorem d_Mo_act_28 : decode prog_8_method_21_code 28 = .ok (.bastore, 1) := by decide +kernel
theorem d_Mo_act_29 : decode prog_8_method_21_code 29 = .ok (.iconst 0, 1) := by decide +kernel
theorem d_Mo_act_30 : decode prog_8_method_21_code 30 = .ok (.istore_n 2, 1) := by decide +kernel
theorem d_Mo_act_31 : decode prog_8_method_21_code 31 = .ok (.iload_n 2, 1) := by decide +kernel
theorem d_Mo_act_32 : decode prog_8_method_21_code 32 = .ok (.aload_n 0, 1) := by decide +kernel
theorem d_Mo_act_33 : decode prog_8_method_21_code 33 = .ok (.getfield 87, 3) := by decide +kernel
theorem d_Mo_act_36 : decode prog_8_method_21_code 36 = .ok (.if_icmp .ge 84, 3) := by decide +kernel
theorem d_Mo_act_39 : decode prog_8_method_21_code 39 = .ok (.aload_n 0, 1) := by decide +kernel
theorem d_Mo_act_40 : decode prog_8_method_21_code 40 = .ok (.iload_n 2, 1) := by decide +kernel
theorem d_Mo_act_41 : decode prog_8_method_21_code 41 = .ok (.iconst 0, 1) := by decide +kernel
theorem d_Mo_act_42 : decode prog_8_method_21_code 42 = .ok (.iload_n 1, 1) := by decide +kernel
theorem d_Mo_act_43 : decode prog_8_method_21_code 43 = .ok (.invokevirtual 118, 3) := by decide +kernel
theorem d_Mo_act_46 : decode prog_8_method_21_code 46 = .ok (.ifCond .eq 23, 3) := by decide +kernel
theorem d_Mo_act_49 : decode prog_8_method_21_code 49 = .ok (.aload_n 0, 1) := by decide +kernel
theorem d_Mo_act_50 : decode prog_8_method_21_code 50 = .ok (.getfield 7, 3) := by decide +kernel
theorem d_Mo_act_53 : decode prog_8_method_21_code 53 = .ok (.aload_n 0, 1) := by decide +kernel
theorem d_Mo_act_54 : decode prog_8_method_21_code 54 = .ok (.getfield 39, 3) := by decide +kernel
theorem d_Mo_act_57 : decode prog_8_method_21_code 57 = .ok (.iload_n 2, 1) := by decide +kernel
theorem d_Mo_act_58 : decode prog_8_method_21_code 58 = .ok (.iaload, 1) := by decide +kernel
theorem d_Mo_act_59 : decode prog_8_method_21_code 59 = .ok (.aload_n 0, 1) := by decide +kernel
theorem d_Mo_act_60 : decode prog_8_method_21_code 60 = .ok (.getfield 42, 3) := by decide +kernel
theorem d_Mo_act_63 : decode prog_8_method_21_code 63 = .ok (.iload_n 2, 1) := by decide +kernel
theorem d_Mo_act_64 : decode prog_8_method_21_code 64 = .ok (.laload, 1) := by decide +kernel
theorem d_Mo_act_65 : decode prog_8_method_21_code 65 = .ok (.lastore, 1) := by decide +kernel
theorem d_Mo_act_66 : decode prog_8_method_21_code 66 = .ok (.goto 48, 3) := by decide +kernel
theorem d_Mo_act_69 : decode prog_8_method_21_code 69 = .ok (.aload_n 0, 1) := by decide +kernel
theorem d_Mo_act_70 : decode prog_8_method_21_code 70 = .ok (.iload_n 2, 1) := by decide +kernel
theorem d_Mo_act_71 : decode prog_8_method_21_code 71 = .ok (.iconst 1, 1) := by decide +kernel
theorem d_Mo_act_72 : decode prog_8_method_21_code 72 = .ok (.iload_n 1, 1) := by decide +kernel
theorem d_Mo_act_73 : decode prog_8_method_21_code 73 = .ok (.invokevirtual 118, 3) := by decide +kernel
theorem d_Mo_act_76 : decode prog_8_method_21_code 76 = .ok (.ifCond .eq 38, 3) := by decide +kernel
theorem d_Mo_act_79 : decode prog_8_method_21_code 79 = .ok (.aload_n 0, 1) := by decide +kernel
theorem d_Mo_act_80 : decode prog_8_method_21_code 80 = .ok (.iload_n 2, 1) := by decide +kernel
theorem d_Mo_act_81 : decode prog_8_method_21_code 81 = .ok (.invokevirtual 121, 3) := by decide +kernel
theorem d_Mo_act_84 : decode prog_8_method_21_code 84 = .ok (.ifCond .eq 30, 3) := by decide +kernel
theorem d_Mo_act_87 : decode prog_8_method_21_code 87 = .ok (.aload_n 0, 1) := by decide +kernel
theorem d_Mo_act_88 : decode prog_8_method_21_code 88 = .ok (.getfield 16, 3) := by decide +kernel
theorem d_Mo_act_91 : decode prog_8_method_21_code 91 = .ok (.aload_n 0, 1) := by decide +kernel
theorem d_Mo_act_92 : decode prog_8_method_21_code 92 = .ok (.getfield 39, 3) := by decide +kernel
theorem d_Mo_act_95 : decode prog_8_method_21_code 95 = .ok (.iload_n 2, 1) := by decide +kernel
theorem d_Mo_act_96 : decode prog_8_method_21_code 96 = .ok (.iaload, 1) := by decide +kernel
theorem d_Mo_act_97 : decode prog_8_method_21_code 97 = .ok (.iaload, 1) := by decide +kernel
theorem d_Mo_act_98 : decode prog_8_method_21_code 98 = .ok (.iload_n 1, 1) := by decide +kernel
theorem d_Mo_act_99 : decode prog_8_method_21_code 99 = .ok (.if_icmp .ne 15, 3) := by decide +kernel
theorem d_Mo_act_102 : decode prog_8_method_21_code 102 = .ok (.aload_n 0, 1) := by decide +kernel
theorem d_Mo_act_103 : decode prog_8_method_21_code 103 = .ok (.getfield 16, 3) := by decide +kernel
theorem d_Mo_act_106 : decode prog_8_method_21_code 106 = .ok (.aload_n 0, 1) := by decide +kernel
theorem d_Mo_act_107 : decode prog_8_method_21_code 107 = .ok (.getfield 39, 3) := by decide +kernel
theorem d_Mo_act_110 : decode prog_8_method_21_code 110 = .ok (.iload_n 2, 1) := by decide +kernel
theorem d_Mo_act_111 : decode prog_8_method_21_code 111 = .ok (.iaload, 1) := by decide +kernel
theorem d_Mo_act_112 : decode prog_8_method_21_code 112 = .ok (.iconst (-1), 1) := by decide +kernel
theorem d_Mo_act_113 : decode prog_8_method_21_code 113 = .ok (.iastore, 1) := by decide +kernel
theorem d_Mo_act_114 : decode prog_8_method_21_code 114 = .ok (.iinc 2 1, 3) := by decide +kernel
theorem d_Mo_act_117 : decode prog_8_method_21_code 117 = .ok (.goto (-86), 3) := by decide +kernel
theorem d_Mo_act_120 : decode prog_8_method_21_code 120 = .ok (.aload_n 0, 1) := by decide +kernel
theorem d_Mo_act_121 : decode prog_8_method_21_code 121 = .ok (.getfield 45, 3) := by decide +kernel
theorem d_Mo_act_124 : decode prog_8_method_21_code 124 = .ok (.iload_n 1, 1) := by decide +kernel
theorem d_Mo_act_125 : decode prog_8_method_21_code 125 = .ok (.dup2, 1) := by decide +kernel
theorem d_Mo_act_126 : decode prog_8_method_21_code 126 = .ok (.iaload, 1) := by decide +kernel
theorem d_Mo_act_127 : decode prog_8_method_21_code 127 = .ok (.iconst 1, 1) := by decide +kernel
theorem d_Mo_act_128 : decode prog_8_method_21_code 128 = .ok (.iadd, 1) := by decide +kernel
theorem d_Mo_act_129 : decode prog_8_method_21_code 129 = .ok (.iastore, 1) := by decide +kernel
theorem d_Mo_act_130 : decode prog_8_method_21_code 130 = .ok (.return_, 1) := by decide +kernel
theorem d_Mo_end_0 : decode prog_8_method_22_code 0 = .ok (.iconst 0, 1) := by decide +kernel
theorem d_Mo_end_1 : decode prog_8_method_22_code 1 = .ok (.istore_n 1, 1) := by decide +kernel
theorem d_Mo_end_2 : decode prog_8_method_22_code 2 = .ok (.iload_n 1, 1) := by decide +kernel
theorem d_Mo_end_3 : decode prog_8_method_22_code 3 = .ok (.aload_n 0, 1) := by decide +kernel
theorem d_Mo_end_4 : decode prog_8_method_22_code 4 = .ok (.getfield 75, 3) := by decide +kernel
theorem d_Mo_end_7 : decode prog_8_method_22_code 7 = .ok (.if_icmp .ge 81, 3) := by decide +kernel
theorem d_Mo_end_10 : decode prog_8_method_22_code 10 = .ok (.aload_n 0, 1) := by decide +kernel
theorem d_Mo_end_11 : decode prog_8_method_22_code 11 = .ok (.getfield 63, 3) := by decide +kernel
theorem d_Mo_end_14 : decode prog_8_method_22_code 14 = .ok (.iload_n 1, 1) := by decide +kernel
theorem d_Mo_end_15 : decode prog_8_method_22_code 15 = .ok (.baload, 1) := by decide +kernel
theorem d_Mo_end_16 : decode prog_8_method_22_code 16 = .ok (.ifCond .eq 66, 3) := by decide +kernel
theorem d_Mo_end_19 : decode prog_8_method_22_code 19 = .ok (.aload_n 0, 1) := by decide +kernel
theorem d_Mo_end_20 : decode prog_8_method_22_code 20 = .ok (.getfield 69, 3) := by decide +kernel
theorem d_Mo_end_23 : decode prog_8_method_22_code 23 = .ok (.iload_n 1, 1) := by decide +kernel
theorem d_Mo_end_24 : decode prog_8_method_22_code 24 = .ok (.baload, 1) := by decide +kernel
theorem d_Mo_end_25 : decode prog_8_method_22_code 25 = .ok (.ifCond .eq 57, 3) := by decide +kernel
theorem d_Mo_end_28 : decode prog_8_method_22_code 28 = .ok (.aload_n 0, 1) := by decide +kernel
theorem d_Mo_end_29 : decode prog_8_method_22_code 29 = .ok (.getfield 51, 3) := by decide +kernel
theorem d_Mo_end_32 : decode prog_8_method_22_code 32 = .ok (.iload_n 1, 1) := by decide +kernel
theorem d_Mo_end_33 : decode prog_8_method_22_code 33 = .ok (.aload_n 0, 1) := by decide +kernel
theorem d_Mo_end_34 : decode prog_8_method_22_code 34 = .ok (.getfield 106, 3) := by decide +kernel
theorem d_Mo_end_37 : decode prog_8_method_22_code 37 = .ok (.iastore, 1) := by decide +kernel
theorem d_Mo_end_38 : decode prog_8_method_22_code 38 = .ok (.aload_n 0, 1) := by decide +kernel
theorem d_Mo_end_39 : decode prog_8_method_22_code 39 = .ok (.getfield 48, 3) := by decide +kernel
theorem d_Mo_end_42 : decode prog_8_method_22_code 42 = .ok (.iload_n 1, 1) := by decide +kernel
theorem d_Mo_end_43 : decode prog_8_method_22_code 43 = .ok (.iconst 0, 1) := by decide +kernel
theorem d_Mo_end_44 : decode prog_8_method_22_code 44 = .ok (.bastore, 1) := by decide +kernel
theorem d_Mo_end_45 : decode prog_8_method_22_code 45 = .ok (.aload_n 0, 1) := by decide +kernel
theorem d_Mo_end_46 : decode prog_8_method_22_code 46 = .ok (.iload_n 1, 1) := by decide +kernel
theorem d_Mo_end_47 : decode prog_8_method_22_code 47 = .ok (.iconst 2, 1) := by decide +kernel
theorem d_Mo_end_48 : decode prog_8_method_22_code 48 = .ok (.invokevirtual 135, 3) := by decide +kernel
theorem d_Mo_end_51 : decode prog_8_method_22_code 51 = .ok (.iconst 4, 1) := by decide +kernel
theorem d_Mo_end_52 : decode prog_8_method_22_code 52 = .ok (.iload_n 1, 1) := by decide +kernel
theorem d_Mo_end_53 : decode prog_8_method_22_code 53 = .ok (.imul, 1) := by decide +kernel
theorem d_Mo_end_54 : decode prog_8_method_22_code 54 = .ok (.istore_n 2, 1) := by decide +kernel
theorem d_Mo_end_55 : decode prog_8_method_22_code 55 = .ok (.iload_n 2, 1) := by decide +kernel
theorem d_Mo_end_56 : decode prog_8_method_22_code 56 = .ok (.iconst 4, 1) := by decide +kernel
theorem d_Mo_end_57 : decode prog_8_method_22_code 57 = .ok (.iload_n 1, 1) := by decide +kernel
theorem d_Mo_end_58 : decode prog_8_method_22_code 58 = .ok (.imul, 1) := by decide +kernel
theorem d_Mo_end_59 : decode prog_8_method_22_code 59 = .ok (.iconst 4, 1) := by decide +kernel
theorem d_Mo_end_60 : decode prog_8_method_22_code 60 = .ok (.iadd, 1) := by decide +kernel
theorem d_Mo_end_61 : decode prog_8_method_22_code 61 = .ok (.if_icmp .ge 21, 3) := by decide +kernel
theorem d_Mo_end_64 : decode prog_8_method_22_code 64 = .ok (.aload_n 0, 1) := by decide +kernel
theorem d_Mo_end_65 : decode prog_8_method_22_code 65 = .ok (.getfield 7, 3) := by decide +kernel
theorem d_Mo_end_68 : decode prog_8_method_22_code 68 = .ok (.iload_n 2, 1) := by decide +kernel
theorem d_Mo_end_69 : decode prog_8_method_22_code 69 = .ok (.aload_n 0, 1) := by decide +kernel
theorem d_Mo_end_70 : decode prog_8_method_22_code 70 = .ok (.getfield 13, 3) := by decide +kernel
theorem d_Mo_end_73 : decode prog_8_method_22_code 73 = .ok (.iload_n 2, 1) := by decide +kernel
theorem d_Mo_end_74 : decode prog_8_method_22_code 74 = .ok (.laload, 1) := by decide +kernel
theorem d_Mo_end_75 : decode prog_8_method_22_code 75 = .ok (.lastore, 1) := by decide +kernel
theorem d_Mo_end_76 : decode prog_8_method_22_code 76 = .ok (.iinc 2 1, 3) := by decide +kernel
theorem d_Mo_end_79 : decode prog_8_method_22_code 79 = .ok (.goto (-24), 3) := by decide +kernel
theorem d_Mo_end_82 : decode prog_8_method_22_code 82 = .ok (.iinc 1 1, 3) := by decide +kernel
theorem d_Mo_end_85 : decode prog_8_method_22_code 85 = .ok (.goto (-83), 3) := by decide +kernel
theorem d_Mo_end_88 : decode prog_8_method_22_code 88 = .ok (.iconst 0, 1) := by decide +kernel
theorem d_Mo_end_89 : decode prog_8_method_22_code 89 = .ok (.istore_n 1, 1) := by decide +kernel
theorem d_Mo_end_90 : decode prog_8_method_22_code 90 = .ok (.iload_n 1, 1) := by decide +kernel
theorem d_Mo_end_91 : decode prog_8_method_22_code 91 = .ok (.bipush 16, 2) := by decide +kernel
theorem d_Mo_end_93 : decode prog_8_method_22_code 93 = .ok (.if_icmp .ge 92, 3) := by decide +kernel
theorem d_Mo_end_96 : decode prog_8_method_22_code 96 = .ok (.iconst 0, 1) := by decide +kernel
theorem d_Mo_end_97 : decode prog_8_method_22_code 97 = .ok (.istore_n 2, 1) := by decide +kernel
theorem d_Mo_end_98 : decode prog_8_method_22_code 98 = .ok (.iload_n 2, 1) := by decide +kernel
theorem d_Mo_end_99 : decode prog_8_method_22_code 99 = .ok (.aload_n 0, 1) := by decide +kernel
theorem d_Mo_end_100 : decode prog_8_method_22_code 100 = .ok (.getfield 75, 3) := by decide +kernel
theorem d_Mo_end_103 : decode prog_8_method_22_code 103 = .ok (.if_icmp .ge 76, 3) := by decide +kernel
theorem d_Mo_end_106 : decode prog_8_method_22_code 106 = .ok (.aload_n 0, 1) := by decide +kernel
theorem d_Mo_end_107 : decode prog_8_method_22_code 107 = .ok (.getfield 72, 3) := by decide +kernel
theorem d_Mo_end_110 : decode prog_8_method_22_code 110 = .ok (.bipush 8, 2) := by decide +kernel
theorem d_Mo_end_112 : decode prog_8_method_22_code 112 = .ok (.iload_n 1, 1) := by decide +kernel
theorem d_Mo_end_113 : decode prog_8_method_22_code 113 = .ok (.imul, 1) := by decide +kernel
theorem d_Mo_end_114 : decode prog_8_method_22_code 114 = .ok (.iload_n 2, 1) := by decide +kernel
theorem d_Mo_end_115 : decode prog_8_method_22_code 115 = .ok (.iadd, 1) := by decide +kernel
theorem d_Mo_end_116 : decode prog_8_method_22_code 116 = .ok (.baload, 1) := by decide +kernel
theorem d_Mo_end_117 : decode prog_8_method_22_code 117 = .ok (.ifCond .eq 34, 3) := by decide +kernel
theorem d_Mo_end_120 : decode prog_8_method_22_code 120 = .ok (.aload_n 0, 1) := by decide +kernel
theorem d_Mo_end_121 : decode prog_8_method_22_code 121 = .ok (.getfield 16, 3) := by decide +kernel
theorem d_Mo_end_124 : decode prog_8_method_22_code 124 = .ok (.iload_n 1, 1) := by decide +kernel
theorem d_Mo_end_125 : decode prog_8_method_22_code 125 = .ok (.iaload, 1) := by decide +kernel
theorem d_Mo_end_126 : decode prog_8_method_22_code 126 = .ok (.iconst (-1), 1) := by decide +kernel
theorem d_Mo_end_127 : decode prog_8_method_22_code 127 = .ok (.if_icmp .ne 24, 3) := by decide +kernel
theorem d_Mo_end_130 : decode prog_8_method_22_code 130 = .ok (.aload_n 0, 1) := by decide +kernel
theorem d_Mo_end_131 : decode prog_8_method_22_code 131 = .ok (.getfield 26, 3) := by decide +kernel
theorem d_Mo_end_134 : decode prog_8_method_22_code 134 = .ok (.bipush 16, 2) := by decide +kernel
theorem d_Mo_end_136 : decode prog_8_method_22_code 136 = .ok (.aload_n 0, 1) := by decide +kernel
theorem d_Mo_end_137 : decode prog_8_method_22_code 137 = .ok (.getfield 106, 3) := by decide +kernel
theorem d_Mo_end_140 : decode prog_8_method_22_code 140 = .ok (.imul, 1) := by decide +kernel
theorem d_Mo_end_141 : decode prog_8_method_22_code 141 = .ok (.iload_n 1, 1) := by decide +kernel
theorem d_Mo_end_142 : decode prog_8_method_22_code 142 = .ok (.iadd, 1) := by decide +kernel
theorem d_Mo_end_143 : decode prog_8_method_22_code 143 = .ok (.baload, 1) := by decide +kernel
theorem d_Mo_end_144 : decode prog_8_method_22_code 144 = .ok (.ifCond .ne 7, 3) := by decide +kernel
theorem d_Mo_end_147 : decode prog_8_method_22_code 147 = .ok (.iconst 1, 1) := by decide +kernel
theorem d_Mo_end_148 : decode prog_8_method_22_code 148 = .ok (.goto 4, 3) := by decide +kernel
theorem d_Mo_end_151 : decode prog_8_method_22_code 151 = .ok (.iconst 0, 1) := by decide +kernel
theorem d_Mo_end_152 : decode prog_8_method_22_code 152 = .ok (.istore_n 3, 1) := by decide +kernel
theorem d_Mo_end_153 : decode prog_8_method_22_code 153 = .ok (.aload_n 0, 1) := by decide +kernel
theorem d_Mo_end_154 : decode prog_8_method_22_code 154 = .ok (.getfield 16, 3) := by decide +kernel
theorem d_Mo_end_157 : decode prog_8_method_22_code 157 = .ok (.iload_n 1, 1) := by decide +kernel
theorem d_Mo_end_158 : decode prog_8_method_22_code 158 = .ok (.iload_n 3, 1) := by decide +kernel
theorem d_Mo_end_159 : decode prog_8_method_22_code 159 = .ok (.ifCond .eq 7, 3) := by decide +kernel
theorem d_Mo_end_162 : decode prog_8_method_22_code 162 = .ok (.iload_n 2, 1) := by decide +kernel
theorem d_Mo_end_163 : decode prog_8_method_22_code 163 = .ok (.goto 9, 3) := by decide +kernel
theorem d_Mo_end_166 : decode prog_8_method_22_code 166 = .ok (.aload_n 0, 1) := by decide +kernel
theorem d_Mo_end_167 : decode prog_8_method_22_code 167 = .ok (.getfield 16, 3) := by decide +kernel
theorem d_Mo_end_170 : decode prog_8_method_22_code 170 = .ok (.iload_n 1, 1) := by decide +kernel
theorem d_Mo_end_171 : decode prog_8_method_22_code 171 = .ok (.iaload, 1) := by decide +kernel
theorem d_Mo_end_172 : decode prog_8_method_22_code 172 = .ok (.iastore, 1) := by decide +kernel
theorem d_Mo_end_173 : decode prog_8_method_22_code 173 = .ok (.iinc 2 1, 3) := by decide +kernel
theorem d_Mo_end_176 : decode prog_8_method_22_code 176 = .ok (.goto (-78), 3) := by decide +kernel
theorem d_Mo_end_179 : decode prog_8_method_22_code 179 = .ok (.iinc 1 1, 3) := by decide +kernel
theorem d_Mo_end_182 : decode prog_8_method_22_code 182 = .ok (.goto (-92), 3) := by decide +kernel
theorem d_Mo_end_185 : decode prog_8_method_22_code 185 = .ok (.iconst 0, 1) := by decide +kernel
theorem d_Mo_end_186 : decode prog_8_method_22_code 186 = .ok (.istore_n 1, 1) := by decide +kernel
theorem d_Mo_end_187 : decode prog_8_method_22_code 187 = .ok (.iload_n 1, 1) := by decide +kernel
theorem d_Mo_end_188 : decode prog_8_method_22_code 188 = .ok (.aload_n 0, 1) := by decide +kernel
theorem d_Mo_end_189 : decode prog_8_method_22_code 189 = .ok (.getfield 75, 3) := by decide +kernel
theorem d_Mo_end_192 : decode prog_8_method_22_code 192 = .ok (.if_icmp .ge 32, 3) := by decide +kernel
theorem d_Mo_end_195 : decode prog_8_method_22_code 195 = .ok (.aload_n 0, 1) := by decide +kernel
theorem d_Mo_end_196 : decode prog_8_method_22_code 196 = .ok (.getfield 63, 3) := by decide +kernel
theorem d_Mo_end_199 : decode prog_8_method_22_code 199 = .ok (.iload_n 1, 1) := by decide +kernel
theorem d_Mo_end_200 : decode prog_8_method_22_code 200 = .ok (.baload, 1) := by decide +kernel
theorem d_Mo_end_201 : decode prog_8_method_22_code 201 = .ok (.ifCond .eq 17, 3) := by decide +kernel
theorem d_Mo_end_204 : decode prog_8_method_22_code 204 = .ok (.aload_n 0, 1) := by decide +kernel
theorem d_Mo_end_205 : decode prog_8_method_22_code 205 = .ok (.getfield 69, 3) := by decide +kernel
theorem d_Mo_end_208 : decode prog_8_method_22_code 208 = .ok (.iload_n 1, 1) := by decide +kernel
theorem d_Mo_end_209 : decode prog_8_method_22_code 209 = .ok (.baload, 1) := by decide +kernel
theorem d_Mo_end_210 : decode prog_8_method_22_code 210 = .ok (.ifCond .ne 8, 3) := by decide +kernel
theorem d_Mo_end_213 : decode prog_8_method_22_code 213 = .ok (.aload_n 0, 1) := by decide +kernel
theorem d_Mo_end_214 : decode prog_8_method_22_code 214 = .ok (.iload_n 1, 1) := by decide +kernel
theorem d_Mo_end_215 : decode prog_8_method_22_code 215 = .ok (.invokevirtual 139, 3) := by decide +kernel
theorem d_Mo_end_218 : decode prog_8_method_22_code 218 = .ok (.iinc 1 1, 3) := by decide +kernel
theorem d_Mo_end_221 : decode prog_8_method_22_code 221 = .ok (.goto (-34), 3) := by decide +kernel
theorem d_Mo_end_224 : decode prog_8_method_22_code 224 = .ok (.iconst 0, 1) := by decide +kernel
theorem d_Mo_end_225 : decode prog_8_method_22_code 225 = .ok (.istore_n 1, 1) := by decide +kernel
theorem d_Mo_end_226 : decode prog_8_method_22_code 226 = .ok (.iload_n 1, 1) := by decide +kernel
theorem d_Mo_end_227 : decode prog_8_method_22_code 227 = .ok (.bipush 32, 2) := by decide +kernel
theorem d_Mo_end_229 : decode prog_8_method_22_code 229 = .ok (.if_icmp .ge 29, 3) := by decide +kernel
theorem d_Mo_end_232 : decode prog_8_method_22_code 232 = .ok (.aload_n 0, 1) := by decide +kernel
theorem d_Mo_end_233 : decode prog_8_method_22_code 233 = .ok (.getfield 20, 3) := by decide +kernel
theorem d_Mo_end_236 : decode prog_8_method_22_code 236 = .ok (.bipush 32, 2) := by decide +kernel
theorem d_Mo_end_238 : decode prog_8_method_22_code 238 = .ok (.aload_n 0, 1) := by decide +kernel
theorem d_Mo_end_239 : decode prog_8_method_22_code 239 = .ok (.getfield 106, 3) := by decide +kernel
theorem d_Mo_end_242 : decode prog_8_method_22_code 242 = .ok (.imul, 1) := by decide +kernel
theorem d_Mo_end_243 : decode prog_8_method_22_code 243 = .ok (.iload_n 1, 1) := by decide +kernel
theorem d_Mo_end_244 : decode prog_8_method_22_code 244 = .ok (.iadd, 1) := by decide +kernel
theorem d_Mo_end_245 : decode prog_8_method_22_code 245 = .ok (.aload_n 0, 1) := by decide +kernel
theorem d_Mo_end_246 : decode prog_8_method_22_code 246 = .ok (.getfield 7, 3) := by decide +kernel
theorem d_Mo_end_249 : decode prog_8_method_22_code 249 = .ok (.iload_n 1, 1) := by decide +kernel
theorem d_Mo_end_250 : decode prog_8_method_22_code 250 = .ok (.laload, 1) := by decide +kernel
theorem d_Mo_end_251 : decode prog_8_method_22_code 251 = .ok (.lastore, 1) := by decide +kernel
theorem d_Mo_end_252 : decode prog_8_method_22_code 252 = .ok (.iinc 1 1, 3) := by decide +kernel
theorem d_Mo_end_255 : decode prog_8_method_22_code 255 = .ok (.goto (-29), 3) := by decide +kernel
theorem d_Mo_end_258 : decode prog_8_method_22_code 258 = .ok (.iconst 0, 1) := by decide +kernel
theorem d_Mo_end_259 : decode prog_8_method_22_code 259 = .ok (.istore_n 1, 1) := by decide +kernel
theorem d_Mo_end_260 : decode prog_8_method_22_code 260 = .ok (.iload_n 1, 1) := by decide +kernel
theorem d_Mo_end_261 : decode prog_8_method_22_code 261 = .ok (.bipush 16, 2) := by decide +kernel
theorem d_Mo_end_263 : decode prog_8_method_22_code 263 = .ok (.if_icmp .ge 29, 3) := by decide +kernel
theorem d_Mo_end_266 : decode prog_8_method_22_code 266 = .ok (.aload_n 0, 1) := by decide +kernel
theorem d_Mo_end_267 : decode prog_8_method_22_code 267 = .ok (.getfield 23, 3) := by decide +kernel
theorem d_Mo_end_270 : decode prog_8_method_22_code 270 = .ok (.bipush 16, 2) := by decide +kernel
theorem d_Mo_end_272 : decode prog_8_method_22_code 272 = .ok (.aload_n 0, 1) := by decide +kernel
theorem d_Mo_end_273 : decode prog_8_method_22_code 273 = .ok (.getfield 106, 3) := by decide +kernel
theorem d_Mo_end_276 : decode prog_8_method_22_code 276 = .ok (.imul, 1) := by decide +kernel
theorem d_Mo_end_277 : decode prog_8_method_22_code 277 = .ok (.iload_n 1, 1) := by decide +kernel
theorem d_Mo_end_278 : decode prog_8_method_22_code 278 = .ok (.iadd, 1) := by decide +kernel
theorem d_Mo_end_279 : decode prog_8_method_22_code 279 = .ok (.aload_n 0, 1) := by decide +kernel
theorem d_Mo_end_280 : decode prog_8_method_22_code 280 = .ok (.getfield 16, 3) := by decide +kernel
theorem d_Mo_end_283 : decode prog_8_method_22_code 283 = .ok (.iload_n 1, 1) := by decide +kernel
theorem d_Mo_end_284 : decode prog_8_method_22_code 284 = .ok (.iaload, 1) := by decide +kernel
theorem d_Mo_end_285 : decode prog_8_method_22_code 285 = .ok (.iastore, 1) := by decide +kernel
theorem d_Mo_end_286 : decode prog_8_method_22_code 286 = .ok (.iinc 1 1, 3) := by decide +kernel
theorem d_Mo_end_289 : decode prog_8_method_22_code 289 = .ok (.goto (-29), 3) := by decide +kernel
theorem d_Mo_end_292 : decode prog_8_method_22_code 292 = .ok (.aload_n 0, 1) := by decide +kernel
theorem d_Mo_end_293 : decode prog_8_method_22_code 293 = .ok (.dup, 1) := by decide +kernel
theorem d_Mo_end_294 : decode prog_8_method_22_code 294 = .ok (.getfield 106, 3) := by decide +kernel
theorem d_Mo_end_297 : decode prog_8_method_22_code 297 = .ok (.iconst 1, 1) := by decide +kernel
theorem d_Mo_end_298 : decode prog_8_method_22_code 298 = .ok (.iadd, 1) := by decide +kernel
theorem d_Mo_end_299 : decode prog_8_method_22_code 299 = .ok (.putfield 106, 3) := by decide +kernel
theorem d_Mo_end_302 : decode prog_8_method_22_code 302 = .ok (.return_, 1) := by decide +kernel
theorem d_Mo_play_0 : decode prog_8_method_23_code 0 = .ok (.iload_n 3, 1) := by decide +kernel
theorem d_Mo_play_1 : decode prog_8_method_23_code 1 = .ok (.iconst 0, 1) := by decide +kernel
theorem d_Mo_play_2 : decode prog_8_method_23_code 2 = .ok (.bipush 64, 2) := by decide +kernel
theorem d_Mo_play_4 : decode prog_8_method_23_code 4 = .ok (.invokestatic 79, 3) := by decide +kernel
theorem d_Mo_play_7 : decode prog_8_method_23_code 7 = .ok (.ifCond .eq 10, 3) := by decide +kernel
theorem d_Mo_play_10 : decode prog_8_method_23_code 10 = .ok (.aload_n 0, 1) := by decide +kernel
theorem d_Mo_play_11 : decode prog_8_method_23_code 11 = .ok (.getfield 83, 3) := by decide +kernel
theorem d_Mo_play_14 : decode prog_8_method_23_code 14 = .ok (.ifCond .eq 5, 3) := by decide +kernel
theorem d_Mo_play_17 : decode prog_8_method_23_code 17 = .ok (.iconst (-1), 1) := by decide +kernel
theorem d_Mo_play_18 : decode prog_8_method_23_code 18 = .ok (.ireturn, 1) := by decide +kernel
theorem d_Mo_play_19 : decode prog_8_method_23_code 19 = .ok (.lload_n 1, 1) := by decide +kernel
theorem d_Mo_play_20 : decode prog_8_method_23_code 20 = .ok (.lstore 4, 2) := by decide +kernel
theorem d_Mo_play_22 : decode prog_8_method_23_code 22 = .ok (.iconst 0, 1) := by decide +kernel
theorem d_Mo_play_23 : decode prog_8_method_23_code 23 = .ok (.istore 6, 2) := by decide +kernel
theorem d_Mo_play_25 : decode prog_8_method_23_code 25 = .ok (.iload 6, 2) := by decide +kernel
theorem d_Mo_play_27 : decode prog_8_method_23_code 27 = .ok (.iload_n 3, 1) := by decide +kernel
theorem d_Mo_play_28 : decode prog_8_method_23_code 28 = .ok (.if_icmp .ge 62, 3) := by decide +kernel
theorem d_Mo_play_31 : decode prog_8_method_23_code 31 = .ok (.aload_n 0, 1) := by decide +kernel
theorem d_Mo_play_32 : decode prog_8_method_23_code 32 = .ok (.getfield 106, 3) := by decide +kernel
theorem d_Mo_play_35 : decode prog_8_method_23_code 35 = .ok (.bipush 64, 2) := by decide +kernel
theorem d_Mo_play_37 : decode prog_8_method_23_code 37 = .ok (.if_icmp .ge 53, 3) := by decide +kernel
theorem d_Mo_play_40 : decode prog_8_method_23_code 40 = .ok (.aload_n 0, 1) := by decide +kernel
theorem d_Mo_play_41 : decode prog_8_method_23_code 41 = .ok (.invokevirtual 142, 3) := by decide +kernel
theorem d_Mo_play_44 : decode prog_8_method_23_code 44 = .ok (.ifCond .le 46, 3) := by decide +kernel
theorem d_Mo_play_47 : decode prog_8_method_23_code 47 = .ok (.iconst 0, 1) := by decide +kernel
theorem d_Mo_play_48 : decode prog_8_method_23_code 48 = .ok (.istore 7, 2) := by decide +kernel
theorem d_Mo_play_50 : decode prog_8_method_23_code 50 = .ok (.iload 7, 2) := by decide +kernel
theorem d_Mo_play_52 : decode prog_8_method_23_code 52 = .ok (.sipush 128, 3) := by decide +kernel
theorem d_Mo_play_55 : decode prog_8_method_23_code 55 = .ok (.if_icmp .ge 17, 3) := by decide +kernel
theorem d_Mo_play_58 : decode prog_8_method_23_code 58 = .ok (.aload_n 0, 1) := by decide +kernel
theorem d_Mo_play_59 : decode prog_8_method_23_code 59 = .ok (.getfield 72, 3) := by decide +kernel
theorem d_Mo_play_62 : decode prog_8_method_23_code 62 = .ok (.iload 7, 2) := by decide +kernel
theorem d_Mo_play_64 : decode prog_8_method_23_code 64 = .ok (.iconst 0, 1) := by decide +kernel
theorem d_Mo_play_65 : decode prog_8_method_23_code 65 = .ok (.bastore, 1) := by decide +kernel
theorem d_Mo_play_66 : decode prog_8_method_23_code 66 = .ok (.iinc 7 1, 3) := by decide +kernel
theorem d_Mo_play_69 : decode prog_8_method_23_code 69 = .ok (.goto (-19), 3) := by decide +kernel
theorem d_Mo_play_72 : decode prog_8_method_23_code 72 = .ok (.aload_n 0, 1) := by decide +kernel
theorem d_Mo_play_73 : decode prog_8_method_23_code 73 = .ok (.lload 4, 2) := by decide +kernel
theorem d_Mo_play_75 : decode prog_8_method_23_code 75 = .ok (.invokevirtual 146, 3) := by decide +kernel
theorem d_Mo_play_78 : decode prog_8_method_23_code 78 = .ok (.lstore 4, 2) := by decide +kernel
theorem d_Mo_play_80 : decode prog_8_method_23_code 80 = .ok (.aload_n 0, 1) := by decide +kernel
theorem d_Mo_play_81 : decode prog_8_method_23_code 81 = .ok (.invokevirtual 150, 3) := by decide +kernel
theorem d_Mo_play_84 : decode prog_8_method_23_code 84 = .ok (.iinc 6 1, 3) := by decide +kernel
theorem d_Mo_play_87 : decode prog_8_method_23_code 87 = .ok (.goto (-62), 3) := by decide +kernel
theorem d_Mo_play_90 : decode prog_8_method_23_code 90 = .ok (.iload 6, 2) := by decide +kernel
theorem d_Mo_play_92 : decode prog_8_method_23_code 92 = .ok (.ireturn, 1) := by decide +kernel
theorem d_Mo_output_0 : decode prog_8_method_24_code 0 = .ok (.iload_n 1, 1) := by decide +kernel
theorem d_Mo_output_1 : decode prog_8_method_24_code 1 = .ok (.iconst 0, 1) := by decide +kernel
theorem d_Mo_output_2 : decode prog_8_method_24_code 2 = .ok (.iconst 4, 1) := by decide +kernel
theorem d_Mo_output_3 : decode prog_8_method_24_code 3 = .ok (.aload_n 0, 1) := by decide +kernel
theorem d_Mo_output_4 : decode prog_8_method_24_code 4 = .ok (.getfield 75, 3) := by decide +kernel
theorem d_Mo_output_7 : decode prog_8_method_24_code 7 = .ok (.imul, 1) := by decide +kernel
theorem d_Mo_output_8 : decode prog_8_method_24_code 8 = .ok (.iconst 1, 1) := by decide +kernel
theorem d_Mo_output_9 : decode prog_8_method_24_code 9 = .ok (.isub, 1) := by decide +kernel
theorem d_Mo_output_10 : decode prog_8_method_24_code 10 = .ok (.invokestatic 79, 3) := by decide +kernel
theorem d_Mo_output_13 : decode prog_8_method_24_code 13 = .ok (.ifCond .eq 17, 3) := by decide +kernel
theorem d_Mo_output_16 : decode prog_8_method_24_code 16 = .ok (.iload_n 2, 1) := by decide +kernel
theorem d_Mo_output_17 : decode prog_8_method_24_code 17 = .ok (.iconst (-1), 1) := by decide +kernel
theorem d_Mo_output_18 : decode prog_8_method_24_code 18 = .ok (.aload_n 0, 1) := by decide +kernel
theorem d_Mo_output_19 : decode prog_8_method_24_code 19 = .ok (.getfield 106, 3) := by decide +kernel
theorem d_Mo_output_22 : decode prog_8_method_24_code 22 = .ok (.iconst 1, 1) := by decide +kernel
theorem d_Mo_output_23 : decode prog_8_method_24_code 23 = .ok (.isub, 1) := by decide +kernel
theorem d_Mo_output_24 : decode prog_8_method_24_code 24 = .ok (.invokestatic 79, 3) := by decide +kernel
theorem d_Mo_output_27 : decode prog_8_method_24_code 27 = .ok (.ifCond .ne 5, 3) := by decide +kernel
theorem d_Mo_output_30 : decode prog_8_method_24_code 30 = .ok (.lconst 0, 1) := by decide +kernel
theorem d_Mo_output_31 : decode prog_8_method_24_code 31 = .ok (.lreturn, 1) := by decide +kernel
theorem d_Mo_output_32 : decode prog_8_method_24_code 32 = .ok (.iload_n 2, 1) := by decide +kernel
theorem d_Mo_output_33 : decode prog_8_method_24_code 33 = .ok (.iconst (-1), 1) := by decide +kernel
theorem d_Mo_output_34 : decode prog_8_method_24_code 34 = .ok (.if_icmp .ne 12, 3) := by decide +kernel
theorem d_Mo_output_37 : decode prog_8_method_24_code 37 = .ok (.aload_n 0, 1) := by decide +kernel
theorem d_Mo_output_38 : decode prog_8_method_24_code 38 = .ok (.getfield 7, 3) := by decide +kernel
theorem d_Mo_output_41 : decode prog_8_method_24_code 41 = .ok (.iload_n 1, 1) := by decide +kernel
theorem d_Mo_output_42 : decode prog_8_method_24_code 42 = .ok (.laload, 1) := by decide +kernel
theorem d_Mo_output_43 : decode prog_8_method_24_code 43 = .ok (.goto 14, 3) := by decide +kernel
theorem d_Mo_output_46 : decode prog_8_method_24_code 46 = .ok (.aload_n 0, 1) := by decide +kernel
theorem d_Mo_output_47 : decode prog_8_method_24_code 47 = .ok (.getfield 20, 3) := by decide +kernel
theorem d_Mo_output_50 : decode prog_8_method_24_code 50 = .ok (.bipush 32, 2) := by decide +kernel
theorem d_Mo_output_52 : decode prog_8_method_24_code 52 = .ok (.iload_n 2, 1) := by decide +kernel
theorem d_Mo_output_53 : decode prog_8_method_24_code 53 = .ok (.imul, 1) := by decide +kernel
theorem d_Mo_output_54 : decode prog_8_method_24_code 54 = .ok (.iload_n 1, 1) := by decide +kernel
theorem d_Mo_output_55 : decode prog_8_method_24_code 55 = .ok (.iadd, 1) := by decide +kernel
theorem d_Mo_output_56 : decode prog_8_method_24_code 56 = .ok (.laload, 1) := by decide +kernel
theorem d_Mo_output_57 : decode prog_8_method_24_code 57 = .ok (.lreturn, 1) := by decide +kernel
theorem d_Mo_owner_0 : decode prog_8_method_25_code 0 = .ok (.iload_n 1, 1) := by decide +kernel
theorem d_Mo_owner_1 : decode prog_8_method_25_code 1 = .ok (.iconst 0, 1) := by decide +kernel
theorem d_Mo_owner_2 : decode prog_8_method_25_code 2 = .ok (.bipush 15, 2) := by decide +kernel
theorem d_Mo_owner_4 : decode prog_8_method_25_code 4 = .ok (.invokestatic 79, 3) := by decide +kernel
theorem d_Mo_owner_7 : decode prog_8_method_25_code 7 = .ok (.ifCond .eq 17, 3) := by decide +kernel
theorem d_Mo_owner_10 : decode prog_8_method_25_code 10 = .ok (.iload_n 2, 1) := by decide +kernel
theorem d_Mo_owner_11 : decode prog_8_method_25_code 11 = .ok (.iconst (-1), 1) := by decide +kernel
theorem d_Mo_owner_12 : decode prog_8_method_25_code 12 = .ok (.aload_n 0, 1) := by decide +kernel
theorem d_Mo_owner_13 : decode prog_8_method_25_code 13 = .ok (.getfield 106, 3) := by decide +kernel
theorem d_Mo_owner_16 : decode prog_8_method_25_code 16 = .ok (.iconst 1, 1) := by decide +kernel
theorem d_Mo_owner_17 : decode prog_8_method_25_code 17 = .ok (.isub, 1) := by decide +kernel
theorem d_Mo_owner_18 : decode prog_8_method_25_code 18 = .ok (.invokestatic 79, 3) := by decide +kernel
theorem d_Mo_owner_21 : decode prog_8_method_25_code 21 = .ok (.ifCond .ne 5, 3) := by decide +kernel
theorem d_Mo_owner_24 : decode prog_8_method_25_code 24 = .ok (.iconst (-1), 1) := by decide +kernel
theorem d_Mo_owner_25 : decode prog_8_method_25_code 25 = .ok (.ireturn, 1) := by decide +kernel
theorem d_Mo_owner_26 : decode prog_8_method_25_code 26 = .ok (.iload_n 2, 1) := by decide +kernel
theorem d_Mo_owner_27 : decode prog_8_method_25_code 27 = .ok (.iconst (-1), 1) := by decide +kernel
theorem d_Mo_owner_28 : decode prog_8_method_25_code 28 = .ok (.if_icmp .ne 12, 3) := by decide +kernel
theorem d_Mo_owner_31 : decode prog_8_method_25_code 31 = .ok (.aload_n 0, 1) := by decide +kernel
theorem d_Mo_owner_32 : decode prog_8_method_25_code 32 = .ok (.getfield 16, 3) := by decide +kernel
theorem d_Mo_owner_35 : decode prog_8_method_25_code 35 = .ok (.iload_n 1, 1) := by decide +kernel
theorem d_Mo_owner_36 : decode prog_8_method_25_code 36 = .ok (.iaload, 1) := by decide +kernel
theorem d_Mo_owner_37 : decode prog_8_method_25_code 37 = .ok (.goto 14, 3) := by decide +kernel
theorem d_Mo_owner_40 : decode prog_8_method_25_code 40 = .ok (.aload_n 0, 1) := by decide +kernel
theorem d_Mo_owner_41 : decode prog_8_method_25_code 41 = .ok (.getfield 23, 3) := by decide +kernel
theorem d_Mo_owner_44 : decode prog_8_method_25_code 44 = .ok (.bipush 16, 2) := by decide +kernel
theorem d_Mo_owner_46 : decode prog_8_method_25_code 46 = .ok (.iload_n 2, 1) := by decide +kernel
theorem d_Mo_owner_47 : decode prog_8_method_25_code 47 = .ok (.imul, 1) := by decide +kernel
theorem d_Mo_owner_48 : decode prog_8_method_25_code 48 = .ok (.iload_n 1, 1) := by decide +kernel
theorem d_Mo_owner_49 : decode prog_8_method_25_code 49 = .ok (.iadd, 1) := by decide +kernel
theorem d_Mo_owner_50 : decode prog_8_method_25_code 50 = .ok (.iaload, 1) := by decide +kernel
theorem d_Mo_owner_51 : decode prog_8_method_25_code 51 = .ok (.ireturn, 1) := by decide +kernel
theorem d_Mo_state_0 : decode prog_8_method_26_code 0 = .ok (.aload_n 0, 1) := by decide +kernel
theorem d_Mo_state_1 : decode prog_8_method_26_code 1 = .ok (.iload_n 1, 1) := by decide +kernel
theorem d_Mo_state_2 : decode prog_8_method_26_code 2 = .ok (.invokevirtual 90, 3) := by decide +kernel
theorem d_Mo_state_5 : decode prog_8_method_26_code 5 = .ok (.ifCond .ne 5, 3) := by decide +kernel
theorem d_Mo_state_8 : decode prog_8_method_26_code 8 = .ok (.iconst (-1), 1) := by decide +kernel
theorem d_Mo_state_9 : decode prog_8_method_26_code 9 = .ok (.ireturn, 1) := by decide +kernel
theorem d_Mo_state_10 : decode prog_8_method_26_code 10 = .ok (.aload_n 0, 1) := by decide +kernel
theorem d_Mo_state_11 : decode prog_8_method_26_code 11 = .ok (.getfield 83, 3) := by decide +kernel
theorem d_Mo_state_14 : decode prog_8_method_26_code 14 = .ok (.ifCond .eq 7, 3) := by decide +kernel
theorem d_Mo_state_17 : decode prog_8_method_26_code 17 = .ok (.iconst 4, 1) := by decide +kernel
theorem d_Mo_state_18 : decode prog_8_method_26_code 18 = .ok (.goto 43, 3) := by decide +kernel
theorem d_Mo_state_21 : decode prog_8_method_26_code 21 = .ok (.aload_n 0, 1) := by decide +kernel
theorem d_Mo_state_22 : decode prog_8_method_26_code 22 = .ok (.getfield 51, 3) := by decide +kernel
theorem d_Mo_state_25 : decode prog_8_method_26_code 25 = .ok (.iload_n 1, 1) := by decide +kernel
theorem d_Mo_state_26 : decode prog_8_method_26_code 26 = .ok (.iaload, 1) := by decide +kernel
theorem d_Mo_state_27 : decode prog_8_method_26_code 27 = .ok (.iconst (-1), 1) := by decide +kernel
theorem d_Mo_state_28 : decode prog_8_method_26_code 28 = .ok (.if_icmp .eq 7, 3) := by decide +kernel
theorem d_Mo_state_31 : decode prog_8_method_26_code 31 = .ok (.iconst 2, 1) := by decide +kernel
theorem d_Mo_state_32 : decode prog_8_method_26_code 32 = .ok (.goto 29, 3) := by decide +kernel
theorem d_Mo_state_35 : decode prog_8_method_26_code 35 = .ok (.aload_n 0, 1) := by decide +kernel
theorem d_Mo_state_36 : decode prog_8_method_26_code 36 = .ok (.iload_n 1, 1) := by decide +kernel
theorem d_Mo_state_37 : decode prog_8_method_26_code 37 = .ok (.invokevirtual 109, 3) := by decide +kernel
theorem d_Mo_state_40 : decode prog_8_method_26_code 40 = .ok (.ifCond .eq 7, 3) := by decide +kernel
theorem d_Mo_state_43 : decode prog_8_method_26_code 43 = .ok (.iconst 3, 1) := by decide +kernel
theorem d_Mo_state_44 : decode prog_8_method_26_code 44 = .ok (.goto 17, 3) := by decide +kernel
theorem d_Mo_state_47 : decode prog_8_method_26_code 47 = .ok (.aload_n 0, 1) := by decide +kernel
theorem d_Mo_state_48 : decode prog_8_method_26_code 48 = .ok (.getfield 48, 3) := by decide +kernel
theorem d_Mo_state_51 : decode prog_8_method_26_code 51 = .ok (.iload_n 1, 1) := by decide +kernel
theorem d_Mo_state_52 : decode prog_8_method_26_code 52 = .ok (.baload, 1) := by decide +kernel
theorem d_Mo_state_53 : decode prog_8_method_26_code 53 = .ok (.ifCond .eq 7, 3) := by decide +kernel
theorem d_Mo_state_56 : decode prog_8_method_26_code 56 = .ok (.iconst 1, 1) := by decide +kernel
theorem d_Mo_state_57 : decode prog_8_method_26_code 57 = .ok (.goto 4, 3) := by decide +kernel
theorem d_Mo_state_60 : decode prog_8_method_26_code 60 = .ok (.iconst 0, 1) := by decide +kernel
theorem d_Mo_state_61 : decode prog_8_method_26_code 61 = .ok (.ireturn, 1) := by decide +kernel
theorem d_Mo_restart_0 : decode prog_8_method_27_code 0 = .ok (.aload_n 0, 1) := by decide +kernel
theorem d_Mo_restart_1 : decode prog_8_method_27_code 1 = .ok (.iload_n 1, 1) := by decide +kernel
theorem d_Mo_restart_2 : decode prog_8_method_27_code 2 = .ok (.invokevirtual 90, 3) := by decide +kernel
theorem d_Mo_restart_5 : decode prog_8_method_27_code 5 = .ok (.ifCond .eq 20, 3) := by decide +kernel
theorem d_Mo_restart_8 : decode prog_8_method_27_code 8 = .ok (.aload_n 0, 1) := by decide +kernel
theorem d_Mo_restart_9 : decode prog_8_method_27_code 9 = .ok (.getfield 83, 3) := by decide +kernel
theorem d_Mo_restart_12 : decode prog_8_method_27_code 12 = .ok (.ifCond .ne 13, 3) := by decide +kernel
theorem d_Mo_restart_15 : decode prog_8_method_27_code 15 = .ok (.aload_n 0, 1) := by decide +kernel
theorem d_Mo_restart_16 : decode prog_8_method_27_code 16 = .ok (.getfield 51, 3) := by decide +kernel
theorem d_Mo_restart_19 : decode prog_8_method_27_code 19 = .ok (.iload_n 1, 1) := by decide +kernel
theorem d_Mo_restart_20 : decode prog_8_method_27_code 20 = .ok (.iaload, 1) := by decide +kernel
theorem d_Mo_restart_21 : decode prog_8_method_27_code 21 = .ok (.iconst (-1), 1) := by decide +kernel
theorem d_Mo_restart_22 : decode prog_8_method_27_code 22 = .ok (.if_icmp .ne 5, 3) := by decide +kernel
theorem d_Mo_restart_25 : decode prog_8_method_27_code 25 = .ok (.iconst 0, 1) := by decide +kernel
theorem d_Mo_restart_26 : decode prog_8_method_27_code 26 = .ok (.ireturn, 1) := by decide +kernel
theorem d_Mo_restart_27 : decode prog_8_method_27_code 27 = .ok (.aload_n 0, 1) := by decide +kernel
theorem d_Mo_restart_28 : decode prog_8_method_27_code 28 = .ok (.getfield 51, 3) := by decide +kernel
theorem d_Mo_restart_31 : decode prog_8_method_27_code 31 = .ok (.iload_n 1, 1) := by decide +kernel
theorem d_Mo_restart_32 : decode prog_8_method_27_code 32 = .ok (.iconst (-1), 1) := by decide +kernel
theorem d_Mo_restart_33 : decode prog_8_method_27_code 33 = .ok (.iastore, 1) := by decide +kernel
theorem d_Mo_restart_34 : decode prog_8_method_27_code 34 = .ok (.iconst 1, 1) := by decide +kernel
theorem d_Mo_restart_35 : decode prog_8_method_27_code 35 = .ok (.ireturn, 1) := by decide +kernel
theorem d_Mo_held_0 : decode prog_8_method_28_code 0 = .ok (.aload_n 0, 1) := by decide +kernel
theorem d_Mo_held_1 : decode prog_8_method_28_code 1 = .ok (.iload_n 1, 1) := by decide +kernel
theorem d_Mo_held_2 : decode prog_8_method_28_code 2 = .ok (.invokevirtual 90, 3) := by decide +kernel
theorem d_Mo_held_5 : decode prog_8_method_28_code 5 = .ok (.ifCond .eq 19, 3) := by decide +kernel
theorem d_Mo_held_8 : decode prog_8_method_28_code 8 = .ok (.aload_n 0, 1) := by decide +kernel
theorem d_Mo_held_9 : decode prog_8_method_28_code 9 = .ok (.getfield 83, 3) := by decide +kernel
theorem d_Mo_held_12 : decode prog_8_method_28_code 12 = .ok (.ifCond .ne 12, 3) := by decide +kernel
theorem d_Mo_held_15 : decode prog_8_method_28_code 15 = .ok (.aload_n 0, 1) := by decide +kernel
theorem d_Mo_held_16 : decode prog_8_method_28_code 16 = .ok (.getfield 51, 3) := by decide +kernel
theorem d_Mo_held_19 : decode prog_8_method_28_code 19 = .ok (.iload_n 1, 1) := by decide +kernel
theorem d_Mo_held_20 : decode prog_8_method_28_code 20 = .ok (.iaload, 1) := by decide +kernel
theorem d_Mo_held_21 : decode prog_8_method_28_code 21 = .ok (.goto 4, 3) := by decide +kernel
theorem d_Mo_held_24 : decode prog_8_method_28_code 24 = .ok (.iconst (-1), 1) := by decide +kernel
theorem d_Mo_held_25 : decode prog_8_method_28_code 25 = .ok (.ireturn, 1) := by decide +kernel
theorem d_Mo_log_0 : decode prog_8_method_29_code 0 = .ok (.iload_n 1, 1) := by decide +kernel
theorem d_Mo_log_1 : decode prog_8_method_29_code 1 = .ok (.iconst 0, 1) := by decide +kernel
theorem d_Mo_log_2 : decode prog_8_method_29_code 2 = .ok (.aload_n 0, 1) := by decide +kernel
theorem d_Mo_log_3 : decode prog_8_method_29_code 3 = .ok (.getfield 115, 3) := by decide +kernel
theorem d_Mo_log_6 : decode prog_8_method_29_code 6 = .ok (.iconst 1, 1) := by decide +kernel
theorem d_Mo_log_7 : decode prog_8_method_29_code 7 = .ok (.isub, 1) := by decide +kernel
theorem d_Mo_log_8 : decode prog_8_method_29_code 8 = .ok (.invokestatic 79, 3) := by decide +kernel
theorem d_Mo_log_11 : decode prog_8_method_29_code 11 = .ok (.ifCond .ne 5, 3) := by decide +kernel
theorem d_Mo_log_14 : decode prog_8_method_29_code 14 = .ok (.iconst (-1), 1) := by decide +kernel
theorem d_Mo_log_15 : decode prog_8_method_29_code 15 = .ok (.ireturn, 1) := by decide +kernel
theorem d_Mo_log_16 : decode prog_8_method_29_code 16 = .ok (.iload_n 2, 1) := by decide +kernel
theorem d_Mo_log_17 : decode prog_8_method_29_code 17 = .ok (.ifCond .ne 12, 3) := by decide +kernel
theorem d_Mo_log_20 : decode prog_8_method_29_code 20 = .ok (.aload_n 0, 1) := by decide +kernel
theorem d_Mo_log_21 : decode prog_8_method_29_code 21 = .ok (.getfield 54, 3) := by decide +kernel
theorem d_Mo_log_24 : decode prog_8_method_29_code 24 = .ok (.iload_n 1, 1) := by decide +kernel
theorem d_Mo_log_25 : decode prog_8_method_29_code 25 = .ok (.iaload, 1) := by decide +kernel
theorem d_Mo_log_26 : decode prog_8_method_29_code 26 = .ok (.goto 32, 3) := by decide +kernel
theorem d_Mo_log_29 : decode prog_8_method_29_code 29 = .ok (.iload_n 2, 1) := by decide +kernel
theorem d_Mo_log_30 : decode prog_8_method_29_code 30 = .ok (.iconst 1, 1) := by decide +kernel
theorem d_Mo_log_31 : decode prog_8_method_29_code 31 = .ok (.if_icmp .ne 12, 3) := by decide +kernel
theorem d_Mo_log_34 : decode prog_8_method_29_code 34 = .ok (.aload_n 0, 1) := by decide +kernel
theorem d_Mo_log_35 : decode prog_8_method_29_code 35 = .ok (.getfield 57, 3) := by decide +kernel
theorem d_Mo_log_38 : decode prog_8_method_29_code 38 = .ok (.iload_n 1, 1) := by decide +kernel
theorem d_Mo_log_39 : decode prog_8_method_29_code 39 = .ok (.iaload, 1) := by decide +kernel
theorem d_Mo_log_40 : decode prog_8_method_29_code 40 = .ok (.goto 18, 3) := by decide +kernel
theorem d_Mo_log_43 : decode prog_8_method_29_code 43 = .ok (.iload_n 2, 1) := by decide +kernel
theorem d_Mo_log_44 : decode prog_8_method_29_code 44 = .ok (.iconst 2, 1) := by decide +kernel
theorem d_Mo_log_45 : decode prog_8_method_29_code 45 = .ok (.if_icmp .ne 12, 3) := by decide +kernel
theorem d_Mo_log_48 : decode prog_8_method_29_code 48 = .ok (.aload_n 0, 1) := by decide +kernel
theorem d_Mo_log_49 : decode prog_8_method_29_code 49 = .ok (.getfield 60, 3) := by decide +kernel
theorem d_Mo_log_52 : decode prog_8_method_29_code 52 = .ok (.iload_n 1, 1) := by decide +kernel
theorem d_Mo_log_53 : decode prog_8_method_29_code 53 = .ok (.iaload, 1) := by decide +kernel
theorem d_Mo_log_54 : decode prog_8_method_29_code 54 = .ok (.goto 4, 3) := by decide +kernel
theorem d_Mo_log_57 : decode prog_8_method_29_code 57 = .ok (.iconst (-1), 1) := by decide +kernel
theorem d_Mo_log_58 : decode prog_8_method_29_code 58 = .ok (.ireturn, 1) := by decide +kernel
theorem d_Mo_count_0 : decode prog_8_method_30_code 0 = .ok (.iload_n 1, 1) := by decide +kernel
theorem d_Mo_count_1 : decode prog_8_method_30_code 1 = .ok (.iconst 4, 1) := by decide +kernel
theorem d_Mo_count_2 : decode prog_8_method_30_code 2 = .ok (.iconst 3, 1) := by decide +kernel
theorem d_Mo_count_3 : decode prog_8_method_30_code 3 = .ok (.aload_n 0, 1) := by decide +kernel
theorem d_Mo_count_4 : decode prog_8_method_30_code 4 = .ok (.getfield 75, 3) := by decide +kernel
theorem d_Mo_count_7 : decode prog_8_method_30_code 7 = .ok (.iadd, 1) := by decide +kernel
theorem d_Mo_count_8 : decode prog_8_method_30_code 8 = .ok (.invokestatic 79, 3) := by decide +kernel
theorem d_Mo_count_11 : decode prog_8_method_30_code 11 = .ok (.ifCond .eq 12, 3) := by decide +kernel
theorem d_Mo_count_14 : decode prog_8_method_30_code 14 = .ok (.aload_n 0, 1) := by decide +kernel
theorem d_Mo_count_15 : decode prog_8_method_30_code 15 = .ok (.getfield 45, 3) := by decide +kernel
theorem d_Mo_count_18 : decode prog_8_method_30_code 18 = .ok (.iload_n 1, 1) := by decide +kernel
theorem d_Mo_count_19 : decode prog_8_method_30_code 19 = .ok (.iconst 4, 1) := by decide +kernel
theorem d_Mo_count_20 : decode prog_8_method_30_code 20 = .ok (.isub, 1) := by decide +kernel
theorem d_Mo_count_21 : decode prog_8_method_30_code 21 = .ok (.iaload, 1) := by decide +kernel
theorem d_Mo_count_22 : decode prog_8_method_30_code 22 = .ok (.ireturn, 1) := by decide +kernel
theorem d_Mo_count_23 : decode prog_8_method_30_code 23 = .ok (.iload_n 1, 1) := by decide +kernel
theorem d_Mo_count_24 : decode prog_8_method_30_code 24 = .ok (.ifCond .ne 10, 3) := by decide +kernel
theorem d_Mo_count_27 : decode prog_8_method_30_code 27 = .ok (.aload_n 0, 1) := by decide +kernel
theorem d_Mo_count_28 : decode prog_8_method_30_code 28 = .ok (.getfield 106, 3) := by decide +kernel
theorem d_Mo_count_31 : decode prog_8_method_30_code 31 = .ok (.goto 40, 3) := by decide +kernel
theorem d_Mo_count_34 : decode prog_8_method_30_code 34 = .ok (.iload_n 1, 1) := by decide +kernel
theorem d_Mo_count_35 : decode prog_8_method_30_code 35 = .ok (.iconst 1, 1) := by decide +kernel
theorem d_Mo_count_36 : decode prog_8_method_30_code 36 = .ok (.if_icmp .ne 10, 3) := by decide +kernel
theorem d_Mo_count_39 : decode prog_8_method_30_code 39 = .ok (.aload_n 0, 1) := by decide +kernel
theorem d_Mo_count_40 : decode prog_8_method_30_code 40 = .ok (.getfield 115, 3) := by decide +kernel
theorem d_Mo_count_43 : decode prog_8_method_30_code 43 = .ok (.goto 28, 3) := by decide +kernel
theorem d_Mo_count_46 : decode prog_8_method_30_code 46 = .ok (.iload_n 1, 1) := by decide +kernel
theorem d_Mo_count_47 : decode prog_8_method_30_code 47 = .ok (.iconst 2, 1) := by decide +kernel
theorem d_Mo_count_48 : decode prog_8_method_30_code 48 = .ok (.if_icmp .ne 10, 3) := by decide +kernel
theorem d_Mo_count_51 : decode prog_8_method_30_code 51 = .ok (.aload_n 0, 1) := by decide +kernel
theorem d_Mo_count_52 : decode prog_8_method_30_code 52 = .ok (.getfield 87, 3) := by decide +kernel
theorem d_Mo_count_55 : decode prog_8_method_30_code 55 = .ok (.goto 16, 3) := by decide +kernel
theorem d_Mo_count_58 : decode prog_8_method_30_code 58 = .ok (.iload_n 1, 1) := by decide +kernel
theorem d_Mo_count_59 : decode prog_8_method_30_code 59 = .ok (.iconst 3, 1) := by decide +kernel
theorem d_Mo_count_60 : decode prog_8_method_30_code 60 = .ok (.if_icmp .ne 10, 3) := by decide +kernel
theorem d_Mo_count_63 : decode prog_8_method_30_code 63 = .ok (.aload_n 0, 1) := by decide +kernel
theorem d_Mo_count_64 : decode prog_8_method_30_code 64 = .ok (.invokevirtual 142, 3) := by decide +kernel
theorem d_Mo_count_67 : decode prog_8_method_30_code 67 = .ok (.goto 4, 3) := by decide +kernel
theorem d_Mo_count_70 : decode prog_8_method_30_code 70 = .ok (.iconst (-1), 1) := by decide +kernel
theorem d_Mo_count_71 : decode prog_8_method_30_code 71 = .ok (.ireturn, 1) := by decide +kernel
theorem d_Mo_close_0 : decode prog_8_method_31_code 0 = .ok (.iconst 0, 1) := by decide +kernel
theorem d_Mo_close_1 : decode prog_8_method_31_code 1 = .ok (.istore_n 1, 1) := by decide +kernel
theorem d_Mo_close_2 : decode prog_8_method_31_code 2 = .ok (.iconst 0, 1) := by decide +kernel
theorem d_Mo_close_3 : decode prog_8_method_31_code 3 = .ok (.istore_n 2, 1) := by decide +kernel
theorem d_Mo_close_4 : decode prog_8_method_31_code 4 = .ok (.iload_n 2, 1) := by decide +kernel
theorem d_Mo_close_5 : decode prog_8_method_31_code 5 = .ok (.aload_n 0, 1) := by decide +kernel
theorem d_Mo_close_6 : decode prog_8_method_31_code 6 = .ok (.getfield 75, 3) := by decide +kernel
theorem d_Mo_close_9 : decode prog_8_method_31_code 9 = .ok (.if_icmp .ge 42, 3) := by decide +kernel
theorem d_Mo_close_12 : decode prog_8_method_31_code 12 = .ok (.aload_n 0, 1) := by decide +kernel
theorem d_Mo_close_13 : decode prog_8_method_31_code 13 = .ok (.getfield 83, 3) := by decide +kernel
theorem d_Mo_close_16 : decode prog_8_method_31_code 16 = .ok (.ifCond .ne 35, 3) := by decide +kernel
theorem d_Mo_close_19 : decode prog_8_method_31_code 19 = .ok (.iload_n 1, 1) := by decide +kernel
theorem d_Mo_close_20 : decode prog_8_method_31_code 20 = .ok (.aload_n 0, 1) := by decide +kernel
theorem d_Mo_close_21 : decode prog_8_method_31_code 21 = .ok (.iload_n 2, 1) := by decide +kernel
theorem d_Mo_close_22 : decode prog_8_method_31_code 22 = .ok (.invokevirtual 112, 3) := by decide +kernel
theorem d_Mo_close_25 : decode prog_8_method_31_code 25 = .ok (.ifCond .ne 13, 3) := by decide +kernel
theorem d_Mo_close_28 : decode prog_8_method_31_code 28 = .ok (.aload_n 0, 1) := by decide +kernel
theorem d_Mo_close_29 : decode prog_8_method_31_code 29 = .ok (.getfield 51, 3) := by decide +kernel
theorem d_Mo_close_32 : decode prog_8_method_31_code 32 = .ok (.iload_n 2, 1) := by decide +kernel
theorem d_Mo_close_33 : decode prog_8_method_31_code 33 = .ok (.iaload, 1) := by decide +kernel
theorem d_Mo_close_34 : decode prog_8_method_31_code 34 = .ok (.iconst (-1), 1) := by decide +kernel
theorem d_Mo_close_35 : decode prog_8_method_31_code 35 = .ok (.if_icmp .eq 7, 3) := by decide +kernel
theorem d_Mo_close_38 : decode prog_8_method_31_code 38 = .ok (.iconst 1, 1) := by decide +kernel
theorem d_Mo_close_39 : decode prog_8_method_31_code 39 = .ok (.goto 4, 3) := by decide +kernel
theorem d_Mo_close_42 : decode prog_8_method_31_code 42 = .ok (.iconst 0, 1) := by decide +kernel
theorem d_Mo_close_43 : decode prog_8_method_31_code 43 = .ok (.iadd, 1) := by decide +kernel
theorem d_Mo_close_44 : decode prog_8_method_31_code 44 = .ok (.istore_n 1, 1) := by decide +kernel
theorem d_Mo_close_45 : decode prog_8_method_31_code 45 = .ok (.iinc 2 1, 3) := by decide +kernel
theorem d_Mo_close_48 : decode prog_8_method_31_code 48 = .ok (.goto (-44), 3) := by decide +kernel
theorem d_Mo_close_51 : decode prog_8_method_31_code 51 = .ok (.aload_n 0, 1) := by decide +kernel
theorem d_Mo_close_52 : decode prog_8_method_31_code 52 = .ok (.getfield 83, 3) := by decide +kernel
theorem d_Mo_close_55 : decode prog_8_method_31_code 55 = .ok (.ifCond .ne 50, 3) := by decide +kernel
theorem d_Mo_close_58 : decode prog_8_method_31_code 58 = .ok (.iconst 0, 1) := by decide +kernel
theorem d_Mo_close_59 : decode prog_8_method_31_code 59 = .ok (.istore_n 2, 1) := by decide +kernel
theorem d_Mo_close_60 : decode prog_8_method_31_code 60 = .ok (.iload_n 2, 1) := by decide +kernel
theorem d_Mo_close_61 : decode prog_8_method_31_code 61 = .ok (.bipush 32, 2) := by decide +kernel
theorem d_Mo_close_63 : decode prog_8_method_31_code 63 = .ok (.if_icmp .ge 21, 3) := by decide +kernel
theorem d_Mo_close_66 : decode prog_8_method_31_code 66 = .ok (.aload_n 0, 1) := by decide +kernel
theorem d_Mo_close_67 : decode prog_8_method_31_code 67 = .ok (.getfield 7, 3) := by decide +kernel
theorem d_Mo_close_70 : decode prog_8_method_31_code 70 = .ok (.iload_n 2, 1) := by decide +kernel
theorem d_Mo_close_71 : decode prog_8_method_31_code 71 = .ok (.aload_n 0, 1) := by decide +kernel
theorem d_Mo_close_72 : decode prog_8_method_31_code 72 = .ok (.getfield 13, 3) := by decide +kernel
theorem d_Mo_close_75 : decode prog_8_method_31_code 75 = .ok (.iload_n 2, 1) := by decide +kernel
theorem d_Mo_close_76 : decode prog_8_method_31_code 76 = .ok (.laload, 1) := by decide +kernel
theorem d_Mo_close_77 : decode prog_8_method_31_code 77 = .ok (.lastore, 1) := by decide +kernel
theorem d_Mo_close_78 : decode prog_8_method_31_code 78 = .ok (.iinc 2 1, 3) := by decide +kernel
theorem d_Mo_close_81 : decode prog_8_method_31_code 81 = .ok (.goto (-21), 3) := by decide +kernel
theorem d_Mo_close_84 : decode prog_8_method_31_code 84 = .ok (.iconst 0, 1) := by decide +kernel
theorem d_Mo_close_85 : decode prog_8_method_31_code 85 = .ok (.istore_n 2, 1) := by decide +kernel
theorem d_Mo_close_86 : decode prog_8_method_31_code 86 = .ok (.iload_n 2, 1) := by decide +kernel
theorem d_Mo_close_87 : decode prog_8_method_31_code 87 = .ok (.bipush 16, 2) := by decide +kernel
theorem d_Mo_close_89 : decode prog_8_method_31_code 89 = .ok (.if_icmp .ge 16, 3) := by decide +kernel
theorem d_Mo_close_92 : decode prog_8_method_31_code 92 = .ok (.aload_n 0, 1) := by decide +kernel
theorem d_Mo_close_93 : decode prog_8_method_31_code 93 = .ok (.getfield 16, 3) := by decide +kernel
theorem d_Mo_close_96 : decode prog_8_method_31_code 96 = .ok (.iload_n 2, 1) := by decide +kernel
theorem d_Mo_close_97 : decode prog_8_method_31_code 97 = .ok (.iconst (-1), 1) := by decide +kernel
theorem d_Mo_close_98 : decode prog_8_method_31_code 98 = .ok (.iastore, 1) := by decide +kernel
theorem d_Mo_close_99 : decode prog_8_method_31_code 99 = .ok (.iinc 2 1, 3) := by decide +kernel
theorem d_Mo_close_102 : decode prog_8_method_31_code 102 = .ok (.goto (-16), 3) := by decide +kernel
theorem d_Mo_close_105 : decode prog_8_method_31_code 105 = .ok (.aload_n 0, 1) := by decide +kernel
theorem d_Mo_close_106 : decode prog_8_method_31_code 106 = .ok (.iconst 1, 1) := by decide +kernel
theorem d_Mo_close_107 : decode prog_8_method_31_code 107 = .ok (.putfield 83, 3) := by decide +kernel
theorem d_Mo_close_110 : decode prog_8_method_31_code 110 = .ok (.iload_n 1, 1) := by decide +kernel
theorem d_Mo_close_111 : decode prog_8_method_31_code 111 = .ok (.ireturn, 1) := by decide +kernel
end
section
theorem d_La_cell_0 : decode method_2_code 0 = .ok (.iload_n 1, 1) := by decide +kernel
theorem d_La_cell_1 : decode method_2_code 1 = .ok (.aload_n 0, 1) := by decide +kernel
theorem d_La_cell_2 : decode method_2_code 2 = .ok (.arraylength, 1) := by decide +kernel
theorem d_La_cell_3 : decode method_2_code 3 = .ok (.if_icmp .ge 9, 3) := by decide +kernel
theorem d_La_cell_6 : decode method_2_code 6 = .ok (.aload_n 0, 1) := by decide +kernel
theorem d_La_cell_7 : decode method_2_code 7 = .ok (.iload_n 1, 1) := by decide +kernel
theorem d_La_cell_8 : decode method_2_code 8 = .ok (.iaload, 1) := by decide +kernel
theorem d_La_cell_9 : decode method_2_code 9 = .ok (.goto 4, 3) := by decide +kernel
theorem d_La_cell_12 : decode method_2_code 12 = .ok (.iconst 0, 1) := by decide +kernel
theorem d_La_cell_13 : decode method_2_code 13 = .ok (.ireturn, 1) := by decide +kernel
theorem d_La_law_0 : decode code 0 = .ok (.new 7, 3) := by decide +kernel
theorem d_La_law_3 : decode code 3 = .ok (.dup, 1) := by decide +kernel
theorem d_La_law_4 : decode code 4 = .ok (.aload_n 0, 1) := by decide +kernel
theorem d_La_law_5 : decode code 5 = .ok (.iconst 0, 1) := by decide +kernel
theorem d_La_law_6 : decode code 6 = .ok (.invokestatic 9, 3) := by decide +kernel
theorem d_La_law_9 : decode code 9 = .ok (.invokespecial 15, 3) := by decide +kernel
theorem d_La_law_12 : decode code 12 = .ok (.astore_n 1, 1) := by decide +kernel
theorem d_La_law_13 : decode code 13 = .ok (.new 18, 3) := by decide +kernel
theorem d_La_law_16 : decode code 16 = .ok (.dup, 1) := by decide +kernel
theorem d_La_law_17 : decode code 17 = .ok (.aload_n 0, 1) := by decide +kernel
theorem d_La_law_18 : decode code 18 = .ok (.iconst 0, 1) := by decide +kernel
theorem d_La_law_19 : decode code 19 = .ok (.invokestatic 9, 3) := by decide +kernel
theorem d_La_law_22 : decode code 22 = .ok (.invokespecial 20, 3) := by decide +kernel
theorem d_La_law_25 : decode code 25 = .ok (.astore_n 2, 1) := by decide +kernel
theorem d_La_law_26 : decode code 26 = .ok (.iconst 1, 1) := by decide +kernel
theorem d_La_law_27 : decode code 27 = .ok (.istore_n 3, 1) := by decide +kernel
theorem d_La_law_28 : decode code 28 = .ok (.iload_n 3, 1) := by decide +kernel
theorem d_La_law_29 : decode code 29 = .ok (.aload_n 0, 1) := by decide +kernel
theorem d_La_law_30 : decode code 30 = .ok (.arraylength, 1) := by decide +kernel
theorem d_La_law_31 : decode code 31 = .ok (.bipush 6, 2) := by decide +kernel
theorem d_La_law_33 : decode code 33 = .ok (.isub, 1) := by decide +kernel
theorem d_La_law_34 : decode code 34 = .ok (.if_icmp .gt 607, 3) := by decide +kernel
theorem d_La_law_37 : decode code 37 = .ok (.aload_n 0, 1) := by decide +kernel
theorem d_La_law_38 : decode code 38 = .ok (.iload_n 3, 1) := by decide +kernel
theorem d_La_law_39 : decode code 39 = .ok (.iaload, 1) := by decide +kernel
theorem d_La_law_40 : decode code 40 = .ok (.bipush 15, 2) := by decide +kernel
theorem d_La_law_42 : decode code 42 = .ok (.iand, 1) := by decide +kernel
theorem d_La_law_43 : decode code 43 = .ok (.tableswitch 592 0 13 #[69, 152, 195, 228, 291, 324, 387, 421, 454, 477, 500, 523, 556, 579], 69) := by decide +kernel
theorem d_La_law_112 : decode code 112 = .ok (.aload_n 1, 1) := by decide +kernel
theorem d_La_law_113 : decode code 113 = .ok (.aload_n 0, 1) := by decide +kernel
theorem d_La_law_114 : decode code 114 = .ok (.iload_n 3, 1) := by decide +kernel
theorem d_La_law_115 : decode code 115 = .ok (.iconst 1, 1) := by decide +kernel
theorem d_La_law_116 : decode code 116 = .ok (.iadd, 1) := by decide +kernel
theorem d_La_law_117 : decode code 117 = .ok (.iaload, 1) := by decide +kernel
theorem d_La_law_118 : decode code 118 = .ok (.aload_n 0, 1) := by decide +kernel
theorem d_La_law_119 : decode code 119 = .ok (.iload_n 3, 1) := by decide +kernel
theorem d_La_law_120 : decode code 120 = .ok (.iconst 2, 1) := by decide +kernel
theorem d_La_law_121 : decode code 121 = .ok (.iadd, 1) := by decide +kernel
theorem d_La_law_122 : decode code 122 = .ok (.iaload, 1) := by decide +kernel
theorem d_La_law_123 : decode code 123 = .ok (.aload_n 0, 1) := by decide +kernel
theorem d_La_law_124 : decode code 124 = .ok (.iload_n 3, 1) := by decide +kernel
theorem d_La_law_125 : decode code 125 = .ok (.iconst 3, 1) := by decide +kernel
theorem d_La_law_126 : decode code 126 = .ok (.iadd, 1) := by decide +kernel
theorem d_La_law_127 : decode code 127 = .ok (.iaload, 1) := by decide +kernel
theorem d_La_law_128 : decode code 128 = .ok (.aload_n 0, 1) := by decide +kernel
theorem d_La_law_129 : decode code 129 = .ok (.iload_n 3, 1) := by decide +kernel
theorem d_La_law_130 : decode code 130 = .ok (.iconst 4, 1) := by decide +kernel
theorem d_La_law_131 : decode code 131 = .ok (.iadd, 1) := by decide +kernel
theorem d_La_law_132 : decode code 132 = .ok (.iaload, 1) := by decide +kernel
theorem d_La_law_133 : decode code 133 = .ok (.i2l, 1) := by decide +kernel
theorem d_La_law_134 : decode code 134 = .ok (.bipush 32, 2) := by decide +kernel
theorem d_La_law_136 : decode code 136 = .ok (.lshl, 1) := by decide +kernel
theorem d_La_law_137 : decode code 137 = .ok (.aload_n 0, 1) := by decide +kernel
theorem d_La_law_138 : decode code 138 = .ok (.iload_n 3, 1) := by decide +kernel
theorem d_La_law_139 : decode code 139 = .ok (.iconst 5, 1) := by decide +kernel
theorem d_La_law_140 : decode code 140 = .ok (.iadd, 1) := by decide +kernel
theorem d_La_law_141 : decode code 141 = .ok (.iaload, 1) := by decide +kernel
theorem d_La_law_142 : decode code 142 = .ok (.i2l, 1) := by decide +kernel
theorem d_La_law_143 : decode code 143 = .ok (.ldc2_w 21, 3) := by decide +kernel
theorem d_La_law_146 : decode code 146 = .ok (.land, 1) := by decide +kernel
theorem d_La_law_147 : decode code 147 = .ok (.lor, 1) := by decide +kernel
theorem d_La_law_148 : decode code 148 = .ok (.invokevirtual 23, 3) := by decide +kernel
theorem d_La_law_151 : decode code 151 = .ok (.aload_n 2, 1) := by decide +kernel
theorem d_La_law_152 : decode code 152 = .ok (.aload_n 0, 1) := by decide +kernel
theorem d_La_law_153 : decode code 153 = .ok (.iload_n 3, 1) := by decide +kernel
theorem d_La_law_154 : decode code 154 = .ok (.iconst 1, 1) := by decide +kernel
theorem d_La_law_155 : decode code 155 = .ok (.iadd, 1) := by decide +kernel
theorem d_La_law_156 : decode code 156 = .ok (.iaload, 1) := by decide +kernel
theorem d_La_law_157 : decode code 157 = .ok (.aload_n 0, 1) := by decide +kernel
theorem d_La_law_158 : decode code 158 = .ok (.iload_n 3, 1) := by decide +kernel
theorem d_La_law_159 : decode code 159 = .ok (.iconst 2, 1) := by decide +kernel
theorem d_La_law_160 : decode code 160 = .ok (.iadd, 1) := by decide +kernel
theorem d_La_law_161 : decode code 161 = .ok (.iaload, 1) := by decide +kernel
theorem d_La_law_162 : decode code 162 = .ok (.aload_n 0, 1) := by decide +kernel
theorem d_La_law_163 : decode code 163 = .ok (.iload_n 3, 1) := by decide +kernel
theorem d_La_law_164 : decode code 164 = .ok (.iconst 3, 1) := by decide +kernel
theorem d_La_law_165 : decode code 165 = .ok (.iadd, 1) := by decide +kernel
theorem d_La_law_166 : decode code 166 = .ok (.iaload, 1) := by decide +kernel
theorem d_La_law_167 : decode code 167 = .ok (.aload_n 0, 1) := by decide +kernel
theorem d_La_law_168 : decode code 168 = .ok (.iload_n 3, 1) := by decide +kernel
theorem d_La_law_169 : decode code 169 = .ok (.iconst 4, 1) := by decide +kernel
theorem d_La_law_170 : decode code 170 = .ok (.iadd, 1) := by decide +kernel
theorem d_La_law_171 : decode code 171 = .ok (.iaload, 1) := by decide +kernel
theorem d_La_law_172 : decode code 172 = .ok (.i2l, 1) := by decide +kernel
theorem d_La_law_173 : decode code 173 = .ok (.bipush 32, 2) := by decide +kernel
theorem d_La_law_175 : decode code 175 = .ok (.lshl, 1) := by decide +kernel
theorem d_La_law_176 : decode code 176 = .ok (.aload_n 0, 1) := by decide +kernel
theorem d_La_law_177 : decode code 177 = .ok (.iload_n 3, 1) := by decide +kernel
theorem d_La_law_178 : decode code 178 = .ok (.iconst 5, 1) := by decide +kernel
theorem d_La_law_179 : decode code 179 = .ok (.iadd, 1) := by decide +kernel
theorem d_La_law_180 : decode code 180 = .ok (.iaload, 1) := by decide +kernel
theorem d_La_law_181 : decode code 181 = .ok (.i2l, 1) := by decide +kernel
theorem d_La_law_182 : decode code 182 = .ok (.ldc2_w 21, 3) := by decide +kernel
theorem d_La_law_185 : decode code 185 = .ok (.land, 1) := by decide +kernel
theorem d_La_law_186 : decode code 186 = .ok (.lor, 1) := by decide +kernel
theorem d_La_law_187 : decode code 187 = .ok (.invokevirtual 27, 3) := by decide +kernel
theorem d_La_law_190 : decode code 190 = .ok (.if_icmp .eq 445, 3) := by decide +kernel
theorem d_La_law_193 : decode code 193 = .ok (.iconst 0, 1) := by decide +kernel
theorem d_La_law_194 : decode code 194 = .ok (.ireturn, 1) := by decide +kernel
theorem d_La_law_195 : decode code 195 = .ok (.aload_n 1, 1) := by decide +kernel
theorem d_La_law_196 : decode code 196 = .ok (.aload_n 0, 1) := by decide +kernel
theorem d_La_law_197 : decode code 197 = .ok (.iload_n 3, 1) := by decide +kernel
theorem d_La_law_198 : decode code 198 = .ok (.iconst 1, 1) := by decide +kernel
theorem d_La_law_199 : decode code 199 = .ok (.iadd, 1) := by decide +kernel
theorem d_La_law_200 : decode code 200 = .ok (.iaload, 1) := by decide +kernel
theorem d_La_law_201 : decode code 201 = .ok (.aload_n 0, 1) := by decide +kernel
theorem d_La_law_202 : decode code 202 = .ok (.iload_n 3, 1) := by decide +kernel
theorem d_La_law_203 : decode code 203 = .ok (.iconst 2, 1) := by decide +kernel
theorem d_La_law_204 : decode code 204 = .ok (.iadd, 1) := by decide +kernel
theorem d_La_law_205 : decode code 205 = .ok (.iaload, 1) := by decide +kernel
theorem d_La_law_206 : decode code 206 = .ok (.aload_n 0, 1) := by decide +kernel
theorem d_La_law_207 : decode code 207 = .ok (.iload_n 3, 1) := by decide +kernel
theorem d_La_law_208 : decode code 208 = .ok (.iconst 3, 1) := by decide +kernel
theorem d_La_law_209 : decode code 209 = .ok (.iadd, 1) := by decide +kernel
theorem d_La_law_210 : decode code 210 = .ok (.iaload, 1) := by decide +kernel
theorem d_La_law_211 : decode code 211 = .ok (.invokevirtual 28, 3) := by decide +kernel
theorem d_La_law_214 : decode code 214 = .ok (.aload_n 2, 1) := by decide +kernel
theorem d_La_law_215 : decode code 215 = .ok (.aload_n 0, 1) := by decide +kernel
theorem d_La_law_216 : decode code 216 = .ok (.iload_n 3, 1) := by decide +kernel
theorem d_La_law_217 : decode code 217 = .ok (.iconst 1, 1) := by decide +kernel
theorem d_La_law_218 : decode code 218 = .ok (.iadd, 1) := by decide +kernel
theorem d_La_law_219 : decode code 219 = .ok (.iaload, 1) := by decide +kernel
theorem d_La_law_220 : decode code 220 = .ok (.aload_n 0, 1) := by decide +kernel
theorem d_La_law_221 : decode code 221 = .ok (.iload_n 3, 1) := by decide +kernel
theorem d_La_law_222 : decode code 222 = .ok (.iconst 2, 1) := by decide +kernel
theorem d_La_law_223 : decode code 223 = .ok (.iadd, 1) := by decide +kernel
theorem d_La_law_224 : decode code 224 = .ok (.iaload, 1) := by decide +kernel
theorem d_La_law_225 : decode code 225 = .ok (.aload_n 0, 1) := by decide +kernel
theorem d_La_law_226 : decode code 226 = .ok (.iload_n 3, 1) := by decide +kernel
theorem d_La_law_227 : decode code 227 = .ok (.iconst 3, 1) := by decide +kernel
theorem d_La_law_228 : decode code 228 = .ok (.iadd, 1) := by decide +kernel
theorem d_La_law_229 : decode code 229 = .ok (.iaload, 1) := by decide +kernel
theorem d_La_law_230 : decode code 230 = .ok (.invokevirtual 32, 3) := by decide +kernel
theorem d_La_law_233 : decode code 233 = .ok (.if_icmp .eq 402, 3) := by decide +kernel
theorem d_La_law_236 : decode code 236 = .ok (.iconst 0, 1) := by decide +kernel
theorem d_La_law_237 : decode code 237 = .ok (.ireturn, 1) := by decide +kernel
theorem d_La_law_238 : decode code 238 = .ok (.aload_n 1, 1) := by decide +kernel
theorem d_La_law_239 : decode code 239 = .ok (.aload_n 0, 1) := by decide +kernel
theorem d_La_law_240 : decode code 240 = .ok (.iload_n 3, 1) := by decide +kernel
theorem d_La_law_241 : decode code 241 = .ok (.iconst 1, 1) := by decide +kernel
theorem d_La_law_242 : decode code 242 = .ok (.iadd, 1) := by decide +kernel
theorem d_La_law_243 : decode code 243 = .ok (.iaload, 1) := by decide +kernel
theorem d_La_law_244 : decode code 244 = .ok (.aload_n 0, 1) := by decide +kernel
theorem d_La_law_245 : decode code 245 = .ok (.iload_n 3, 1) := by decide +kernel
theorem d_La_law_246 : decode code 246 = .ok (.iconst 2, 1) := by decide +kernel
theorem d_La_law_247 : decode code 247 = .ok (.iadd, 1) := by decide +kernel
theorem d_La_law_248 : decode code 248 = .ok (.iaload, 1) := by decide +kernel
theorem d_La_law_249 : decode code 249 = .ok (.invokevirtual 33, 3) := by decide +kernel
theorem d_La_law_252 : decode code 252 = .ok (.aload_n 2, 1) := by decide +kernel
theorem d_La_law_253 : decode code 253 = .ok (.aload_n 0, 1) := by decide +kernel
theorem d_La_law_254 : decode code 254 = .ok (.iload_n 3, 1) := by decide +kernel
theorem d_La_law_255 : decode code 255 = .ok (.iconst 1, 1) := by decide +kernel
theorem d_La_law_256 : decode code 256 = .ok (.iadd, 1) := by decide +kernel
theorem d_La_law_257 : decode code 257 = .ok (.iaload, 1) := by decide +kernel
theorem d_La_law_258 : decode code 258 = .ok (.aload_n 0, 1) := by decide +kernel
theorem d_La_law_259 : decode code 259 = .ok (.iload_n 3, 1) := by decide +kernel
theorem d_La_law_260 : decode code 260 = .ok (.iconst 2, 1) := by decide +kernel
theorem d_La_law_261 : decode code 261 = .ok (.iadd, 1) := by decide +kernel
theorem d_La_law_262 : decode code 262 = .ok (.iaload, 1) := by decide +kernel
theorem d_La_law_263 : decode code 263 = .ok (.invokevirtual 37, 3) := by decide +kernel
theorem d_La_law_266 : decode code 266 = .ok (.if_icmp .eq 369, 3) := by decide +kernel
theorem d_La_law_269 : decode code 269 = .ok (.iconst 0, 1) := by decide +kernel
theorem d_La_law_270 : decode code 270 = .ok (.ireturn, 1) := by decide +kernel
theorem d_La_law_271 : decode code 271 = .ok (.aload_n 1, 1) := by decide +kernel
theorem d_La_law_272 : decode code 272 = .ok (.aload_n 0, 1) := by decide +kernel
theorem d_La_law_273 : decode code 273 = .ok (.iload_n 3, 1) := by decide +kernel
theorem d_La_law_274 : decode code 274 = .ok (.iconst 1, 1) := by decide +kernel
theorem d_La_law_275 : decode code 275 = .ok (.iadd, 1) := by decide +kernel
theorem d_La_law_276 : decode code 276 = .ok (.iaload, 1) := by decide +kernel
theorem d_La_law_277 : decode code 277 = .ok (.aload_n 0, 1) := by decide +kernel
theorem d_La_law_278 : decode code 278 = .ok (.iload_n 3, 1) := by decide +kernel
theorem d_La_law_279 : decode code 279 = .ok (.iconst 2, 1) := by decide +kernel
theorem d_La_law_280 : decode code 280 = .ok (.iadd, 1) := by decide +kernel
theorem d_La_law_281 : decode code 281 = .ok (.iaload, 1) := by decide +kernel
theorem d_La_law_282 : decode code 282 = .ok (.i2l, 1) := by decide +kernel
theorem d_La_law_283 : decode code 283 = .ok (.bipush 32, 2) := by decide +kernel
theorem d_La_law_285 : decode code 285 = .ok (.lshl, 1) := by decide +kernel
theorem d_La_law_286 : decode code 286 = .ok (.aload_n 0, 1) := by decide +kernel
theorem d_La_law_287 : decode code 287 = .ok (.iload_n 3, 1) := by decide +kernel
theorem d_La_law_288 : decode code 288 = .ok (.iconst 3, 1) := by decide +kernel
theorem d_La_law_289 : decode code 289 = .ok (.iadd, 1) := by decide +kernel
theorem d_La_law_290 : decode code 290 = .ok (.iaload, 1) := by decide +kernel
theorem d_La_law_291 : decode code 291 = .ok (.i2l, 1) := by decide +kernel
theorem d_La_law_292 : decode code 292 = .ok (.ldc2_w 21, 3) := by decide +kernel
theorem d_La_law_295 : decode code 295 = .ok (.land, 1) := by decide +kernel
theorem d_La_law_296 : decode code 296 = .ok (.lor, 1) := by decide +kernel
theorem d_La_law_297 : decode code 297 = .ok (.invokevirtual 38, 3) := by decide +kernel
theorem d_La_law_300 : decode code 300 = .ok (.aload_n 2, 1) := by decide +kernel
theorem d_La_law_301 : decode code 301 = .ok (.aload_n 0, 1) := by decide +kernel
theorem d_La_law_302 : decode code 302 = .ok (.iload_n 3, 1) := by decide +kernel
theorem d_La_law_303 : decode code 303 = .ok (.iconst 1, 1) := by decide +kernel
theorem d_La_law_304 : decode code 304 = .ok (.iadd, 1) := by decide +kernel
theorem d_La_law_305 : decode code 305 = .ok (.iaload, 1) := by decide +kernel
theorem d_La_law_306 : decode code 306 = .ok (.aload_n 0, 1) := by decide +kernel
theorem d_La_law_307 : decode code 307 = .ok (.iload_n 3, 1) := by decide +kernel
theorem d_La_law_308 : decode code 308 = .ok (.iconst 2, 1) := by decide +kernel
theorem d_La_law_309 : decode code 309 = .ok (.iadd, 1) := by decide +kernel
theorem d_La_law_310 : decode code 310 = .ok (.iaload, 1) := by decide +kernel
theorem d_La_law_311 : decode code 311 = .ok (.i2l, 1) := by decide +kernel
theorem d_La_law_312 : decode code 312 = .ok (.bipush 32, 2) := by decide +kernel
theorem d_La_law_314 : decode code 314 = .ok (.lshl, 1) := by decide +kernel
theorem d_La_law_315 : decode code 315 = .ok (.aload_n 0, 1) := by decide +kernel
theorem d_La_law_316 : decode code 316 = .ok (.iload_n 3, 1) := by decide +kernel
theorem d_La_law_317 : decode code 317 = .ok (.iconst 3, 1) := by decide +kernel
theorem d_La_law_318 : decode code 318 = .ok (.iadd, 1) := by decide +kernel
theorem d_La_law_319 : decode code 319 = .ok (.iaload, 1) := by decide +kernel
theorem d_La_law_320 : decode code 320 = .ok (.i2l, 1) := by decide +kernel
theorem d_La_law_321 : decode code 321 = .ok (.ldc2_w 21, 3) := by decide +kernel
theorem d_La_law_324 : decode code 324 = .ok (.land, 1) := by decide +kernel
theorem d_La_law_325 : decode code 325 = .ok (.lor, 1) := by decide +kernel
theorem d_La_law_326 : decode code 326 = .ok (.invokevirtual 42, 3) := by decide +kernel
theorem d_La_law_329 : decode code 329 = .ok (.if_icmp .eq 306, 3) := by decide +kernel
theorem d_La_law_332 : decode code 332 = .ok (.iconst 0, 1) := by decide +kernel
theorem d_La_law_333 : decode code 333 = .ok (.ireturn, 1) := by decide +kernel
theorem d_La_law_334 : decode code 334 = .ok (.aload_n 1, 1) := by decide +kernel
theorem d_La_law_335 : decode code 335 = .ok (.aload_n 0, 1) := by decide +kernel
theorem d_La_law_336 : decode code 336 = .ok (.iload_n 3, 1) := by decide +kernel
theorem d_La_law_337 : decode code 337 = .ok (.iconst 1, 1) := by decide +kernel
theorem d_La_law_338 : decode code 338 = .ok (.iadd, 1) := by decide +kernel
theorem d_La_law_339 : decode code 339 = .ok (.iaload, 1) := by decide +kernel
theorem d_La_law_340 : decode code 340 = .ok (.aload_n 0, 1) := by decide +kernel
theorem d_La_law_341 : decode code 341 = .ok (.iload_n 3, 1) := by decide +kernel
theorem d_La_law_342 : decode code 342 = .ok (.iconst 2, 1) := by decide +kernel
theorem d_La_law_343 : decode code 343 = .ok (.iadd, 1) := by decide +kernel
theorem d_La_law_344 : decode code 344 = .ok (.iaload, 1) := by decide +kernel
theorem d_La_law_345 : decode code 345 = .ok (.invokevirtual 43, 3) := by decide +kernel
theorem d_La_law_348 : decode code 348 = .ok (.aload_n 2, 1) := by decide +kernel
theorem d_La_law_349 : decode code 349 = .ok (.aload_n 0, 1) := by decide +kernel
theorem d_La_law_350 : decode code 350 = .ok (.iload_n 3, 1) := by decide +kernel
theorem d_La_law_351 : decode code 351 = .ok (.iconst 1, 1) := by decide +kernel
theorem d_La_law_352 : decode code 352 = .ok (.iadd, 1) := by decide +kernel
theorem d_La_law_353 : decode code 353 = .ok (.iaload, 1) := by decide +kernel
theorem d_La_law_354 : decode code 354 = .ok (.aload_n 0, 1) := by decide +kernel
theorem d_La_law_355 : decode code 355 = .ok (.iload_n 3, 1) := by decide +kernel
theorem d_La_law_356 : decode code 356 = .ok (.iconst 2, 1) := by decide +kernel
theorem d_La_law_357 : decode code 357 = .ok (.iadd, 1) := by decide +kernel
theorem d_La_law_358 : decode code 358 = .ok (.iaload, 1) := by decide +kernel
theorem d_La_law_359 : decode code 359 = .ok (.invokevirtual 46, 3) := by decide +kernel
theorem d_La_law_362 : decode code 362 = .ok (.if_icmp .eq 273, 3) := by decide +kernel
theorem d_La_law_365 : decode code 365 = .ok (.iconst 0, 1) := by decide +kernel
theorem d_La_law_366 : decode code 366 = .ok (.ireturn, 1) := by decide +kernel
theorem d_La_law_367 : decode code 367 = .ok (.aload_n 1, 1) := by decide +kernel
theorem d_La_law_368 : decode code 368 = .ok (.aload_n 0, 1) := by decide +kernel
theorem d_La_law_369 : decode code 369 = .ok (.iload_n 3, 1) := by decide +kernel
theorem d_La_law_370 : decode code 370 = .ok (.iconst 1, 1) := by decide +kernel
theorem d_La_law_371 : decode code 371 = .ok (.iadd, 1) := by decide +kernel
theorem d_La_law_372 : decode code 372 = .ok (.iaload, 1) := by decide +kernel
theorem d_La_law_373 : decode code 373 = .ok (.i2l, 1) := by decide +kernel
theorem d_La_law_374 : decode code 374 = .ok (.bipush 32, 2) := by decide +kernel
theorem d_La_law_376 : decode code 376 = .ok (.lshl, 1) := by decide +kernel
theorem d_La_law_377 : decode code 377 = .ok (.aload_n 0, 1) := by decide +kernel
theorem d_La_law_378 : decode code 378 = .ok (.iload_n 3, 1) := by decide +kernel
theorem d_La_law_379 : decode code 379 = .ok (.iconst 2, 1) := by decide +kernel
theorem d_La_law_380 : decode code 380 = .ok (.iadd, 1) := by decide +kernel
theorem d_La_law_381 : decode code 381 = .ok (.iaload, 1) := by decide +kernel
theorem d_La_law_382 : decode code 382 = .ok (.i2l, 1) := by decide +kernel
theorem d_La_law_383 : decode code 383 = .ok (.ldc2_w 21, 3) := by decide +kernel
theorem d_La_law_386 : decode code 386 = .ok (.land, 1) := by decide +kernel
theorem d_La_law_387 : decode code 387 = .ok (.lor, 1) := by decide +kernel
theorem d_La_law_388 : decode code 388 = .ok (.aload_n 0, 1) := by decide +kernel
theorem d_La_law_389 : decode code 389 = .ok (.iload_n 3, 1) := by decide +kernel
theorem d_La_law_390 : decode code 390 = .ok (.iconst 3, 1) := by decide +kernel
theorem d_La_law_391 : decode code 391 = .ok (.iadd, 1) := by decide +kernel
theorem d_La_law_392 : decode code 392 = .ok (.iaload, 1) := by decide +kernel
theorem d_La_law_393 : decode code 393 = .ok (.invokevirtual 47, 3) := by decide +kernel
theorem d_La_law_396 : decode code 396 = .ok (.aload_n 2, 1) := by decide +kernel
theorem d_La_law_397 : decode code 397 = .ok (.aload_n 0, 1) := by decide +kernel
theorem d_La_law_398 : decode code 398 = .ok (.iload_n 3, 1) := by decide +kernel
theorem d_La_law_399 : decode code 399 = .ok (.iconst 1, 1) := by decide +kernel
theorem d_La_law_400 : decode code 400 = .ok (.iadd, 1) := by decide +kernel
theorem d_La_law_401 : decode code 401 = .ok (.iaload, 1) := by decide +kernel
theorem d_La_law_402 : decode code 402 = .ok (.i2l, 1) := by decide +kernel
theorem d_La_law_403 : decode code 403 = .ok (.bipush 32, 2) := by decide +kernel
theorem d_La_law_405 : decode code 405 = .ok (.lshl, 1) := by decide +kernel
theorem d_La_law_406 : decode code 406 = .ok (.aload_n 0, 1) := by decide +kernel
theorem d_La_law_407 : decode code 407 = .ok (.iload_n 3, 1) := by decide +kernel
theorem d_La_law_408 : decode code 408 = .ok (.iconst 2, 1) := by decide +kernel
theorem d_La_law_409 : decode code 409 = .ok (.iadd, 1) := by decide +kernel
theorem d_La_law_410 : decode code 410 = .ok (.iaload, 1) := by decide +kernel
theorem d_La_law_411 : decode code 411 = .ok (.i2l, 1) := by decide +kernel
theorem d_La_law_412 : decode code 412 = .ok (.ldc2_w 21, 3) := by decide +kernel
theorem d_La_law_415 : decode code 415 = .ok (.land, 1) := by decide +kernel
theorem d_La_law_416 : decode code 416 = .ok (.lor, 1) := by decide +kernel
theorem d_La_law_417 : decode code 417 = .ok (.aload_n 0, 1) := by decide +kernel
theorem d_La_law_418 : decode code 418 = .ok (.iload_n 3, 1) := by decide +kernel
theorem d_La_law_419 : decode code 419 = .ok (.iconst 3, 1) := by decide +kernel
theorem d_La_law_420 : decode code 420 = .ok (.iadd, 1) := by decide +kernel
theorem d_La_law_421 : decode code 421 = .ok (.iaload, 1) := by decide +kernel
theorem d_La_law_422 : decode code 422 = .ok (.invokevirtual 51, 3) := by decide +kernel
theorem d_La_law_425 : decode code 425 = .ok (.if_icmp .eq 210, 3) := by decide +kernel
theorem d_La_law_428 : decode code 428 = .ok (.iconst 0, 1) := by decide +kernel
theorem d_La_law_429 : decode code 429 = .ok (.ireturn, 1) := by decide +kernel
theorem d_La_law_430 : decode code 430 = .ok (.aload_n 1, 1) := by decide +kernel
theorem d_La_law_431 : decode code 431 = .ok (.aload_n 0, 1) := by decide +kernel
theorem d_La_law_432 : decode code 432 = .ok (.iload_n 3, 1) := by decide +kernel
theorem d_La_law_433 : decode code 433 = .ok (.iconst 1, 1) := by decide +kernel
theorem d_La_law_434 : decode code 434 = .ok (.iadd, 1) := by decide +kernel
theorem d_La_law_435 : decode code 435 = .ok (.iaload, 1) := by decide +kernel
theorem d_La_law_436 : decode code 436 = .ok (.aload_n 0, 1) := by decide +kernel
theorem d_La_law_437 : decode code 437 = .ok (.iload_n 3, 1) := by decide +kernel
theorem d_La_law_438 : decode code 438 = .ok (.iconst 2, 1) := by decide +kernel
theorem d_La_law_439 : decode code 439 = .ok (.iadd, 1) := by decide +kernel
theorem d_La_law_440 : decode code 440 = .ok (.iaload, 1) := by decide +kernel
theorem d_La_law_441 : decode code 441 = .ok (.invokevirtual 52, 3) := by decide +kernel
theorem d_La_law_444 : decode code 444 = .ok (.aload_n 2, 1) := by decide +kernel
theorem d_La_law_445 : decode code 445 = .ok (.aload_n 0, 1) := by decide +kernel
theorem d_La_law_446 : decode code 446 = .ok (.iload_n 3, 1) := by decide +kernel
theorem d_La_law_447 : decode code 447 = .ok (.iconst 1, 1) := by decide +kernel
theorem d_La_law_448 : decode code 448 = .ok (.iadd, 1) := by decide +kernel
theorem d_La_law_449 : decode code 449 = .ok (.iaload, 1) := by decide +kernel
theorem d_La_law_450 : decode code 450 = .ok (.aload_n 0, 1) := by decide +kernel
theorem d_La_law_451 : decode code 451 = .ok (.iload_n 3, 1) := by decide +kernel
theorem d_La_law_452 : decode code 452 = .ok (.iconst 2, 1) := by decide +kernel
theorem d_La_law_453 : decode code 453 = .ok (.iadd, 1) := by decide +kernel
theorem d_La_law_454 : decode code 454 = .ok (.iaload, 1) := by decide +kernel
theorem d_La_law_455 : decode code 455 = .ok (.invokevirtual 56, 3) := by decide +kernel
theorem d_La_law_458 : decode code 458 = .ok (.lcmp, 1) := by decide +kernel
theorem d_La_law_459 : decode code 459 = .ok (.ifCond .eq 176, 3) := by decide +kernel
theorem d_La_law_462 : decode code 462 = .ok (.iconst 0, 1) := by decide +kernel
theorem d_La_law_463 : decode code 463 = .ok (.ireturn, 1) := by decide +kernel
theorem d_La_law_464 : decode code 464 = .ok (.aload_n 1, 1) := by decide +kernel
theorem d_La_law_465 : decode code 465 = .ok (.aload_n 0, 1) := by decide +kernel
theorem d_La_law_466 : decode code 466 = .ok (.iload_n 3, 1) := by decide +kernel
theorem d_La_law_467 : decode code 467 = .ok (.iconst 1, 1) := by decide +kernel
theorem d_La_law_468 : decode code 468 = .ok (.iadd, 1) := by decide +kernel
theorem d_La_law_469 : decode code 469 = .ok (.iaload, 1) := by decide +kernel
theorem d_La_law_470 : decode code 470 = .ok (.aload_n 0, 1) := by decide +kernel
theorem d_La_law_471 : decode code 471 = .ok (.iload_n 3, 1) := by decide +kernel
theorem d_La_law_472 : decode code 472 = .ok (.iconst 2, 1) := by decide +kernel
theorem d_La_law_473 : decode code 473 = .ok (.iadd, 1) := by decide +kernel
theorem d_La_law_474 : decode code 474 = .ok (.iaload, 1) := by decide +kernel
theorem d_La_law_475 : decode code 475 = .ok (.invokevirtual 57, 3) := by decide +kernel
theorem d_La_law_478 : decode code 478 = .ok (.aload_n 2, 1) := by decide +kernel
theorem d_La_law_479 : decode code 479 = .ok (.aload_n 0, 1) := by decide +kernel
theorem d_La_law_480 : decode code 480 = .ok (.iload_n 3, 1) := by decide +kernel
theorem d_La_law_481 : decode code 481 = .ok (.iconst 1, 1) := by decide +kernel
theorem d_La_law_482 : decode code 482 = .ok (.iadd, 1) := by decide +kernel
theorem d_La_law_483 : decode code 483 = .ok (.iaload, 1) := by decide +kernel
theorem d_La_law_484 : decode code 484 = .ok (.aload_n 0, 1) := by decide +kernel
theorem d_La_law_485 : decode code 485 = .ok (.iload_n 3, 1) := by decide +kernel
theorem d_La_law_486 : decode code 486 = .ok (.iconst 2, 1) := by decide +kernel
theorem d_La_law_487 : decode code 487 = .ok (.iadd, 1) := by decide +kernel
theorem d_La_law_488 : decode code 488 = .ok (.iaload, 1) := by decide +kernel
theorem d_La_law_489 : decode code 489 = .ok (.invokevirtual 61, 3) := by decide +kernel
theorem d_La_law_492 : decode code 492 = .ok (.if_icmp .eq 143, 3) := by decide +kernel
theorem d_La_law_495 : decode code 495 = .ok (.iconst 0, 1) := by decide +kernel
theorem d_La_law_496 : decode code 496 = .ok (.ireturn, 1) := by decide +kernel
theorem d_La_law_497 : decode code 497 = .ok (.aload_n 1, 1) := by decide +kernel
theorem d_La_law_498 : decode code 498 = .ok (.aload_n 0, 1) := by decide +kernel
theorem d_La_law_499 : decode code 499 = .ok (.iload_n 3, 1) := by decide +kernel
theorem d_La_law_500 : decode code 500 = .ok (.iconst 1, 1) := by decide +kernel
theorem d_La_law_501 : decode code 501 = .ok (.iadd, 1) := by decide +kernel
theorem d_La_law_502 : decode code 502 = .ok (.iaload, 1) := by decide +kernel
theorem d_La_law_503 : decode code 503 = .ok (.invokevirtual 62, 3) := by decide +kernel
theorem d_La_law_506 : decode code 506 = .ok (.aload_n 2, 1) := by decide +kernel
theorem d_La_law_507 : decode code 507 = .ok (.aload_n 0, 1) := by decide +kernel
theorem d_La_law_508 : decode code 508 = .ok (.iload_n 3, 1) := by decide +kernel
theorem d_La_law_509 : decode code 509 = .ok (.iconst 1, 1) := by decide +kernel
theorem d_La_law_510 : decode code 510 = .ok (.iadd, 1) := by decide +kernel
theorem d_La_law_511 : decode code 511 = .ok (.iaload, 1) := by decide +kernel
theorem d_La_law_512 : decode code 512 = .ok (.invokevirtual 66, 3) := by decide +kernel
theorem d_La_law_515 : decode code 515 = .ok (.if_icmp .eq 120, 3) := by decide +kernel
theorem d_La_law_518 : decode code 518 = .ok (.iconst 0, 1) := by decide +kernel
theorem d_La_law_519 : decode code 519 = .ok (.ireturn, 1) := by decide +kernel
theorem d_La_law_520 : decode code 520 = .ok (.aload_n 1, 1) := by decide +kernel
theorem d_La_law_521 : decode code 521 = .ok (.aload_n 0, 1) := by decide +kernel
theorem d_La_law_522 : decode code 522 = .ok (.iload_n 3, 1) := by decide +kernel
theorem d_La_law_523 : decode code 523 = .ok (.iconst 1, 1) := by decide +kernel
theorem d_La_law_524 : decode code 524 = .ok (.iadd, 1) := by decide +kernel
theorem d_La_law_525 : decode code 525 = .ok (.iaload, 1) := by decide +kernel
theorem d_La_law_526 : decode code 526 = .ok (.invokevirtual 67, 3) := by decide +kernel
theorem d_La_law_529 : decode code 529 = .ok (.aload_n 2, 1) := by decide +kernel
theorem d_La_law_530 : decode code 530 = .ok (.aload_n 0, 1) := by decide +kernel
theorem d_La_law_531 : decode code 531 = .ok (.iload_n 3, 1) := by decide +kernel
theorem d_La_law_532 : decode code 532 = .ok (.iconst 1, 1) := by decide +kernel
theorem d_La_law_533 : decode code 533 = .ok (.iadd, 1) := by decide +kernel
theorem d_La_law_534 : decode code 534 = .ok (.iaload, 1) := by decide +kernel
theorem d_La_law_535 : decode code 535 = .ok (.invokevirtual 71, 3) := by decide +kernel
theorem d_La_law_538 : decode code 538 = .ok (.if_icmp .eq 97, 3) := by decide +kernel
theorem d_La_law_541 : decode code 541 = .ok (.iconst 0, 1) := by decide +kernel
theorem d_La_law_542 : decode code 542 = .ok (.ireturn, 1) := by decide +kernel
theorem d_La_law_543 : decode code 543 = .ok (.aload_n 1, 1) := by decide +kernel
theorem d_La_law_544 : decode code 544 = .ok (.aload_n 0, 1) := by decide +kernel
theorem d_La_law_545 : decode code 545 = .ok (.iload_n 3, 1) := by decide +kernel
theorem d_La_law_546 : decode code 546 = .ok (.iconst 1, 1) := by decide +kernel
theorem d_La_law_547 : decode code 547 = .ok (.iadd, 1) := by decide +kernel
theorem d_La_law_548 : decode code 548 = .ok (.iaload, 1) := by decide +kernel
theorem d_La_law_549 : decode code 549 = .ok (.invokevirtual 72, 3) := by decide +kernel
theorem d_La_law_552 : decode code 552 = .ok (.aload_n 2, 1) := by decide +kernel
theorem d_La_law_553 : decode code 553 = .ok (.aload_n 0, 1) := by decide +kernel
theorem d_La_law_554 : decode code 554 = .ok (.iload_n 3, 1) := by decide +kernel
theorem d_La_law_555 : decode code 555 = .ok (.iconst 1, 1) := by decide +kernel
theorem d_La_law_556 : decode code 556 = .ok (.iadd, 1) := by decide +kernel
theorem d_La_law_557 : decode code 557 = .ok (.iaload, 1) := by decide +kernel
theorem d_La_law_558 : decode code 558 = .ok (.invokevirtual 75, 3) := by decide +kernel
theorem d_La_law_561 : decode code 561 = .ok (.if_icmp .eq 74, 3) := by decide +kernel
theorem d_La_law_564 : decode code 564 = .ok (.iconst 0, 1) := by decide +kernel
theorem d_La_law_565 : decode code 565 = .ok (.ireturn, 1) := by decide +kernel
theorem d_La_law_566 : decode code 566 = .ok (.aload_n 1, 1) := by decide +kernel
theorem d_La_law_567 : decode code 567 = .ok (.aload_n 0, 1) := by decide +kernel
theorem d_La_law_568 : decode code 568 = .ok (.iload_n 3, 1) := by decide +kernel
theorem d_La_law_569 : decode code 569 = .ok (.iconst 1, 1) := by decide +kernel
theorem d_La_law_570 : decode code 570 = .ok (.iadd, 1) := by decide +kernel
theorem d_La_law_571 : decode code 571 = .ok (.iaload, 1) := by decide +kernel
theorem d_La_law_572 : decode code 572 = .ok (.aload_n 0, 1) := by decide +kernel
theorem d_La_law_573 : decode code 573 = .ok (.iload_n 3, 1) := by decide +kernel
theorem d_La_law_574 : decode code 574 = .ok (.iconst 2, 1) := by decide +kernel
theorem d_La_law_575 : decode code 575 = .ok (.iadd, 1) := by decide +kernel
theorem d_La_law_576 : decode code 576 = .ok (.iaload, 1) := by decide +kernel
theorem d_La_law_577 : decode code 577 = .ok (.invokevirtual 76, 3) := by decide +kernel
theorem d_La_law_580 : decode code 580 = .ok (.aload_n 2, 1) := by decide +kernel
theorem d_La_law_581 : decode code 581 = .ok (.aload_n 0, 1) := by decide +kernel
theorem d_La_law_582 : decode code 582 = .ok (.iload_n 3, 1) := by decide +kernel
theorem d_La_law_583 : decode code 583 = .ok (.iconst 1, 1) := by decide +kernel
theorem d_La_law_584 : decode code 584 = .ok (.iadd, 1) := by decide +kernel
theorem d_La_law_585 : decode code 585 = .ok (.iaload, 1) := by decide +kernel
theorem d_La_law_586 : decode code 586 = .ok (.aload_n 0, 1) := by decide +kernel
theorem d_La_law_587 : decode code 587 = .ok (.iload_n 3, 1) := by decide +kernel
theorem d_La_law_588 : decode code 588 = .ok (.iconst 2, 1) := by decide +kernel
theorem d_La_law_589 : decode code 589 = .ok (.iadd, 1) := by decide +kernel
theorem d_La_law_590 : decode code 590 = .ok (.iaload, 1) := by decide +kernel
theorem d_La_law_591 : decode code 591 = .ok (.invokevirtual 79, 3) := by decide +kernel
theorem d_La_law_594 : decode code 594 = .ok (.if_icmp .eq 41, 3) := by decide +kernel
theorem d_La_law_597 : decode code 597 = .ok (.iconst 0, 1) := by decide +kernel
theorem d_La_law_598 : decode code 598 = .ok (.ireturn, 1) := by decide +kernel
theorem d_La_law_599 : decode code 599 = .ok (.aload_n 1, 1) := by decide +kernel
theorem d_La_law_600 : decode code 600 = .ok (.aload_n 0, 1) := by decide +kernel
theorem d_La_law_601 : decode code 601 = .ok (.iload_n 3, 1) := by decide +kernel
theorem d_La_law_602 : decode code 602 = .ok (.iconst 1, 1) := by decide +kernel
theorem d_La_law_603 : decode code 603 = .ok (.iadd, 1) := by decide +kernel
theorem d_La_law_604 : decode code 604 = .ok (.iaload, 1) := by decide +kernel
theorem d_La_law_605 : decode code 605 = .ok (.invokevirtual 80, 3) := by decide +kernel
theorem d_La_law_608 : decode code 608 = .ok (.aload_n 2, 1) := by decide +kernel
theorem d_La_law_609 : decode code 609 = .ok (.aload_n 0, 1) := by decide +kernel
theorem d_La_law_610 : decode code 610 = .ok (.iload_n 3, 1) := by decide +kernel
theorem d_La_law_611 : decode code 611 = .ok (.iconst 1, 1) := by decide +kernel
theorem d_La_law_612 : decode code 612 = .ok (.iadd, 1) := by decide +kernel
theorem d_La_law_613 : decode code 613 = .ok (.iaload, 1) := by decide +kernel
theorem d_La_law_614 : decode code 614 = .ok (.invokevirtual 83, 3) := by decide +kernel
theorem d_La_law_617 : decode code 617 = .ok (.if_icmp .eq 18, 3) := by decide +kernel
theorem d_La_law_620 : decode code 620 = .ok (.iconst 0, 1) := by decide +kernel
theorem d_La_law_621 : decode code 621 = .ok (.ireturn, 1) := by decide +kernel
theorem d_La_law_622 : decode code 622 = .ok (.aload_n 1, 1) := by decide +kernel
theorem d_La_law_623 : decode code 623 = .ok (.invokevirtual 84, 3) := by decide +kernel
theorem d_La_law_626 : decode code 626 = .ok (.aload_n 2, 1) := by decide +kernel
theorem d_La_law_627 : decode code 627 = .ok (.invokevirtual 88, 3) := by decide +kernel
theorem d_La_law_630 : decode code 630 = .ok (.if_icmp .eq 5, 3) := by decide +kernel
theorem d_La_law_633 : decode code 633 = .ok (.iconst 0, 1) := by decide +kernel
theorem d_La_law_634 : decode code 634 = .ok (.ireturn, 1) := by decide +kernel
theorem d_La_law_635 : decode code 635 = .ok (.iinc 3 6, 3) := by decide +kernel
theorem d_La_law_638 : decode code 638 = .ok (.goto (-610), 3) := by decide +kernel
theorem d_La_law_641 : decode code 641 = .ok (.iconst 1, 1) := by decide +kernel
theorem d_La_law_642 : decode code 642 = .ok (.ireturn, 1) := by decide +kernel
end
section
abbrev KA : Type := va_G × (Nat → Nat) × (ClassId × ClassId × ClassId × ClassId) × Nat
def aA (κ : KA) (i : Nat) : Nat := κ.2.1 i
def cI (κ : KA) : ClassId := κ.2.2.1.1
def cJ (κ : KA) : ClassId := κ.2.2.1.2.1
def cQ (κ : KA) : ClassId := κ.2.2.1.2.2.1
def cZ (κ : KA) : ClassId := κ.2.2.1.2.2.2
def nA (κ : KA) : Nat := κ.2.2.2
abbrev tysA (κ : KA) : List (ClassId × FieldType) := [(cI κ, .int), (cJ κ, .long), (cQ κ, .object "UnitThreads$Unit"), (cZ κ, .boolean)]
abbrev nwA : List zN := [("UnitThreads$Board", 48, y_Ut_hasWay, "UnitThreads"), ("UnitThreads$Board", 45, y_Ut_isWay, "UnitThreads")]
def uC (κ : KA) (σ : zS) (u : Nat) : Nat × va_E := (aA κ (64 + u), .inr (0, [.int (σ.1 0 u), .int (σ.1 1 u), .int (σ.1 2 u), .int (σ.1 3 u), .int (σ.1 4 u), .int (σ.1 5 u), .int (σ.1 6 u), .int (σ.1 7 u)]))
def sC (κ : KA) (σ : zS) : va_W := [(aA κ 0, .inr (5, [.ref (aA κ 1), .ref (aA κ 2), .ref (aA κ 8), .ref (aA κ 10), .ref (aA κ 14), .ref (aA κ 20), .int (σ.1 23 0)])),
  (aA κ 1, .inl (cQ κ, nA κ, .inr (.inr (.inr (.inr (fun u => some (aA κ (64 + u)))))))),
  (aA κ 2, .inr (1, [.ref (aA κ 3), .ref (aA κ 4), .ref (aA κ 5), .ref (aA κ 6), .ref (aA κ 7), .int (σ.1 12 0)])),
  (aA κ 3, .inl (cI κ, 300, .inl (σ.1 8))),
  (aA κ 4, .inl (cI κ, 300, .inl (σ.1 9))),
  (aA κ 5, .inl (cI κ, 300, .inl (σ.1 10))),
  (aA κ 6, .inl (cI κ, 300, .inl (σ.1 11))),
  (aA κ 7, .inl (cJ κ, 300, .inr (.inl (σ.2 0)))),
  (aA κ 8, .inr (2, [.ref (aA κ 9), .int (σ.1 14 0), .long (σ.2 1 0)])),
  (aA κ 9, .inl (cI κ, nA κ, .inl (σ.1 13))),
  (aA κ 10, .inr (3, [.ref (aA κ 11), .ref (aA κ 12), .ref (aA κ 13), .int (σ.1 18 0)])),
  (aA κ 11, .inl (cI κ, nA κ * 64, .inl (σ.1 15))),
  (aA κ 12, .inl (cI κ, nA κ * 64, .inl (σ.1 16))),
  (aA κ 13, .inl (cI κ, nA κ * 64, .inl (σ.1 17))),
  (aA κ 14, .inr (4, [.ref (aA κ 15), .ref (aA κ 16), .ref (aA κ 17), .ref (aA κ 18), .ref (aA κ 19), .int (σ.1 21 0)])),
  (aA κ 15, .inl (cJ κ, nA κ * 4, .inr (.inl (σ.2 2)))),
  (aA κ 16, .inl (cJ κ, nA κ * 4, .inr (.inl (σ.2 3)))),
  (aA κ 17, .inl (cI κ, 16, .inl (σ.1 19))),
  (aA κ 18, .inl (cJ κ, 64 * (nA κ * 4), .inr (.inl (σ.2 4)))),
  (aA κ 19, .inl (cI κ, 1024, .inl (σ.1 20))),
  (aA κ 20, .inl (cI κ, 64, .inl (σ.1 22))),
  (aA κ 21, .inr (6, [.int (nI (nA κ)), .int (σ.1 25 0), .int (σ.1 26 0), .ref (aA κ 22), .ref (aA κ 23), .ref (aA κ 24), .ref (aA κ 25), .ref (aA κ 26), .ref (aA κ 27), .ref (aA κ 28), .ref (aA κ 29), .ref (aA κ 30), .ref (aA κ 31), .ref (aA κ 32), .int (σ.1 34 0), .ref (aA κ 33), .ref (aA κ 34), .ref (aA κ 35), .ref (aA κ 36), .ref (aA κ 37), .ref (aA κ 38), .int (σ.1 41 0), .ref (aA κ 39), .ref (aA κ 40), .ref (aA κ 41), .ref (aA κ 42)])),
  (aA κ 22, .inl (cJ κ, 32, .inr (.inl (σ.2 5)))),
  (aA κ 23, .inl (cJ κ, 32, .inr (.inl (σ.2 6)))),
  (aA κ 24, .inl (cI κ, 16, .inl (σ.1 27))),
  (aA κ 25, .inl (cJ κ, 2048, .inr (.inl (σ.2 7)))),
  (aA κ 26, .inl (cI κ, 1024, .inl (σ.1 28))),
  (aA κ 27, .inl (cZ κ, 1024, .inl (σ.1 29))),
  (aA κ 28, .inl (cI κ, 300, .inl (σ.1 30))),
  (aA κ 29, .inl (cI κ, 300, .inl (σ.1 31))),
  (aA κ 30, .inl (cI κ, 300, .inl (σ.1 32))),
  (aA κ 31, .inl (cI κ, 300, .inl (σ.1 33))),
  (aA κ 32, .inl (cJ κ, 300, .inr (.inl (σ.2 8)))),
  (aA κ 33, .inl (cI κ, 8, .inl (σ.1 35))),
  (aA κ 34, .inl (cZ κ, 8, .inl (σ.1 36))),
  (aA κ 35, .inl (cI κ, 8, .inl (σ.1 37))),
  (aA κ 36, .inl (cI κ, 512, .inl (σ.1 38))),
  (aA κ 37, .inl (cI κ, 512, .inl (σ.1 39))),
  (aA κ 38, .inl (cI κ, 512, .inl (σ.1 40))),
  (aA κ 39, .inl (cZ κ, 8, .inl (σ.1 42))),
  (aA κ 40, .inl (cZ κ, 8, .inl (σ.1 43))),
  (aA κ 41, .inl (cZ κ, 8, .inl (σ.1 44))),
  (aA κ 42, .inl (cZ κ, 128, .inl (σ.1 45)))]
def wA (κ : KA) (σ : zS) : va_W := sC κ σ ++ (List.range (nA κ)).map (uC κ σ)
abbrev BA (κ : KA) (A : Nat → Prop) (H0 : Heap) (s : State) (σ : zS) (H : Heap) (locs : List Loc) : Prop := zB κ.1 vwCl (tysA κ) nwA (wA κ) A H0 s σ H locs
theorem wa_0 (κ : KA) (σ : zS) : (wA κ σ)[0]? = some (aA κ 0, .inr (5, [.ref (aA κ 1), .ref (aA κ 2), .ref (aA κ 8), .ref (aA κ 10), .ref (aA κ 14), .ref (aA κ 20), .int (σ.1 23 0)])) := rfl
theorem wa_1 (κ : KA) (σ : zS) : (wA κ σ)[1]? = some (aA κ 1, .inl (cQ κ, nA κ, .inr (.inr (.inr (.inr (fun u => some (aA κ (64 + u)))))))) := rfl
theorem wa_2 (κ : KA) (σ : zS) : (wA κ σ)[2]? = some (aA κ 2, .inr (1, [.ref (aA κ 3), .ref (aA κ 4), .ref (aA κ 5), .ref (aA κ 6), .ref (aA κ 7), .int (σ.1 12 0)])) := rfl
theorem wa_3 (κ : KA) (σ : zS) : (wA κ σ)[3]? = some (aA κ 3, .inl (cI κ, 300, .inl (σ.1 8))) := rfl
theorem wa_4 (κ : KA) (σ : zS) : (wA κ σ)[4]? = some (aA κ 4, .inl (cI κ, 300, .inl (σ.1 9))) := rfl
theorem wa_5 (κ : KA) (σ : zS) : (wA κ σ)[5]? = some (aA κ 5, .inl (cI κ, 300, .inl (σ.1 10))) := rfl
theorem wa_6 (κ : KA) (σ : zS) : (wA κ σ)[6]? = some (aA κ 6, .inl (cI κ, 300, .inl (σ.1 11))) := rfl
theorem wa_7 (κ : KA) (σ : zS) : (wA κ σ)[7]? = some (aA κ 7, .inl (cJ κ, 300, .inr (.inl (σ.2 0)))) := rfl
theorem wa_8 (κ : KA) (σ : zS) : (wA κ σ)[8]? = some (aA κ 8, .inr (2, [.ref (aA κ 9), .int (σ.1 14 0), .long (σ.2 1 0)])) := rfl
theorem wa_9 (κ : KA) (σ : zS) : (wA κ σ)[9]? = some (aA κ 9, .inl (cI κ, nA κ, .inl (σ.1 13))) := rfl
theorem wa_10 (κ : KA) (σ : zS) : (wA κ σ)[10]? = some (aA κ 10, .inr (3, [.ref (aA κ 11), .ref (aA κ 12), .ref (aA κ 13), .int (σ.1 18 0)])) := rfl
theorem wa_11 (κ : KA) (σ : zS) : (wA κ σ)[11]? = some (aA κ 11, .inl (cI κ, nA κ * 64, .inl (σ.1 15))) := rfl
theorem wa_12 (κ : KA) (σ : zS) : (wA κ σ)[12]? = some (aA κ 12, .inl (cI κ, nA κ * 64, .inl (σ.1 16))) := rfl
theorem wa_13 (κ : KA) (σ : zS) : (wA κ σ)[13]? = some (aA κ 13, .inl (cI κ, nA κ * 64, .inl (σ.1 17))) := rfl
theorem wa_14 (κ : KA) (σ : zS) : (wA κ σ)[14]? = some (aA κ 14, .inr (4, [.ref (aA κ 15), .ref (aA κ 16), .ref (aA κ 17), .ref (aA κ 18), .ref (aA κ 19), .int (σ.1 21 0)])) := rfl
theorem wa_15 (κ : KA) (σ : zS) : (wA κ σ)[15]? = some (aA κ 15, .inl (cJ κ, nA κ * 4, .inr (.inl (σ.2 2)))) := rfl
theorem wa_16 (κ : KA) (σ : zS) : (wA κ σ)[16]? = some (aA κ 16, .inl (cJ κ, nA κ * 4, .inr (.inl (σ.2 3)))) := rfl
theorem wa_17 (κ : KA) (σ : zS) : (wA κ σ)[17]? = some (aA κ 17, .inl (cI κ, 16, .inl (σ.1 19))) := rfl
theorem wa_18 (κ : KA) (σ : zS) : (wA κ σ)[18]? = some (aA κ 18, .inl (cJ κ, 64 * (nA κ * 4), .inr (.inl (σ.2 4)))) := rfl
theorem wa_19 (κ : KA) (σ : zS) : (wA κ σ)[19]? = some (aA κ 19, .inl (cI κ, 1024, .inl (σ.1 20))) := rfl
theorem wa_20 (κ : KA) (σ : zS) : (wA κ σ)[20]? = some (aA κ 20, .inl (cI κ, 64, .inl (σ.1 22))) := rfl
theorem wa_21 (κ : KA) (σ : zS) : (wA κ σ)[21]? = some (aA κ 21, .inr (6, [.int (nI (nA κ)), .int (σ.1 25 0), .int (σ.1 26 0), .ref (aA κ 22), .ref (aA κ 23), .ref (aA κ 24), .ref (aA κ 25), .ref (aA κ 26), .ref (aA κ 27), .ref (aA κ 28), .ref (aA κ 29), .ref (aA κ 30), .ref (aA κ 31), .ref (aA κ 32), .int (σ.1 34 0), .ref (aA κ 33), .ref (aA κ 34), .ref (aA κ 35), .ref (aA κ 36), .ref (aA κ 37), .ref (aA κ 38), .int (σ.1 41 0), .ref (aA κ 39), .ref (aA κ 40), .ref (aA κ 41), .ref (aA κ 42)])) := rfl
theorem wa_22 (κ : KA) (σ : zS) : (wA κ σ)[22]? = some (aA κ 22, .inl (cJ κ, 32, .inr (.inl (σ.2 5)))) := rfl
theorem wa_23 (κ : KA) (σ : zS) : (wA κ σ)[23]? = some (aA κ 23, .inl (cJ κ, 32, .inr (.inl (σ.2 6)))) := rfl
theorem wa_24 (κ : KA) (σ : zS) : (wA κ σ)[24]? = some (aA κ 24, .inl (cI κ, 16, .inl (σ.1 27))) := rfl
theorem wa_25 (κ : KA) (σ : zS) : (wA κ σ)[25]? = some (aA κ 25, .inl (cJ κ, 2048, .inr (.inl (σ.2 7)))) := rfl
theorem wa_26 (κ : KA) (σ : zS) : (wA κ σ)[26]? = some (aA κ 26, .inl (cI κ, 1024, .inl (σ.1 28))) := rfl
theorem wa_27 (κ : KA) (σ : zS) : (wA κ σ)[27]? = some (aA κ 27, .inl (cZ κ, 1024, .inl (σ.1 29))) := rfl
theorem wa_28 (κ : KA) (σ : zS) : (wA κ σ)[28]? = some (aA κ 28, .inl (cI κ, 300, .inl (σ.1 30))) := rfl
theorem wa_29 (κ : KA) (σ : zS) : (wA κ σ)[29]? = some (aA κ 29, .inl (cI κ, 300, .inl (σ.1 31))) := rfl
theorem wa_30 (κ : KA) (σ : zS) : (wA κ σ)[30]? = some (aA κ 30, .inl (cI κ, 300, .inl (σ.1 32))) := rfl
theorem wa_31 (κ : KA) (σ : zS) : (wA κ σ)[31]? = some (aA κ 31, .inl (cI κ, 300, .inl (σ.1 33))) := rfl
theorem wa_32 (κ : KA) (σ : zS) : (wA κ σ)[32]? = some (aA κ 32, .inl (cJ κ, 300, .inr (.inl (σ.2 8)))) := rfl
theorem wa_33 (κ : KA) (σ : zS) : (wA κ σ)[33]? = some (aA κ 33, .inl (cI κ, 8, .inl (σ.1 35))) := rfl
theorem wa_34 (κ : KA) (σ : zS) : (wA κ σ)[34]? = some (aA κ 34, .inl (cZ κ, 8, .inl (σ.1 36))) := rfl
theorem wa_35 (κ : KA) (σ : zS) : (wA κ σ)[35]? = some (aA κ 35, .inl (cI κ, 8, .inl (σ.1 37))) := rfl
theorem wa_36 (κ : KA) (σ : zS) : (wA κ σ)[36]? = some (aA κ 36, .inl (cI κ, 512, .inl (σ.1 38))) := rfl
theorem wa_37 (κ : KA) (σ : zS) : (wA κ σ)[37]? = some (aA κ 37, .inl (cI κ, 512, .inl (σ.1 39))) := rfl
theorem wa_38 (κ : KA) (σ : zS) : (wA κ σ)[38]? = some (aA κ 38, .inl (cI κ, 512, .inl (σ.1 40))) := rfl
theorem wa_39 (κ : KA) (σ : zS) : (wA κ σ)[39]? = some (aA κ 39, .inl (cZ κ, 8, .inl (σ.1 42))) := rfl
theorem wa_40 (κ : KA) (σ : zS) : (wA κ σ)[40]? = some (aA κ 40, .inl (cZ κ, 8, .inl (σ.1 43))) := rfl
theorem wa_41 (κ : KA) (σ : zS) : (wA κ σ)[41]? = some (aA κ 41, .inl (cZ κ, 8, .inl (σ.1 44))) := rfl
theorem wa_42 (κ : KA) (σ : zS) : (wA κ σ)[42]? = some (aA κ 42, .inl (cZ κ, 128, .inl (σ.1 45))) := rfl
theorem sC_len (κ : KA) (σ : zS) : (sC κ σ).length = 43 := rfl
theorem wa_u (κ : KA) (σ : zS) {u : Nat} (hu : u < nA κ) : (wA κ σ)[43 + u]? = some (aA κ (64 + u), .inr (0, [.int (σ.1 0 u), .int (σ.1 1 u), .int (σ.1 2 u), .int (σ.1 3 u), .int (σ.1 4 u), .int (σ.1 5 u), .int (σ.1 6 u), .int (σ.1 7 u)])) := by
  show (sC κ σ ++ (List.range (nA κ)).map (uC κ σ))[43 + u]? = _
  rw [List.getElem?_append_right (by rw [sC_len]; omega), sC_len, show 43 + u - 43 = u by omega, List.getElem?_map, List.getElem?_range hu]
  rfl
theorem range_set {α : Type} {n u : Nat} (hu : u < n) {g g' : Nat → α} {x : α} (h1 : g' u = x) (h2 : ∀ j, j ≠ u → g' j = g j) : ((List.range n).map g).set u x = (List.range n).map g' := by
  apply List.ext_getElem?
  intro i
  by_cases h : i = u
  · subst h
    rw [List.getElem?_set_self (by simpa using hu), List.getElem?_map, List.getElem?_range hu]
    simp [h1]
  · rw [List.getElem?_set_ne (Ne.symm h), List.getElem?_map, List.getElem?_map]
    cases hr : (List.range n)[i]? with
    | none => rfl
    | some j =>
      have hj : j = i := by
        have hl := (List.getElem?_eq_some_iff.mp hr).1
        have := (List.getElem?_eq_some_iff.mp hr).2
        rw [List.getElem_range] at this
        exact this.symm
      subst hj
      simp [h2 j h]
theorem wp_0_6 (κ : KA) (σ : zS) (v : Int32) : (wA κ σ).set 0 (aA κ 0, .inr (5, ([.ref (aA κ 1), .ref (aA κ 2), .ref (aA κ 8), .ref (aA κ 10), .ref (aA κ 14), .ref (aA κ 20), .int (σ.1 23 0)] : List Value).set 6 (.int v))) = wA κ (zi σ 23 0 v) := rfl
theorem wp_2_5 (κ : KA) (σ : zS) (v : Int32) : (wA κ σ).set 2 (aA κ 2, .inr (1, ([.ref (aA κ 3), .ref (aA κ 4), .ref (aA κ 5), .ref (aA κ 6), .ref (aA κ 7), .int (σ.1 12 0)] : List Value).set 5 (.int v))) = wA κ (zi σ 12 0 v) := rfl
theorem ws_3 (κ : KA) (σ : zS) (k : Nat) (x : Int32) : (wA κ σ).set 3 (aA κ 3, .inl (cI κ, 300, .inl ((zi σ 8 k x).1 8))) = wA κ (zi σ 8 k x) := rfl
theorem ws_4 (κ : KA) (σ : zS) (k : Nat) (x : Int32) : (wA κ σ).set 4 (aA κ 4, .inl (cI κ, 300, .inl ((zi σ 9 k x).1 9))) = wA κ (zi σ 9 k x) := rfl
theorem ws_5 (κ : KA) (σ : zS) (k : Nat) (x : Int32) : (wA κ σ).set 5 (aA κ 5, .inl (cI κ, 300, .inl ((zi σ 10 k x).1 10))) = wA κ (zi σ 10 k x) := rfl
theorem ws_6 (κ : KA) (σ : zS) (k : Nat) (x : Int32) : (wA κ σ).set 6 (aA κ 6, .inl (cI κ, 300, .inl ((zi σ 11 k x).1 11))) = wA κ (zi σ 11 k x) := rfl
theorem ws_7 (κ : KA) (σ : zS) (k : Nat) (x : Int64) : (wA κ σ).set 7 (aA κ 7, .inl (cJ κ, 300, .inr (.inl ((zl σ 0 k x).2 0)))) = wA κ (zl σ 0 k x) := rfl
theorem wp_8_1 (κ : KA) (σ : zS) (v : Int32) : (wA κ σ).set 8 (aA κ 8, .inr (2, ([.ref (aA κ 9), .int (σ.1 14 0), .long (σ.2 1 0)] : List Value).set 1 (.int v))) = wA κ (zi σ 14 0 v) := rfl
theorem wp_8_2 (κ : KA) (σ : zS) (v : Int64) : (wA κ σ).set 8 (aA κ 8, .inr (2, ([.ref (aA κ 9), .int (σ.1 14 0), .long (σ.2 1 0)] : List Value).set 2 (.long v))) = wA κ (zl σ 1 0 v) := rfl
theorem ws_9 (κ : KA) (σ : zS) (k : Nat) (x : Int32) : (wA κ σ).set 9 (aA κ 9, .inl (cI κ, nA κ, .inl ((zi σ 13 k x).1 13))) = wA κ (zi σ 13 k x) := rfl
theorem wp_10_3 (κ : KA) (σ : zS) (v : Int32) : (wA κ σ).set 10 (aA κ 10, .inr (3, ([.ref (aA κ 11), .ref (aA κ 12), .ref (aA κ 13), .int (σ.1 18 0)] : List Value).set 3 (.int v))) = wA κ (zi σ 18 0 v) := rfl
theorem ws_11 (κ : KA) (σ : zS) (k : Nat) (x : Int32) : (wA κ σ).set 11 (aA κ 11, .inl (cI κ, nA κ * 64, .inl ((zi σ 15 k x).1 15))) = wA κ (zi σ 15 k x) := rfl
theorem ws_12 (κ : KA) (σ : zS) (k : Nat) (x : Int32) : (wA κ σ).set 12 (aA κ 12, .inl (cI κ, nA κ * 64, .inl ((zi σ 16 k x).1 16))) = wA κ (zi σ 16 k x) := rfl
theorem ws_13 (κ : KA) (σ : zS) (k : Nat) (x : Int32) : (wA κ σ).set 13 (aA κ 13, .inl (cI κ, nA κ * 64, .inl ((zi σ 17 k x).1 17))) = wA κ (zi σ 17 k x) := rfl
theorem wp_14_5 (κ : KA) (σ : zS) (v : Int32) : (wA κ σ).set 14 (aA κ 14, .inr (4, ([.ref (aA κ 15), .ref (aA κ 16), .ref (aA κ 17), .ref (aA κ 18), .ref (aA κ 19), .int (σ.1 21 0)] : List Value).set 5 (.int v))) = wA κ (zi σ 21 0 v) := rfl
theorem ws_15 (κ : KA) (σ : zS) (k : Nat) (x : Int64) : (wA κ σ).set 15 (aA κ 15, .inl (cJ κ, nA κ * 4, .inr (.inl ((zl σ 2 k x).2 2)))) = wA κ (zl σ 2 k x) := rfl
theorem ws_16 (κ : KA) (σ : zS) (k : Nat) (x : Int64) : (wA κ σ).set 16 (aA κ 16, .inl (cJ κ, nA κ * 4, .inr (.inl ((zl σ 3 k x).2 3)))) = wA κ (zl σ 3 k x) := rfl
theorem ws_17 (κ : KA) (σ : zS) (k : Nat) (x : Int32) : (wA κ σ).set 17 (aA κ 17, .inl (cI κ, 16, .inl ((zi σ 19 k x).1 19))) = wA κ (zi σ 19 k x) := rfl
theorem ws_18 (κ : KA) (σ : zS) (k : Nat) (x : Int64) : (wA κ σ).set 18 (aA κ 18, .inl (cJ κ, 64 * (nA κ * 4), .inr (.inl ((zl σ 4 k x).2 4)))) = wA κ (zl σ 4 k x) := rfl
theorem ws_19 (κ : KA) (σ : zS) (k : Nat) (x : Int32) : (wA κ σ).set 19 (aA κ 19, .inl (cI κ, 1024, .inl ((zi σ 20 k x).1 20))) = wA κ (zi σ 20 k x) := rfl
theorem ws_20 (κ : KA) (σ : zS) (k : Nat) (x : Int32) : (wA κ σ).set 20 (aA κ 20, .inl (cI κ, 64, .inl ((zi σ 22 k x).1 22))) = wA κ (zi σ 22 k x) := rfl
theorem wp_21_1 (κ : KA) (σ : zS) (v : Int32) : (wA κ σ).set 21 (aA κ 21, .inr (6, ([.int (nI (nA κ)), .int (σ.1 25 0), .int (σ.1 26 0), .ref (aA κ 22), .ref (aA κ 23), .ref (aA κ 24), .ref (aA κ 25), .ref (aA κ 26), .ref (aA κ 27), .ref (aA κ 28), .ref (aA κ 29), .ref (aA κ 30), .ref (aA κ 31), .ref (aA κ 32), .int (σ.1 34 0), .ref (aA κ 33), .ref (aA κ 34), .ref (aA κ 35), .ref (aA κ 36), .ref (aA κ 37), .ref (aA κ 38), .int (σ.1 41 0), .ref (aA κ 39), .ref (aA κ 40), .ref (aA κ 41), .ref (aA κ 42)] : List Value).set 1 (.int v))) = wA κ (zi σ 25 0 v) := rfl
theorem wp_21_2 (κ : KA) (σ : zS) (v : Int32) : (wA κ σ).set 21 (aA κ 21, .inr (6, ([.int (nI (nA κ)), .int (σ.1 25 0), .int (σ.1 26 0), .ref (aA κ 22), .ref (aA κ 23), .ref (aA κ 24), .ref (aA κ 25), .ref (aA κ 26), .ref (aA κ 27), .ref (aA κ 28), .ref (aA κ 29), .ref (aA κ 30), .ref (aA κ 31), .ref (aA κ 32), .int (σ.1 34 0), .ref (aA κ 33), .ref (aA κ 34), .ref (aA κ 35), .ref (aA κ 36), .ref (aA κ 37), .ref (aA κ 38), .int (σ.1 41 0), .ref (aA κ 39), .ref (aA κ 40), .ref (aA κ 41), .ref (aA κ 42)] : List Value).set 2 (.int v))) = wA κ (zi σ 26 0 v) := rfl
theorem wp_21_14 (κ : KA) (σ : zS) (v : Int32) : (wA κ σ).set 21 (aA κ 21, .inr (6, ([.int (nI (nA κ)), .int (σ.1 25 0), .int (σ.1 26 0), .ref (aA κ 22), .ref (aA κ 23), .ref (aA κ 24), .ref (aA κ 25), .ref (aA κ 26), .ref (aA κ 27), .ref (aA κ 28), .ref (aA κ 29), .ref (aA κ 30), .ref (aA κ 31), .ref (aA κ 32), .int (σ.1 34 0), .ref (aA κ 33), .ref (aA κ 34), .ref (aA κ 35), .ref (aA κ 36), .ref (aA κ 37), .ref (aA κ 38), .int (σ.1 41 0), .ref (aA κ 39), .ref (aA κ 40), .ref (aA κ 41), .ref (aA κ 42)] : List Value).set 14 (.int v))) = wA κ (zi σ 34 0 v) := rfl
theorem wp_21_21 (κ : KA) (σ : zS) (v : Int32) : (wA κ σ).set 21 (aA κ 21, .inr (6, ([.int (nI (nA κ)), .int (σ.1 25 0), .int (σ.1 26 0), .ref (aA κ 22), .ref (aA κ 23), .ref (aA κ 24), .ref (aA κ 25), .ref (aA κ 26), .ref (aA κ 27), .ref (aA κ 28), .ref (aA κ 29), .ref (aA κ 30), .ref (aA κ 31), .ref (aA κ 32), .int (σ.1 34 0), .ref (aA κ 33), .ref (aA κ 34), .ref (aA κ 35), .ref (aA κ 36), .ref (aA κ 37), .ref (aA κ 38), .int (σ.1 41 0), .ref (aA κ 39), .ref (aA κ 40), .ref (aA κ 41), .ref (aA κ 42)] : List Value).set 21 (.int v))) = wA κ (zi σ 41 0 v) := rfl
theorem ws_22 (κ : KA) (σ : zS) (k : Nat) (x : Int64) : (wA κ σ).set 22 (aA κ 22, .inl (cJ κ, 32, .inr (.inl ((zl σ 5 k x).2 5)))) = wA κ (zl σ 5 k x) := rfl
theorem ws_23 (κ : KA) (σ : zS) (k : Nat) (x : Int64) : (wA κ σ).set 23 (aA κ 23, .inl (cJ κ, 32, .inr (.inl ((zl σ 6 k x).2 6)))) = wA κ (zl σ 6 k x) := rfl
theorem ws_24 (κ : KA) (σ : zS) (k : Nat) (x : Int32) : (wA κ σ).set 24 (aA κ 24, .inl (cI κ, 16, .inl ((zi σ 27 k x).1 27))) = wA κ (zi σ 27 k x) := rfl
theorem ws_25 (κ : KA) (σ : zS) (k : Nat) (x : Int64) : (wA κ σ).set 25 (aA κ 25, .inl (cJ κ, 2048, .inr (.inl ((zl σ 7 k x).2 7)))) = wA κ (zl σ 7 k x) := rfl
theorem ws_26 (κ : KA) (σ : zS) (k : Nat) (x : Int32) : (wA κ σ).set 26 (aA κ 26, .inl (cI κ, 1024, .inl ((zi σ 28 k x).1 28))) = wA κ (zi σ 28 k x) := rfl
theorem ws_27 (κ : KA) (σ : zS) (k : Nat) (x : Int32) : (wA κ σ).set 27 (aA κ 27, .inl (cZ κ, 1024, .inl ((zi σ 29 k x).1 29))) = wA κ (zi σ 29 k x) := rfl
theorem ws_28 (κ : KA) (σ : zS) (k : Nat) (x : Int32) : (wA κ σ).set 28 (aA κ 28, .inl (cI κ, 300, .inl ((zi σ 30 k x).1 30))) = wA κ (zi σ 30 k x) := rfl
theorem ws_29 (κ : KA) (σ : zS) (k : Nat) (x : Int32) : (wA κ σ).set 29 (aA κ 29, .inl (cI κ, 300, .inl ((zi σ 31 k x).1 31))) = wA κ (zi σ 31 k x) := rfl
theorem ws_30 (κ : KA) (σ : zS) (k : Nat) (x : Int32) : (wA κ σ).set 30 (aA κ 30, .inl (cI κ, 300, .inl ((zi σ 32 k x).1 32))) = wA κ (zi σ 32 k x) := rfl
theorem ws_31 (κ : KA) (σ : zS) (k : Nat) (x : Int32) : (wA κ σ).set 31 (aA κ 31, .inl (cI κ, 300, .inl ((zi σ 33 k x).1 33))) = wA κ (zi σ 33 k x) := rfl
theorem ws_32 (κ : KA) (σ : zS) (k : Nat) (x : Int64) : (wA κ σ).set 32 (aA κ 32, .inl (cJ κ, 300, .inr (.inl ((zl σ 8 k x).2 8)))) = wA κ (zl σ 8 k x) := rfl
theorem ws_33 (κ : KA) (σ : zS) (k : Nat) (x : Int32) : (wA κ σ).set 33 (aA κ 33, .inl (cI κ, 8, .inl ((zi σ 35 k x).1 35))) = wA κ (zi σ 35 k x) := rfl
theorem ws_34 (κ : KA) (σ : zS) (k : Nat) (x : Int32) : (wA κ σ).set 34 (aA κ 34, .inl (cZ κ, 8, .inl ((zi σ 36 k x).1 36))) = wA κ (zi σ 36 k x) := rfl
theorem ws_35 (κ : KA) (σ : zS) (k : Nat) (x : Int32) : (wA κ σ).set 35 (aA κ 35, .inl (cI κ, 8, .inl ((zi σ 37 k x).1 37))) = wA κ (zi σ 37 k x) := rfl
theorem ws_36 (κ : KA) (σ : zS) (k : Nat) (x : Int32) : (wA κ σ).set 36 (aA κ 36, .inl (cI κ, 512, .inl ((zi σ 38 k x).1 38))) = wA κ (zi σ 38 k x) := rfl
theorem ws_37 (κ : KA) (σ : zS) (k : Nat) (x : Int32) : (wA κ σ).set 37 (aA κ 37, .inl (cI κ, 512, .inl ((zi σ 39 k x).1 39))) = wA κ (zi σ 39 k x) := rfl
theorem ws_38 (κ : KA) (σ : zS) (k : Nat) (x : Int32) : (wA κ σ).set 38 (aA κ 38, .inl (cI κ, 512, .inl ((zi σ 40 k x).1 40))) = wA κ (zi σ 40 k x) := rfl
theorem ws_39 (κ : KA) (σ : zS) (k : Nat) (x : Int32) : (wA κ σ).set 39 (aA κ 39, .inl (cZ κ, 8, .inl ((zi σ 42 k x).1 42))) = wA κ (zi σ 42 k x) := rfl
theorem ws_40 (κ : KA) (σ : zS) (k : Nat) (x : Int32) : (wA κ σ).set 40 (aA κ 40, .inl (cZ κ, 8, .inl ((zi σ 43 k x).1 43))) = wA κ (zi σ 43 k x) := rfl
theorem ws_41 (κ : KA) (σ : zS) (k : Nat) (x : Int32) : (wA κ σ).set 41 (aA κ 41, .inl (cZ κ, 8, .inl ((zi σ 44 k x).1 44))) = wA κ (zi σ 44 k x) := rfl
theorem ws_42 (κ : KA) (σ : zS) (k : Nat) (x : Int32) : (wA κ σ).set 42 (aA κ 42, .inl (cZ κ, 128, .inl ((zi σ 45 k x).1 45))) = wA κ (zi σ 45 k x) := rfl
theorem wq_0 (κ : KA) (σ : zS) {u : Nat} (hu : u < nA κ) (v : Int32) : (wA κ σ).set (43 + u) (aA κ (64 + u), .inr (0, ([.int (σ.1 0 u), .int (σ.1 1 u), .int (σ.1 2 u), .int (σ.1 3 u), .int (σ.1 4 u), .int (σ.1 5 u), .int (σ.1 6 u), .int (σ.1 7 u)] : List Value).set 0 (.int v))) = wA κ (zi σ 0 u v) := by
  show (sC κ σ ++ (List.range (nA κ)).map (uC κ σ)).set (43 + u) _ = sC κ σ ++ (List.range (nA κ)).map (uC κ (zi σ 0 u v))
  rw [List.set_append_right _ _ (by rw [sC_len]; omega), sC_len, show 43 + u - 43 = u by omega]
  refine congrArg _ (range_set hu ?_ (fun j hj => ?_))
  · simp [uC, zi]
  · simp [uC, zi, hj]
theorem wq_1 (κ : KA) (σ : zS) {u : Nat} (hu : u < nA κ) (v : Int32) : (wA κ σ).set (43 + u) (aA κ (64 + u), .inr (0, ([.int (σ.1 0 u), .int (σ.1 1 u), .int (σ.1 2 u), .int (σ.1 3 u), .int (σ.1 4 u), .int (σ.1 5 u), .int (σ.1 6 u), .int (σ.1 7 u)] : List Value).set 1 (.int v))) = wA κ (zi σ 1 u v) := by
  show (sC κ σ ++ (List.range (nA κ)).map (uC κ σ)).set (43 + u) _ = sC κ σ ++ (List.range (nA κ)).map (uC κ (zi σ 1 u v))
  rw [List.set_append_right _ _ (by rw [sC_len]; omega), sC_len, show 43 + u - 43 = u by omega]
  refine congrArg _ (range_set hu ?_ (fun j hj => ?_))
  · simp [uC, zi]
  · simp [uC, zi, hj]
theorem wq_2 (κ : KA) (σ : zS) {u : Nat} (hu : u < nA κ) (v : Int32) : (wA κ σ).set (43 + u) (aA κ (64 + u), .inr (0, ([.int (σ.1 0 u), .int (σ.1 1 u), .int (σ.1 2 u), .int (σ.1 3 u), .int (σ.1 4 u), .int (σ.1 5 u), .int (σ.1 6 u), .int (σ.1 7 u)] : List Value).set 2 (.int v))) = wA κ (zi σ 2 u v) := by
  show (sC κ σ ++ (List.range (nA κ)).map (uC κ σ)).set (43 + u) _ = sC κ σ ++ (List.range (nA κ)).map (uC κ (zi σ 2 u v))
  rw [List.set_append_right _ _ (by rw [sC_len]; omega), sC_len, show 43 + u - 43 = u by omega]
  refine congrArg _ (range_set hu ?_ (fun j hj => ?_))
  · simp [uC, zi]
  · simp [uC, zi, hj]
theorem wq_3 (κ : KA) (σ : zS) {u : Nat} (hu : u < nA κ) (v : Int32) : (wA κ σ).set (43 + u) (aA κ (64 + u), .inr (0, ([.int (σ.1 0 u), .int (σ.1 1 u), .int (σ.1 2 u), .int (σ.1 3 u), .int (σ.1 4 u), .int (σ.1 5 u), .int (σ.1 6 u), .int (σ.1 7 u)] : List Value).set 3 (.int v))) = wA κ (zi σ 3 u v) := by
  show (sC κ σ ++ (List.range (nA κ)).map (uC κ σ)).set (43 + u) _ = sC κ σ ++ (List.range (nA κ)).map (uC κ (zi σ 3 u v))
  rw [List.set_append_right _ _ (by rw [sC_len]; omega), sC_len, show 43 + u - 43 = u by omega]
  refine congrArg _ (range_set hu ?_ (fun j hj => ?_))
  · simp [uC, zi]
  · simp [uC, zi, hj]
theorem wq_4 (κ : KA) (σ : zS) {u : Nat} (hu : u < nA κ) (v : Int32) : (wA κ σ).set (43 + u) (aA κ (64 + u), .inr (0, ([.int (σ.1 0 u), .int (σ.1 1 u), .int (σ.1 2 u), .int (σ.1 3 u), .int (σ.1 4 u), .int (σ.1 5 u), .int (σ.1 6 u), .int (σ.1 7 u)] : List Value).set 4 (.int v))) = wA κ (zi σ 4 u v) := by
  show (sC κ σ ++ (List.range (nA κ)).map (uC κ σ)).set (43 + u) _ = sC κ σ ++ (List.range (nA κ)).map (uC κ (zi σ 4 u v))
  rw [List.set_append_right _ _ (by rw [sC_len]; omega), sC_len, show 43 + u - 43 = u by omega]
  refine congrArg _ (range_set hu ?_ (fun j hj => ?_))
  · simp [uC, zi]
  · simp [uC, zi, hj]
theorem wq_5 (κ : KA) (σ : zS) {u : Nat} (hu : u < nA κ) (v : Int32) : (wA κ σ).set (43 + u) (aA κ (64 + u), .inr (0, ([.int (σ.1 0 u), .int (σ.1 1 u), .int (σ.1 2 u), .int (σ.1 3 u), .int (σ.1 4 u), .int (σ.1 5 u), .int (σ.1 6 u), .int (σ.1 7 u)] : List Value).set 5 (.int v))) = wA κ (zi σ 5 u v) := by
  show (sC κ σ ++ (List.range (nA κ)).map (uC κ σ)).set (43 + u) _ = sC κ σ ++ (List.range (nA κ)).map (uC κ (zi σ 5 u v))
  rw [List.set_append_right _ _ (by rw [sC_len]; omega), sC_len, show 43 + u - 43 = u by omega]
  refine congrArg _ (range_set hu ?_ (fun j hj => ?_))
  · simp [uC, zi]
  · simp [uC, zi, hj]
theorem wq_6 (κ : KA) (σ : zS) {u : Nat} (hu : u < nA κ) (v : Int32) : (wA κ σ).set (43 + u) (aA κ (64 + u), .inr (0, ([.int (σ.1 0 u), .int (σ.1 1 u), .int (σ.1 2 u), .int (σ.1 3 u), .int (σ.1 4 u), .int (σ.1 5 u), .int (σ.1 6 u), .int (σ.1 7 u)] : List Value).set 6 (.int v))) = wA κ (zi σ 6 u v) := by
  show (sC κ σ ++ (List.range (nA κ)).map (uC κ σ)).set (43 + u) _ = sC κ σ ++ (List.range (nA κ)).map (uC κ (zi σ 6 u v))
  rw [List.set_append_right _ _ (by rw [sC_len]; omega), sC_len, show 43 + u - 43 = u by omega]
  refine congrArg _ (range_set hu ?_ (fun j hj => ?_))
  · simp [uC, zi]
  · simp [uC, zi, hj]
theorem wq_7 (κ : KA) (σ : zS) {u : Nat} (hu : u < nA κ) (v : Int32) : (wA κ σ).set (43 + u) (aA κ (64 + u), .inr (0, ([.int (σ.1 0 u), .int (σ.1 1 u), .int (σ.1 2 u), .int (σ.1 3 u), .int (σ.1 4 u), .int (σ.1 5 u), .int (σ.1 6 u), .int (σ.1 7 u)] : List Value).set 7 (.int v))) = wA κ (zi σ 7 u v) := by
  show (sC κ σ ++ (List.range (nA κ)).map (uC κ σ)).set (43 + u) _ = sC κ σ ++ (List.range (nA κ)).map (uC κ (zi σ 7 u v))
  rw [List.set_append_right _ _ (by rw [sC_len]; omega), sC_len, show 43 + u - 43 = u by omega]
  refine congrArg _ (range_set hu ?_ (fun j hj => ?_))
  · simp [uC, zi]
  · simp [uC, zi, hj]
end
section
/-! ===== Int32 by its bits: bt x i ===== -/
def bt (x : Int32) (i : Nat) : Bool := x.toBitVec.getLsbD i
theorem b_ext {x y : Int32} (h : ∀ i, i < 32 → bt x i = bt y i) : x = y := Int32.toBitVec_inj.mp (BitVec.eq_of_getLsbD_eq (fun i hi => h i hi))
theorem b_or (x y : Int32) (i : Nat) : bt (x ||| y) i = (bt x i || bt y i) := by unfold bt; rw [Int32.toBitVec_or, BitVec.getLsbD_or]
theorem b_and (x y : Int32) (i : Nat) : bt (x &&& y) i = (bt x i && bt y i) := by unfold bt; rw [Int32.toBitVec_and, BitVec.getLsbD_and]
theorem b_xor (x y : Int32) (i : Nat) : bt (x ^^^ y) i = (bt x i ^^ bt y i) := by unfold bt; rw [Int32.toBitVec_xor, BitVec.getLsbD_xor]
theorem b_big {x : Int32} {i : Nat} (h : 32 ≤ i) : bt x i = false := BitVec.getLsbD_of_ge _ _ h
theorem b_255 (i : Nat) : bt 255 i = decide (i < 8) := by
  rcases Nat.lt_or_ge i 32 with h | h
  · exact (by decide +kernel : ∀ i, i < 32 → bt 255 i = decide (i < 8)) i h
  · rw [b_big h, decide_eq_false (by omega)]
theorem b_65535 (i : Nat) : bt 65535 i = decide (i < 16) := by
  rcases Nat.lt_or_ge i 32 with h | h
  · exact (by decide +kernel : ∀ i, i < 32 → bt 65535 i = decide (i < 16)) i h
  · rw [b_big h, decide_eq_false (by omega)]
theorem b_m1 : ∀ i, i < 32 → bt (-1) i = true := by decide +kernel
theorem b_0 (i : Nat) : bt 0 i = false := BitVec.getLsbD_zero
theorem s_l : ∀ n, n < 32 → ((nI n &&& 31).toBitVec.smod 32).toNat = n := by decide +kernel
theorem s_u : ∀ n, n < 32 → (((nI n).toUInt32 &&& Int32.toUInt32 31).toBitVec % 32).toNat = n := by decide +kernel
theorem b_shl (n : Nat) (hn : n < 32) (x : Int32) {i : Nat} (hi : i < 32) : bt (x <<< (nI n &&& 31)) i = (decide (n ≤ i) && bt x (i - n)) := by
  unfold bt
  rw [Int32.toBitVec_shiftLeft]
  show (x.toBitVec <<< ((nI n &&& 31).toBitVec.smod 32).toNat).getLsbD i = _
  rw [s_l n hn, BitVec.getLsbD_shiftLeft]
  rcases Nat.lt_or_ge i n with h | h
  · simp [h, Nat.not_le.mpr h]
  · simp [hi, h, Nat.not_lt.mpr h]
theorem b_ushr (n : Nat) (hn : n < 32) (x : Int32) (i : Nat) : bt ((x.toUInt32 >>> ((nI n).toUInt32 &&& Int32.toUInt32 31)).toInt32) i = bt x (n + i) := by
  show (x.toUInt32 >>> ((nI n).toUInt32 &&& Int32.toUInt32 31)).toBitVec.getLsbD i = x.toUInt32.toBitVec.getLsbD (n + i)
  rw [UInt32.toBitVec_shiftRight]
  show (x.toUInt32.toBitVec >>> (((nI n).toUInt32 &&& Int32.toUInt32 31).toBitVec % 32).toNat).getLsbD i = _
  rw [s_u n hn, BitVec.getLsbD_ushiftRight]
theorem b_sshr (n : Nat) (hn : n < 32) (x : Int32) {i : Nat} (hi : i < 32) : bt (x >>> (nI n &&& 31)) i = if n + i < 32 then bt x (n + i) else bt x 31 := by
  unfold bt
  rw [Int32.toBitVec_shiftRight]
  show (x.toBitVec.sshiftRight ((nI n &&& 31).toBitVec.smod 32).toNat).getLsbD i = _
  rw [s_l n hn, BitVec.getLsbD_sshiftRight, BitVec.msb_eq_getLsbD_last]
  simp [hi]
/-! ===== Int64 as an unsigned number: uN x ===== -/
def uN (x : Int64) : Nat := x.toUInt64.toNat
theorem uN_lt (x : Int64) : uN x < 18446744073709551616 := x.toUInt64.toNat_lt
theorem uN_inj {x y : Int64} (h : uN x = uN y) : x = y := congrArg UInt64.toInt64 (UInt64.toNat_inj.mp h)
theorem uN_add (x y : Int64) : uN (x + y) = (uN x + uN y) % 18446744073709551616 := by
  show (x.toUInt64 + y.toUInt64).toNat = _
  exact UInt64.toNat_add _ _
theorem uN_mul (x y : Int64) : uN (x * y) = (uN x * uN y) % 18446744073709551616 := by
  show (x.toUInt64 * y.toUInt64).toNat = _
  exact UInt64.toNat_mul _ _
theorem uN_shl (x : Int64) : uN (x <<< ((1 : Int32).toInt64 &&& 63)) = (2 * uN x) % 18446744073709551616 := by
  have h : (((1 : Int32).toInt64 &&& 63).toBitVec.smod 64).toNat = 1 := by decide
  show (x.toBitVec <<< (((1 : Int32).toInt64 &&& 63).toBitVec.smod 64).toNat).toNat = _
  rw [h, BitVec.toNat_shiftLeft, Nat.shiftLeft_eq, Nat.mul_comm]
  rfl
theorem uN_shr (x : Int64) (s : UInt64) : uN (x.toUInt64 >>> s).toInt64 = uN x / 2 ^ (s.toNat % 64) := by
  show (x.toUInt64 >>> s).toNat = _
  rw [UInt64.toNat_shiftRight, Nat.shiftRight_eq_div_pow]
  rfl
theorem uN_s32 (x : Int64) : uN (x.toUInt64 >>> ((32 : Int32).toInt64.toUInt64 &&& Int64.toUInt64 63)).toInt64 = uN x / 4294967296 := by
  have h : ((32 : Int32).toInt64.toUInt64 &&& Int64.toUInt64 63).toNat % 64 = 32 := by decide
  rw [uN_shr, h]
theorem uN_s63 (x : Int64) : uN (x.toUInt64 >>> ((63 : Int32).toInt64.toUInt64 &&& Int64.toUInt64 63)).toInt64 = uN x / 9223372036854775808 := by
  have h : ((63 : Int32).toInt64.toUInt64 &&& Int64.toUInt64 63).toNat % 64 = 63 := by decide
  rw [uN_shr, h]
theorem uN_lo (x : Int64) : uN (x &&& 4294967295) = uN x % 4294967296 := by
  show (x.toUInt64 &&& Int64.toUInt64 4294967295).toNat = _
  rw [UInt64.toNat_and]
  exact Nat.and_two_pow_sub_one_eq_mod _ 32
theorem uN_bit (x : Int64) : (x &&& 1) = 0 ↔ uN x % 2 = 0 := by
  have h : uN (x &&& 1) = uN x % 2 := by
    show (x.toUInt64 &&& Int64.toUInt64 1).toNat = _
    rw [UInt64.toNat_and]
    exact Nat.and_two_pow_sub_one_eq_mod _ 1
  rw [← h]
  exact ⟨fun z => by rw [z]; rfl, fun z => uN_inj (z.trans rfl)⟩
theorem uN_or {x y : Int64} (hy : uN y < 2) : uN ((x <<< ((1 : Int32).toInt64 &&& 63)) ||| y) = (2 * uN x) % 18446744073709551616 + uN y := by
  have h1 : uN ((x <<< ((1 : Int32).toInt64 &&& 63)) ||| y) = uN (x <<< ((1 : Int32).toInt64 &&& 63)) ||| uN y := UInt64.toNat_or _ _
  have h2 : (2 * uN x) % 18446744073709551616 = 2 ^ 1 * (uN x % 9223372036854775808) := by omega
  rw [h1, uN_shl, h2]
  exact (Nat.two_pow_add_eq_or_of_lt (i := 1) hy _).symm
theorem nat_xor {a : Nat} (h : a < 18446744073709551616) : a ^^^ 2 ^ 63 = (a + 9223372036854775808) % 18446744073709551616 := by
  have h1 : (a ^^^ 2 ^ 63) % 2 ^ 63 = a % 2 ^ 63 := by rw [Nat.xor_mod_two_pow, Nat.mod_self, Nat.xor_zero]
  have h2 : (a ^^^ 2 ^ 63) / 2 ^ 63 = (a / 2 ^ 63) ^^^ 1 := by rw [Nat.xor_div_two_pow, Nat.div_self (Nat.two_pow_pos 63)]
  have h3 : a / 2 ^ 63 = 0 ∨ a / 2 ^ 63 = 1 := by omega
  generalize a ^^^ 2 ^ 63 = t at h1 h2
  rcases h3 with h3 | h3
  · rw [h3] at h2
    have h2 : t / 2 ^ 63 = 1 := h2
    omega
  · rw [h3] at h2
    have h2 : t / 2 ^ 63 = 0 := h2
    omega
theorem uN_xor (x : Int64) : uN (x ^^^ (-9223372036854775808)) = (uN x + 9223372036854775808) % 18446744073709551616 := by
  rw [← nat_xor (uN_lt x)]
  exact UInt64.toNat_xor _ _
theorem uN_int (x : Int64) : x.toInt = if 2 * uN x < 18446744073709551616 then (uN x : Int) else (uN x : Int) - 18446744073709551616 := BitVec.toInt_eq_toNat_cond _
theorem uN_le (x y : Int64) : (x ^^^ (-9223372036854775808)) ≤ (y ^^^ (-9223372036854775808)) ↔ uN x ≤ uN y := by
  have hx := uN_lt x
  have hy := uN_lt y
  rw [Int64.le_iff_toInt_le, uN_int, uN_int, uN_xor, uN_xor]
  omega
theorem uN_sk (x : Int64) {k : Nat} (hk : k < 64) : uN (x.toUInt64 >>> ((nI k).toInt64.toUInt64 &&& Int64.toUInt64 63)).toInt64 = uN x / 2 ^ k := by
  have h : ((nI k).toInt64.toUInt64 &&& Int64.toUInt64 63).toNat % 64 = k := by
    rw [nI_l (by omega), UInt64.toNat_and]
    have e : (lN k).toUInt64.toNat = k % 2 ^ 64 := rfl
    have e2 : (Int64.toUInt64 63).toNat = 2 ^ 6 - 1 := by decide
    rw [e, e2, Nat.and_two_pow_sub_one_eq_mod]
    omega
  rw [uN_shr, h]
theorem lN_bv (n : Nat) : (lN n).toBitVec = BitVec.ofNat 64 n := rfl
theorem lN_nat {n : Nat} (h : n < 2 ^ 64) : (lN n).toBitVec.toNat = n := by rw [lN_bv, BitVec.toNat_ofNat]; exact Nat.mod_eq_of_lt h
end
section
/-! The class's methods as functions of a state. Int fields: 0 own second, 1 last entry, 2 mode, 3 held in, 4 next throw, 5 ways now, 6 odd before, 7 outcome (of a unit); 8 kinds, 9 units, 10 seconds, 11 targets, 12 size (of the entries); 13 units, 14 size (of the order); 15 seconds, 16 units, 17 outcomes, 18 size (of the turns); 19 owners, 20 past owners, 21 seconds (of the board); 22 barred; 23 closed. Long fields: 0 values of the entries, 1 g, 2 values, 3 safe values, 4 past values. -/
def tn (x : Int32) : Nat := x.toNatClampNeg
def zin (x : Int32) (N : Nat) : Prop := x = nI (tn x) ∧ tn x < N
def zfi (σ : zS) (f : Nat) (h : Nat → Int32) : zS := (fun g j => if g = f then h j else σ.1 g j, σ.2)
def zfl (σ : zS) (f : Nat) (h : Nat → Int64) : zS := (σ.1, fun g j => if g = f then h j else σ.2 g j)
def fx_ended (σ : zS) (u : Nat) : Bool := !decide (σ.1 0 u ≤ σ.1 1 u)
def fx_acts (σ : zS) (u : Nat) : Bool := !decide (σ.1 2 u = 2) && !fx_ended σ u
def fx_asked (σ : zS) (u : Nat) : Int32 := σ.1 5 u &&& (σ.1 6 u ^^^ (-1))
def fx_given (σ : zS) (u : Nat) : Int32 := σ.1 5 u &&& σ.1 6 u
def fx_isUnit (n : Nat) (x : Int32) : Bool := !decide (x < 0) && !decide (nI n ≤ x)
def fx_isWay (x : Int32) : Bool := !decide (x < 0) && !decide (16 ≤ x)
def fx_isOut (u o : Int32) : Bool := !decide (o < 0) && decide (o / 4 = u)
def fx_hasWay (b w : Int32) : Bool := !decide ((b >>> (w &&& 31)) &&& 1 = 0)
def fx_hasOut (n : Nat) (k : Int32) : Bool := !decide (k < 0) && !decide (nI (n * 4) ≤ k)
def fx_wasDone (σ : zS) (x : Int32) : Bool := !decide (x < 0) && !decide (σ.1 21 0 ≤ x)
def fx_valueAt (n : Nat) (σ : zS) (k x : Int32) : Int64 := if fx_hasOut n k = true then (if x = -1 then σ.2 2 (tn k) else if fx_wasDone σ x = true then σ.2 4 (tn x * (n * 4) + tn k) else 0) else 0
def fx_ownerAt (σ : zS) (w x : Int32) : Int32 := if fx_isWay w = true then (if x = -1 then σ.1 19 (tn w) else if fx_wasDone σ x = true then σ.1 20 (tn x * 16 + tn w) else -1) else -1
def fx_safe1 (j : Nat) (σ : zS) : zS := zl σ 2 j (σ.2 3 j)
def fx_makeSafe (σ : zS) (u : Nat) : zS := zit fx_safe1 4 (u * 4) σ
def fx_ownsAll (σ : zS) (u b : Int32) : Nat → Nat → Bool
  | 0, _ => true
  | c + 1, k => if fx_hasWay b (nI k) = true ∧ ¬ σ.1 19 k = u then false else fx_ownsAll σ u b c (k + 1)
def fx_give1 (u b : Int32) (k : Nat) (σ : zS) : zS := if fx_hasWay b (nI k) = true ∧ σ.1 19 k = u then zi σ 19 k (-1) else σ
def fx_giveBack (σ : zS) (u b : Int32) : zS := zit (fx_give1 u b) 16 0 σ
def fx_keep (n b : Nat) (σ : zS) : zS := zi (zfi (zfl σ 4 (va_cpy (σ.2 2) (σ.2 4) 0 (b * (n * 4)) (n * 4))) 20 (va_cpy (σ.1 19) (σ.1 20) 0 (b * 16) 16)) 21 0 (nI (b + 1))
def fx_fill1 (k : Nat) (σ : zS) : zS := zi σ 19 k (-1)
def fx_shut (n : Nat) (σ : zS) : zS := zit fx_fill1 16 0 (zfl σ 2 (va_cpy (σ.2 3) (σ.2 2) 0 0 (n * 4)))
def fx_add (σ : zS) (E : Nat) (a b c d : Int32) (v : Int64) : zS := zi (zl (zi (zi (zi (zi σ 8 E a) 9 E b) 10 E c) 11 E d) 0 E v) 12 0 (nI (E + 1))
def fx_find (σ : zS) (a b c d : Int32) : Nat → Nat → Int32
  | 0, _ => -1
  | n + 1, k => if σ.1 8 k = a ∧ σ.1 9 k = b ∧ σ.1 10 k = c ∧ σ.1 11 k = d then nI k else fx_find σ a b c d n (k + 1)
def fx_brief0 (u : Nat) (σ : zS) : zS := zi (zi (zi σ 4 u (-1)) 5 u 0) 6 u 0
def fx_brief1 (e : Nat) (σ : zS) : zS :=
  if σ.1 8 e = 2 ∧ σ.1 10 e = σ.1 0 (tn (σ.1 9 e)) then zi σ 4 (tn (σ.1 9 e)) (nI e)
  else if σ.1 8 e = 1 ∧ σ.1 10 e = σ.1 0 (tn (σ.1 9 e)) then zi σ 5 (tn (σ.1 9 e)) (σ.1 5 (tn (σ.1 9 e)) ||| ((1 : Int32) <<< (σ.1 11 e &&& 31)))
  else if σ.1 8 e = 1 ∧ ¬ σ.1 0 (tn (σ.1 9 e)) ≤ σ.1 10 e then zi σ 6 (tn (σ.1 9 e)) (σ.1 6 (tn (σ.1 9 e)) ^^^ ((1 : Int32) <<< (σ.1 11 e &&& 31)))
  else σ
def fx_brief (n E : Nat) (σ : zS) : zS := zit fx_brief1 E 0 (zit fx_brief0 n 0 σ)
def fx_steps1 (e : Nat) (σ : zS) : zS := if σ.1 8 e = 0 ∧ σ.1 7 (tn (σ.1 9 e)) = 0 ∧ σ.1 10 e = σ.1 0 (tn (σ.1 9 e)) then zl σ 2 (tn (σ.1 11 e)) (σ.2 0 e) else σ
def fx_doSteps (E : Nat) (σ : zS) : zS := zit fx_steps1 E 0 σ
def fx_gather1 (u : Nat) (σ : zS) : zS := if fx_acts σ u = true then zi (zi σ 13 (tn (σ.1 14 0)) (nI u)) 14 0 (σ.1 14 0 + 1) else σ
def fx_gather (n : Nat) (σ : zS) : zS := zit fx_gather1 n 0 (zi σ 14 0 0)
/-- places from i down, each takes what stands before it -/
def fx_shift : Nat → Nat → zS → zS
  | 0, _, σ => σ
  | c + 1, i, σ => fx_shift c (i - 1) (zi σ 13 i (σ.1 13 (i - 1)))
def fx_move (σ : zS) (f t : Nat) : zS := zi (fx_shift (f - t) f σ) 13 t (σ.1 13 f)
def fx_lcg (g : Int64) : Int64 := g * 6364136223846793005 + 1442695040888963407
def fx_pick (g : Int64) (r : Nat) : Int32 :=
  Int64.toInt32 ((g.toUInt64 >>> ((Int32.toInt64 33).toUInt64 &&& Int64.toUInt64 63)).toInt64 - (g.toUInt64 >>> ((Int32.toInt64 33).toUInt64 &&& Int64.toUInt64 63)).toInt64 / Int32.toInt64 (nI r) * Int32.toInt64 (nI r))
def fx_draw1 (N k : Nat) (σ : zS) : zS := fx_move (zl σ 1 0 (fx_lcg (σ.2 1 0))) (k + tn (fx_pick (fx_lcg (σ.2 1 0)) (N - k))) k
def fx_draw (N : Nat) (σ : zS) : zS := zit (fx_draw1 N) N 0 σ
def fx_turn (σ : zS) (t : Nat) (a b c : Int32) : zS := zi (zi (zi (zi σ 15 t a) 16 t b) 17 t c) 18 0 (nI (t + 1))
def fx_look (σ : zS) (k x : Int32) : Int32 := if ¬ k < 0 ∧ k < σ.1 18 0 then (if x = 0 then σ.1 15 (tn k) else if x = 1 then σ.1 16 (tn k) else if x = 2 then σ.1 17 (tn k) else -1) else -1
def fx_takes (n : Nat) (σ : zS) (u x : Int32) : Bool := decide (fx_isUnit n u = true ∧ ¬ x < 0 ∧ ¬ 200 < x ∧ σ.1 23 0 = 0 ∧ ¬ x < σ.1 0 (tn u) ∧ ¬ 300 ≤ σ.1 12 0)
def fx_tell (σ : zS) (E : Nat) (a : Int32) (u : Nat) (c d : Int32) (v : Int64) : zS := zi (fx_add σ E a (nI u) c d v) 1 u (if σ.1 1 u < c then c else σ.1 1 u)
def fx_mode (σ : zS) (u : Nat) : Int32 := if σ.1 23 0 = 0 then (if fx_ended σ u = true then 3 else σ.1 2 u) else 4
def fx_acting (σ : zS) : Nat → Nat → Int32 → Int32
  | 0, _, r => r
  | c + 1, k, r => fx_acting σ c (k + 1) (if fx_mode σ k = 0 ∨ fx_mode σ k = 1 then r + 1 else r)
def fx_turn0 (u : Nat) (σ : zS) : zS := zi σ 7 u (-1)
def fx_turn1 (i : Nat) (σ : zS) : zS := zi σ 7 (tn (σ.1 13 i)) (if σ.1 4 (tn (σ.1 13 i)) = -1 then 1 else 2)
def fx_takeTurns (n N : Nat) (σ : zS) : zS := zit fx_turn1 N 0 (zit fx_turn0 n 0 σ)
def fx_hold1 (x : Int32) (u : Nat) (σ : zS) : zS := if σ.1 7 u = 2 then fx_makeSafe (zi (zi (zi σ 8 (tn (σ.1 4 u)) 3) 2 u 2) 3 u x) u else σ
def fx_hold (n : Nat) (x : Int32) (σ : zS) : zS := zit (fx_hold1 x) n 0 σ
def fx_least (σ : zS) (w : Int32) : Nat → Nat → Int32
  | 0, _ => -1
  | c + 1, k => if σ.1 7 k = 1 ∧ fx_hasWay (fx_asked σ k) w = true then nI k else fx_least σ w c (k + 1)
def fx_grant1 (n : Nat) (b : Int32) (w : Nat) (σ : zS) : zS := if σ.1 19 w = -1 ∧ fx_hasWay b (nI w) = false then zi σ 19 w (fx_least σ (nI w) n 0) else σ
def fx_grant (n : Nat) (b : Int32) (σ : zS) : zS := zit (fx_grant1 n b) 16 0 σ
def fx_set1 (u : Nat) (σ : zS) : zS := if σ.1 7 u = 1 ∧ fx_ownsAll σ (nI u) (fx_asked σ u) 16 0 = true then zi σ 7 u 0 else σ
def fx_set2 (u : Nat) (σ : zS) : zS :=
  if σ.1 7 u = 0 then zi (zi (fx_giveBack σ (nI u) (fx_given σ u)) 0 u ((fx_giveBack σ (nI u) (fx_given σ u)).1 0 u + 1)) 2 u 0
  else if σ.1 7 u = 1 then zi σ 2 u 1 else σ
def fx_settle (n E : Nat) (σ : zS) : zS := zit fx_set2 n 0 (fx_doSteps E (zit fx_set1 n 0 σ))
theorem zix {x : Int32} (h : ¬ x < 0) : x = nI (tn x) := by
  obtain ⟨j, hj, rfl⟩ := nI_of h
  unfold tn
  rw [nI_clamp hj]
theorem zixlt {x : Int32} {n : Nat} (h : ¬ x < 0) (h2 : ¬ nI n ≤ x) (hn : n < 2 ^ 31) : tn x < n := by
  obtain ⟨j, hj, rfl⟩ := nI_of h
  unfold tn
  rw [nI_clamp hj]
  rcases Nat.lt_or_ge j n with q | q
  · exact q
  · exact absurd (nI_le q hj) h2
theorem zixlt' {x : Int32} {n : Nat} (h : ¬ x < 0) (h2 : x < nI n) (hn : n < 2 ^ 31) : tn x < n := by
  obtain ⟨j, hj, rfl⟩ := nI_of h
  unfold tn
  rw [nI_clamp hj]
  exact (nI_ltI hj hn).mp h2
theorem tn_nI {k : Nat} (h : k < 2 ^ 31) : tn (nI k) = k := nI_clamp h
theorem fx_isUnit_in {n : Nat} {x : Int32} (h : fx_isUnit n x = true) (hn : n ≤ 8) : x = nI (tn x) ∧ tn x < n := by
  simp only [fx_isUnit, Bool.and_eq_true, Bool.not_eq_true', decide_eq_false_iff_not] at h
  exact ⟨zix h.1, zixlt h.1 h.2 (by omega)⟩
theorem fx_hasOut_in {n : Nat} {x : Int32} (h : fx_hasOut n x = true) (hn : n ≤ 8) : x = nI (tn x) ∧ tn x < n * 4 := by
  simp only [fx_hasOut, Bool.and_eq_true, Bool.not_eq_true', decide_eq_false_iff_not] at h
  exact ⟨zix h.1, zixlt h.1 h.2 (by omega)⟩
theorem fx_isWay_in {x : Int32} (h : fx_isWay x = true) : x = nI (tn x) ∧ tn x < 16 := by
  simp only [fx_isWay, Bool.and_eq_true, Bool.not_eq_true', decide_eq_false_iff_not] at h
  exact ⟨zix h.1, zixlt (n := 16) h.1 h.2 (by omega)⟩
theorem fx_wasDone_in {σ : zS} {b : Nat} {x : Int32} (h : fx_wasDone σ x = true) (hs : σ.1 21 0 = nI b) (hb : b ≤ 64) : x = nI (tn x) ∧ tn x < b := by
  simp only [fx_wasDone, Bool.and_eq_true, Bool.not_eq_true', decide_eq_false_iff_not] at h
  rw [hs] at h
  exact ⟨zix h.1, zixlt h.1 h.2 (by omega)⟩
theorem zmad {x y : Int32} {a b : Nat} (N : Nat) (hx : x = nI a) (hy : y = nI b) : x * nI N + y = nI (a * N + b) := by
  rw [hx, hy, pk_mul, nI_add]
theorem zidx {a i N M : Nat} (ha : a < M) (hi : i < N) : a * N + i < M * N := by
  have h : (a + 1) * N ≤ M * N := Nat.mul_le_mul_right N ha
  rw [Nat.add_mul, Nat.one_mul] at h
  omega
theorem wf_15 (κ : KA) (σ : zS) (h : Nat → Int64) : (wA κ σ).set 15 (aA κ 15, .inl (cJ κ, nA κ * 4, .inr (.inl h))) = wA κ (zfl σ 2 h) := rfl
theorem wf_18 (κ : KA) (σ : zS) (h : Nat → Int64) : (wA κ σ).set 18 (aA κ 18, .inl (cJ κ, 64 * (nA κ * 4), .inr (.inl h))) = wA κ (zfl σ 4 h) := rfl
theorem wf_19 (κ : KA) (σ : zS) (h : Nat → Int32) : (wA κ σ).set 19 (aA κ 19, .inl (cI κ, 1024, .inl h)) = wA κ (zfi σ 20 h) := rfl
theorem zcp {b M N : Nat} (h : b < M) : b * N + N ≤ M * N := by
  have h := Nat.mul_le_mul_right N (show b + 1 ≤ M from h)
  rw [Nat.add_mul, Nat.one_mul] at h
  exact h
theorem zit_k1 {step : Nat → zS → zS} {g : Nat} (h : ∀ k σ, (step k σ).1 g = σ.1 g) : ∀ (c k : Nat) (σ : zS), (zit step c k σ).1 g = σ.1 g
  | 0, _, _ => rfl
  | c + 1, k, σ => (zit_k1 h c (k + 1) (step k σ)).trans (h k σ)
theorem zit_k2 {step : Nat → zS → zS} {g : Nat} (h : ∀ k σ, (step k σ).2 g = σ.2 g) : ∀ (c k : Nat) (σ : zS), (zit step c k σ).2 g = σ.2 g
  | 0, _, _ => rfl
  | c + 1, k, σ => (zit_k2 h c (k + 1) (step k σ)).trans (h k σ)
theorem fx_shift_k1 {g : Nat} (hg : g ≠ 13) : ∀ (c i : Nat) (σ : zS), (fx_shift c i σ).1 g = σ.1 g
  | 0, _, _ => rfl
  | c + 1, i, σ => (fx_shift_k1 hg c (i - 1) _).trans (zi_nf _ _ hg)
theorem fx_move_k1 {g : Nat} (hg : g ≠ 13) (σ : zS) (f t : Nat) : (fx_move σ f t).1 g = σ.1 g := (zi_nf _ _ hg).trans (fx_shift_k1 hg _ _ _)
/-- an int remainder of a nonnegative long -/
theorem fx_pick_in (g : Int64) {r : Nat} (h0 : 0 < r) (hr : r ≤ 8) : fx_pick g r = nI (tn (fx_pick g r)) ∧ tn (fx_pick g r) < r := by
  have hx : ∃ a : Nat, a < 2 ^ 31 ∧ (g.toUInt64 >>> ((Int32.toInt64 33).toUInt64 &&& Int64.toUInt64 63)).toInt64 = lN a := by
    have e := uN_sk g (k := 33) (by omega)
    have h1 := uN_lt g
    refine ⟨uN g / 2 ^ 33, by omega, uN_inj ?_⟩
    show uN (g.toUInt64 >>> ((nI 33).toInt64.toUInt64 &&& Int64.toUInt64 63)).toInt64 = _
    rw [e]
    exact (lN_nat (by omega)).symm
  obtain ⟨a, ha, e⟩ := hx
  have hp : fx_pick g r = nI (a % r) := by
    unfold fx_pick
    rw [e, nI_l (show r < 2 ^ 31 by omega), pk_lRem (by omega) h0 (by omega), lN_i]
  have hlt := Nat.mod_lt a h0
  rw [hp, tn_nI (by omega)]
  exact ⟨rfl, hlt⟩
theorem zaddp {x : Int32} {k a : Nat} (h : x = nI a) : nI k + x = nI (k + a) := by rw [h, nI_add]
theorem zr_ne {a : Nat} (h0 : 0 < a) (h : a < 2 ^ 31) : ¬ Int32.toInt64 (nI a) = 0 := by
  rw [nI_l h]
  intro e
  have := (lN_eq (b := 0) h (by omega)).mp e
  omega
end
section
set_option maxHeartbeats 4000000 in
set_option maxRecDepth 100000 in
theorem c_Un_hasEnded (l : Launch) (κ : KA) (σ : zS) (u : Nat) (hu : u < nA κ) : zMi l y_Un_hasEnded (zws y_Un_hasEnded prog_6_method_2_code 1 (some .boolean)) ({ frames := 0, cells := 0, slots := 0, locals := 0 }) κ.1 vwCl (tysA κ) nwA (wA κ) σ [.ref (aA κ (64 + u))] (fun r σ' => r = zb (fx_ended σ u) ∧ σ' = σ) := by
  refine zintro (cc := prog_6_method_2_code) (maxL := 1) (ret := (some .boolean)) (by decide) rfl (Nat.le_of_ble_eq_true rfl) ?_
  intro p e s m below meth c ls hx hb hr hml hts hown hlocks hl B
  have hl : lv_has ls 1 [(0, .ref (aA κ (64 + u)))] := hl
  have B : BA κ (va_A (wA κ σ) s.heap.size) s.heap s σ s.heap [] := B
  have hr : meth.sig.returnType = (some .boolean) := hr
  have hown : s.vm.findClass "UnitThreads$Unit" = some m.cls := hown
  show W p l e (headSpec (zws y_Un_hasEnded prog_6_method_2_code 1 (some .boolean)) ({ frames := 0, cells := 0, slots := 0, locals := 0 })).room s m [.ref (aA κ (64 + u))].toArray below meth c s.heap [] 0 0 (MQ below (va_Qi (fun r σ' => r = zb (fx_ended σ u) ∧ σ' = σ) (zQ κ.1 vwCl (tysA κ) (wA κ) (va_A (wA κ σ) s.heap.size)) (va_A (wA κ σ) s.heap.size)) [.ref (aA κ (64 + u))].toArray s 0 0 (va_A (wA κ σ) s.heap.size)) (F0 m 0 ls [])
  generalize va_A (wA κ σ) s.heap.size = A at B ⊢
  have hts : ∀ w ∈ zW, w.before [.ref (aA κ (64 + u))].toArray s = true := fun w h => hts w (List.mem_cons_of_mem _ h)
  refine lv_aload_n hx hb d_Un_hasEnded_0 rfl (lv_at hl 0 rfl) ?_
  refine va_get (D := κ.1) (ci := 0) (v := .int (σ.1 0 u)) (C := "UnitThreads$Unit") (T := T_Un) (N := 8) hx hb hts in_Un hown B.1 B.2.1 (43 + u) (wa_u κ σ hu) rfl 0 (by decide) (hts _ w_32) (fun _ h9 => h9) rfl d_Un_hasEnded_1 ?_
  refine lv_aload_n hx hb d_Un_hasEnded_4 rfl (lv_at hl 0 rfl) ?_
  refine va_get (D := κ.1) (ci := 0) (v := .int (σ.1 1 u)) (C := "UnitThreads$Unit") (T := T_Un) (N := 8) hx hb hts in_Un hown B.1 B.2.1 (43 + u) (wa_u κ σ hu) rfl 1 (by decide) (hts _ w_35) (fun _ h9 => h9) rfl d_Un_hasEnded_5 ?_
  refine lv_icmp_le (tgt := 15) hx hb d_Un_hasEnded_8 (by decide) (fun c_1 => ?_) (fun c_1 => ?_)
  · refine lv_iconst (v := 0) hx hb d_Un_hasEnded_15 (by decide) ?_
    exact zret_z hx hb hr rfl hlocks B (⟨by simp [zb, fx_ended, c_1], rfl⟩) d_Un_hasEnded_16
  · refine lv_iconst (v := 1) hx hb d_Un_hasEnded_11 (by decide) ?_
    refine lv_goto (tgt := 16) hx hb d_Un_hasEnded_12 (by decide) ?_
    exact zret_z hx hb hr rfl hlocks B (⟨by simp [zb, fx_ended, c_1], rfl⟩) d_Un_hasEnded_16
set_option maxHeartbeats 4000000 in
set_option maxRecDepth 100000 in
theorem c_Un_acts (l : Launch) (κ : KA) (σ : zS) (u : Nat) (hu : u < nA κ) : zMi l y_Un_acts (zws y_Un_acts prog_6_method_3_code 1 (some .boolean)) ({ frames := 1, cells := 0, slots := 0, locals := 20 }) κ.1 vwCl (tysA κ) nwA (wA κ) σ [.ref (aA κ (64 + u))] (fun r σ' => r = zb (fx_acts σ u) ∧ σ' = σ) := by
  refine zintro (cc := prog_6_method_3_code) (maxL := 1) (ret := (some .boolean)) (by decide) rfl (Nat.le_of_ble_eq_true rfl) ?_
  intro p e s m below meth c ls hx hb hr hml hts hown hlocks hl B
  have hl : lv_has ls 1 [(0, .ref (aA κ (64 + u)))] := hl
  have B : BA κ (va_A (wA κ σ) s.heap.size) s.heap s σ s.heap [] := B
  have hr : meth.sig.returnType = (some .boolean) := hr
  have hown : s.vm.findClass "UnitThreads$Unit" = some m.cls := hown
  show W p l e (headSpec (zws y_Un_acts prog_6_method_3_code 1 (some .boolean)) ({ frames := 1, cells := 0, slots := 0, locals := 20 })).room s m [.ref (aA κ (64 + u))].toArray below meth c s.heap [] 0 0 (MQ below (va_Qi (fun r σ' => r = zb (fx_acts σ u) ∧ σ' = σ) (zQ κ.1 vwCl (tysA κ) (wA κ) (va_A (wA κ σ) s.heap.size)) (va_A (wA κ σ) s.heap.size)) [.ref (aA κ (64 + u))].toArray s 0 0 (va_A (wA κ σ) s.heap.size)) (F0 m 0 ls [])
  generalize va_A (wA κ σ) s.heap.size = A at B ⊢
  have hts : ∀ w ∈ zW, w.before [.ref (aA κ (64 + u))].toArray s = true := fun w h => hts w (List.mem_cons_of_mem _ h)
  refine lv_aload_n hx hb d_Un_acts_0 rfl (lv_at hl 0 rfl) ?_
  refine va_get (D := κ.1) (ci := 0) (v := .int (σ.1 2 u)) (C := "UnitThreads$Unit") (T := T_Un) (N := 8) hx hb hts in_Un hown B.1 B.2.1 (43 + u) (wa_u κ σ hu) rfl 2 (by decide) (hts _ w_37) (fun _ h9 => h9) rfl d_Un_acts_1 ?_
  refine lv_iconst (v := 2) hx hb d_Un_acts_4 (by decide) ?_
  refine lv_icmp_eq (tgt := 19) hx hb d_Un_acts_5 (by decide) (fun c_1 => ?_) (fun c_1 => ?_)
  · refine lv_iconst (v := 0) hx hb d_Un_acts_19 (by decide) ?_
    exact zret_z hx hb hr rfl hlocks B (⟨by simp [zb, fx_acts, c_1], rfl⟩) d_Un_acts_20
  · refine lv_aload_n hx hb d_Un_acts_8 rfl (lv_at hl 0 rfl) ?_
    refine zcV_i (As := []) (rest := []) ⟨hx, hb, hml, hown, hts⟩ (c_Un_hasEnded l κ σ u hu ) (cwV 0 hts (zgoodV w_274 w_255 w_256 w_3 w_257) rfl rfl rfl (by decide +kernel) ⟨Nat.le_of_ble_eq_true rfl, Nat.le_of_ble_eq_true rfl⟩) B (zrecv B (ci := 0) rfl (wa_u κ σ hu)) rfl hl.1 rfl (Nat.le_of_ble_eq_true rfl) d_Un_acts_9 ⟨Nat.zero_le _, Nat.zero_le _⟩ (fun r σ' H locs hp B => ?_)
    obtain ⟨rfl, hp⟩ := hp
    rw [hp] at B
    have B : BA κ A s.heap s σ H locs := B
    refine lv_if_ne (tgt := 19) hx hb d_Un_acts_12 (by decide) (fun c_2 => ?_) (fun c_2 => ?_)
    · have c_2 := zb_ne0.mp c_2
      refine lv_iconst (v := 0) hx hb d_Un_acts_19 (by decide) ?_
      exact zret_z hx hb hr rfl hlocks B (⟨by simp [zb, fx_acts, c_1, c_2], rfl⟩) d_Un_acts_20
    · have c_2 := zb_eq0.mp c_2
      refine lv_iconst (v := 1) hx hb d_Un_acts_15 (by decide) ?_
      refine lv_goto (tgt := 20) hx hb d_Un_acts_16 (by decide) ?_
      exact zret_z hx hb hr rfl hlocks B (⟨by simp [zb, fx_acts, c_1, c_2], rfl⟩) d_Un_acts_20
set_option maxHeartbeats 4000000 in
set_option maxRecDepth 100000 in
theorem c_Un_asked (l : Launch) (κ : KA) (σ : zS) (u : Nat) (hu : u < nA κ) : zMi l y_Un_asked (zws y_Un_asked prog_6_method_4_code 1 (some .int)) ({ frames := 0, cells := 0, slots := 0, locals := 0 }) κ.1 vwCl (tysA κ) nwA (wA κ) σ [.ref (aA κ (64 + u))] (fun r σ' => r = fx_asked σ u ∧ σ' = σ) := by
  refine zintro (cc := prog_6_method_4_code) (maxL := 1) (ret := (some .int)) (by decide) rfl (Nat.le_of_ble_eq_true rfl) ?_
  intro p e s m below meth c ls hx hb hr hml hts hown hlocks hl B
  have hl : lv_has ls 1 [(0, .ref (aA κ (64 + u)))] := hl
  have B : BA κ (va_A (wA κ σ) s.heap.size) s.heap s σ s.heap [] := B
  have hr : meth.sig.returnType = (some .int) := hr
  have hown : s.vm.findClass "UnitThreads$Unit" = some m.cls := hown
  show W p l e (headSpec (zws y_Un_asked prog_6_method_4_code 1 (some .int)) ({ frames := 0, cells := 0, slots := 0, locals := 0 })).room s m [.ref (aA κ (64 + u))].toArray below meth c s.heap [] 0 0 (MQ below (va_Qi (fun r σ' => r = fx_asked σ u ∧ σ' = σ) (zQ κ.1 vwCl (tysA κ) (wA κ) (va_A (wA κ σ) s.heap.size)) (va_A (wA κ σ) s.heap.size)) [.ref (aA κ (64 + u))].toArray s 0 0 (va_A (wA κ σ) s.heap.size)) (F0 m 0 ls [])
  generalize va_A (wA κ σ) s.heap.size = A at B ⊢
  have hts : ∀ w ∈ zW, w.before [.ref (aA κ (64 + u))].toArray s = true := fun w h => hts w (List.mem_cons_of_mem _ h)
  refine lv_aload_n hx hb d_Un_asked_0 rfl (lv_at hl 0 rfl) ?_
  refine va_get (D := κ.1) (ci := 0) (v := .int (σ.1 5 u)) (C := "UnitThreads$Unit") (T := T_Un) (N := 8) hx hb hts in_Un hown B.1 B.2.1 (43 + u) (wa_u κ σ hu) rfl 5 (by decide) (hts _ w_44) (fun _ h9 => h9) rfl d_Un_asked_1 ?_
  refine lv_aload_n hx hb d_Un_asked_4 rfl (lv_at hl 0 rfl) ?_
  refine va_get (D := κ.1) (ci := 0) (v := .int (σ.1 6 u)) (C := "UnitThreads$Unit") (T := T_Un) (N := 8) hx hb hts in_Un hown B.1 B.2.1 (43 + u) (wa_u κ σ hu) rfl 6 (by decide) (hts _ w_46) (fun _ h9 => h9) rfl d_Un_asked_5 ?_
  refine lv_iconst (v := (-1)) hx hb d_Un_asked_8 (by decide) ?_
  refine lv_ixor hx hb d_Un_asked_9 ?_
  refine lv_iand hx hb d_Un_asked_10 ?_
  exact zret_i hx hb hr hlocks B (⟨rfl, rfl⟩) d_Un_asked_11
set_option maxHeartbeats 4000000 in
set_option maxRecDepth 100000 in
theorem c_Un_given (l : Launch) (κ : KA) (σ : zS) (u : Nat) (hu : u < nA κ) : zMi l y_Un_given (zws y_Un_given prog_6_method_5_code 1 (some .int)) ({ frames := 0, cells := 0, slots := 0, locals := 0 }) κ.1 vwCl (tysA κ) nwA (wA κ) σ [.ref (aA κ (64 + u))] (fun r σ' => r = fx_given σ u ∧ σ' = σ) := by
  refine zintro (cc := prog_6_method_5_code) (maxL := 1) (ret := (some .int)) (by decide) rfl (Nat.le_of_ble_eq_true rfl) ?_
  intro p e s m below meth c ls hx hb hr hml hts hown hlocks hl B
  have hl : lv_has ls 1 [(0, .ref (aA κ (64 + u)))] := hl
  have B : BA κ (va_A (wA κ σ) s.heap.size) s.heap s σ s.heap [] := B
  have hr : meth.sig.returnType = (some .int) := hr
  have hown : s.vm.findClass "UnitThreads$Unit" = some m.cls := hown
  show W p l e (headSpec (zws y_Un_given prog_6_method_5_code 1 (some .int)) ({ frames := 0, cells := 0, slots := 0, locals := 0 })).room s m [.ref (aA κ (64 + u))].toArray below meth c s.heap [] 0 0 (MQ below (va_Qi (fun r σ' => r = fx_given σ u ∧ σ' = σ) (zQ κ.1 vwCl (tysA κ) (wA κ) (va_A (wA κ σ) s.heap.size)) (va_A (wA κ σ) s.heap.size)) [.ref (aA κ (64 + u))].toArray s 0 0 (va_A (wA κ σ) s.heap.size)) (F0 m 0 ls [])
  generalize va_A (wA κ σ) s.heap.size = A at B ⊢
  have hts : ∀ w ∈ zW, w.before [.ref (aA κ (64 + u))].toArray s = true := fun w h => hts w (List.mem_cons_of_mem _ h)
  refine lv_aload_n hx hb d_Un_given_0 rfl (lv_at hl 0 rfl) ?_
  refine va_get (D := κ.1) (ci := 0) (v := .int (σ.1 5 u)) (C := "UnitThreads$Unit") (T := T_Un) (N := 8) hx hb hts in_Un hown B.1 B.2.1 (43 + u) (wa_u κ σ hu) rfl 5 (by decide) (hts _ w_44) (fun _ h9 => h9) rfl d_Un_given_1 ?_
  refine lv_aload_n hx hb d_Un_given_4 rfl (lv_at hl 0 rfl) ?_
  refine va_get (D := κ.1) (ci := 0) (v := .int (σ.1 6 u)) (C := "UnitThreads$Unit") (T := T_Un) (N := 8) hx hb hts in_Un hown B.1 B.2.1 (43 + u) (wa_u κ σ hu) rfl 6 (by decide) (hts _ w_46) (fun _ h9 => h9) rfl d_Un_given_5 ?_
  refine lv_iand hx hb d_Un_given_8 ?_
  exact zret_i hx hb hr hlocks B (⟨rfl, rfl⟩) d_Un_given_9
set_option maxHeartbeats 4000000 in
set_option maxRecDepth 100000 in
theorem c_Ut_isUnit (l : Launch) (κ : KA) (σ : zS) (p1 : Int32) : zMi l y_Ut_isUnit (zws y_Ut_isUnit prog_1_method_16_code 2 (some .boolean)) ({ frames := 0, cells := 0, slots := 0, locals := 0 }) κ.1 vwCl (tysA κ) nwA (wA κ) σ [.ref (aA κ 0), .int (p1)] (fun r σ' => r = zb (fx_isUnit (nA κ) p1) ∧ σ' = σ) := by
  refine zintro (cc := prog_1_method_16_code) (maxL := 2) (ret := (some .boolean)) (by decide) rfl (Nat.le_of_ble_eq_true rfl) ?_
  intro p e s m below meth c ls hx hb hr hml hts hown hlocks hl B
  have hl : lv_has ls 2 [(0, .ref (aA κ 0)), (1, .int (p1))] := hl
  have B : BA κ (va_A (wA κ σ) s.heap.size) s.heap s σ s.heap [] := B
  have hr : meth.sig.returnType = (some .boolean) := hr
  have hown : s.vm.findClass "UnitThreads" = some m.cls := hown
  show W p l e (headSpec (zws y_Ut_isUnit prog_1_method_16_code 2 (some .boolean)) ({ frames := 0, cells := 0, slots := 0, locals := 0 })).room s m [.ref (aA κ 0), .int (p1)].toArray below meth c s.heap [] 0 0 (MQ below (va_Qi (fun r σ' => r = zb (fx_isUnit (nA κ) p1) ∧ σ' = σ) (zQ κ.1 vwCl (tysA κ) (wA κ) (va_A (wA κ σ) s.heap.size)) (va_A (wA κ σ) s.heap.size)) [.ref (aA κ 0), .int (p1)].toArray s 0 0 (va_A (wA κ σ) s.heap.size)) (F0 m 0 ls [])
  generalize va_A (wA κ σ) s.heap.size = A at B ⊢
  have hts : ∀ w ∈ zW, w.before [.ref (aA κ 0), .int (p1)].toArray s = true := fun w h => hts w (List.mem_cons_of_mem _ h)
  refine lv_iload_n hx hb d_Ut_isUnit_0 rfl (lv_at hl 1 rfl) ?_
  refine lv_if_lt (tgt := 17) hx hb d_Ut_isUnit_1 (by decide) (fun c_1 => ?_) (fun c_1 => ?_)
  · refine lv_iconst (v := 0) hx hb d_Ut_isUnit_17 (by decide) ?_
    exact zret_z hx hb hr rfl hlocks B (⟨by simp [zb, fx_isUnit, c_1], rfl⟩) d_Ut_isUnit_18
  · refine lv_iload_n hx hb d_Ut_isUnit_4 rfl (lv_at hl 1 rfl) ?_
    refine lv_aload_n hx hb d_Ut_isUnit_5 rfl (lv_at hl 0 rfl) ?_
    refine va_get (D := κ.1) (ci := 5) (v := .ref (aA κ 1)) (C := "UnitThreads") (T := T_Ut) (N := 7) hx hb hts in_Ut hown B.1 B.2.1 0 (wa_0 κ σ) rfl 0 (by decide) (hts _ w_167) (fun _ h9 => h9) rfl d_Ut_isUnit_6 ?_
    refine zalen hx hb B 1 2 (wa_1 κ σ) rfl d_Ut_isUnit_9 ?_
    refine lv_icmp_ge (tgt := 17) hx hb d_Ut_isUnit_10 (by decide) (fun c_2 => ?_) (fun c_2 => ?_)
    · refine lv_iconst (v := 0) hx hb d_Ut_isUnit_17 (by decide) ?_
      exact zret_z hx hb hr rfl hlocks B (⟨by simp [zb, fx_isUnit, c_1, c_2], rfl⟩) d_Ut_isUnit_18
    · refine lv_iconst (v := 1) hx hb d_Ut_isUnit_13 (by decide) ?_
      refine lv_goto (tgt := 18) hx hb d_Ut_isUnit_14 (by decide) ?_
      exact zret_z hx hb hr rfl hlocks B (⟨by simp [zb, fx_isUnit, c_1, c_2], rfl⟩) d_Ut_isUnit_18
set_option maxHeartbeats 4000000 in
set_option maxRecDepth 100000 in
theorem c_Ut_isWay (l : Launch) (κ : KA) (σ : zS) (p0 : Int32) : zMi l y_Ut_isWay (zws y_Ut_isWay prog_1_method_17_code 1 (some .boolean)) ({ frames := 0, cells := 0, slots := 0, locals := 0 }) κ.1 vwCl (tysA κ) nwA (wA κ) σ [.int (p0)] (fun r σ' => r = zb (fx_isWay p0) ∧ σ' = σ) := by
  refine zintro (cc := prog_1_method_17_code) (maxL := 1) (ret := (some .boolean)) (by decide) rfl (Nat.le_of_ble_eq_true rfl) ?_
  intro p e s m below meth c ls hx hb hr hml hts hown hlocks hl B
  have hl : lv_has ls 1 [(0, .int (p0))] := hl
  have B : BA κ (va_A (wA κ σ) s.heap.size) s.heap s σ s.heap [] := B
  have hr : meth.sig.returnType = (some .boolean) := hr
  have hown : s.vm.findClass "UnitThreads" = some m.cls := hown
  show W p l e (headSpec (zws y_Ut_isWay prog_1_method_17_code 1 (some .boolean)) ({ frames := 0, cells := 0, slots := 0, locals := 0 })).room s m [.int (p0)].toArray below meth c s.heap [] 0 0 (MQ below (va_Qi (fun r σ' => r = zb (fx_isWay p0) ∧ σ' = σ) (zQ κ.1 vwCl (tysA κ) (wA κ) (va_A (wA κ σ) s.heap.size)) (va_A (wA κ σ) s.heap.size)) [.int (p0)].toArray s 0 0 (va_A (wA κ σ) s.heap.size)) (F0 m 0 ls [])
  generalize va_A (wA κ σ) s.heap.size = A at B ⊢
  have hts : ∀ w ∈ zW, w.before [.int (p0)].toArray s = true := fun w h => hts w (List.mem_cons_of_mem _ h)
  refine lv_iload_n hx hb d_Ut_isWay_0 rfl (lv_at hl 0 rfl) ?_
  refine lv_if_lt (tgt := 14) hx hb d_Ut_isWay_1 (by decide) (fun c_1 => ?_) (fun c_1 => ?_)
  · refine lv_iconst (v := 0) hx hb d_Ut_isWay_14 (by decide) ?_
    exact zret_z hx hb hr rfl hlocks B (⟨by simp [zb, fx_isWay, c_1], rfl⟩) d_Ut_isWay_15
  · refine lv_iload_n hx hb d_Ut_isWay_4 rfl (lv_at hl 0 rfl) ?_
    refine lv_bipush (v := 16) hx hb d_Ut_isWay_5 (by decide) ?_
    refine lv_icmp_ge (tgt := 14) hx hb d_Ut_isWay_7 (by decide) (fun c_2 => ?_) (fun c_2 => ?_)
    · refine lv_iconst (v := 0) hx hb d_Ut_isWay_14 (by decide) ?_
      exact zret_z hx hb hr rfl hlocks B (⟨by simp [zb, fx_isWay, c_1, c_2], rfl⟩) d_Ut_isWay_15
    · refine lv_iconst (v := 1) hx hb d_Ut_isWay_10 (by decide) ?_
      refine lv_goto (tgt := 15) hx hb d_Ut_isWay_11 (by decide) ?_
      exact zret_z hx hb hr rfl hlocks B (⟨by simp [zb, fx_isWay, c_1, c_2], rfl⟩) d_Ut_isWay_15
set_option maxHeartbeats 4000000 in
set_option maxRecDepth 100000 in
theorem c_Ut_isOutputOf (l : Launch) (κ : KA) (σ : zS) (p0 p1 : Int32) : zMi l y_Ut_isOutputOf (zws y_Ut_isOutputOf prog_1_method_18_code 2 (some .boolean)) ({ frames := 0, cells := 0, slots := 0, locals := 0 }) κ.1 vwCl (tysA κ) nwA (wA κ) σ [.int (p0), .int (p1)] (fun r σ' => r = zb (fx_isOut p0 p1) ∧ σ' = σ) := by
  refine zintro (cc := prog_1_method_18_code) (maxL := 2) (ret := (some .boolean)) (by decide) rfl (Nat.le_of_ble_eq_true rfl) ?_
  intro p e s m below meth c ls hx hb hr hml hts hown hlocks hl B
  have hl : lv_has ls 2 [(0, .int (p0)), (1, .int (p1))] := hl
  have B : BA κ (va_A (wA κ σ) s.heap.size) s.heap s σ s.heap [] := B
  have hr : meth.sig.returnType = (some .boolean) := hr
  have hown : s.vm.findClass "UnitThreads" = some m.cls := hown
  show W p l e (headSpec (zws y_Ut_isOutputOf prog_1_method_18_code 2 (some .boolean)) ({ frames := 0, cells := 0, slots := 0, locals := 0 })).room s m [.int (p0), .int (p1)].toArray below meth c s.heap [] 0 0 (MQ below (va_Qi (fun r σ' => r = zb (fx_isOut p0 p1) ∧ σ' = σ) (zQ κ.1 vwCl (tysA κ) (wA κ) (va_A (wA κ σ) s.heap.size)) (va_A (wA κ σ) s.heap.size)) [.int (p0), .int (p1)].toArray s 0 0 (va_A (wA κ σ) s.heap.size)) (F0 m 0 ls [])
  generalize va_A (wA κ σ) s.heap.size = A at B ⊢
  have hts : ∀ w ∈ zW, w.before [.int (p0), .int (p1)].toArray s = true := fun w h => hts w (List.mem_cons_of_mem _ h)
  refine lv_iload_n hx hb d_Ut_isOutputOf_0 rfl (lv_at hl 1 rfl) ?_
  refine lv_if_lt (tgt := 15) hx hb d_Ut_isOutputOf_1 (by decide) (fun c_1 => ?_) (fun c_1 => ?_)
  · refine lv_iconst (v := 0) hx hb d_Ut_isOutputOf_15 (by decide) ?_
    exact zret_z hx hb hr rfl hlocks B (⟨by simp [zb, fx_isOut, c_1], rfl⟩) d_Ut_isOutputOf_16
  · refine lv_iload_n hx hb d_Ut_isOutputOf_4 rfl (lv_at hl 1 rfl) ?_
    refine lv_iconst (v := 4) hx hb d_Ut_isOutputOf_5 (by decide) ?_
    refine lv_idiv hx hb d_Ut_isOutputOf_6 (by decide) ?_
    refine lv_iload_n hx hb d_Ut_isOutputOf_7 rfl (lv_at hl 0 rfl) ?_
    refine lv_icmp_ne (tgt := 15) hx hb d_Ut_isOutputOf_8 (by decide) (fun c_2 => ?_) (fun c_2 => ?_)
    · refine lv_iconst (v := 0) hx hb d_Ut_isOutputOf_15 (by decide) ?_
      exact zret_z hx hb hr rfl hlocks B (⟨by simp [zb, fx_isOut, c_1, c_2], rfl⟩) d_Ut_isOutputOf_16
    · refine lv_iconst (v := 1) hx hb d_Ut_isOutputOf_11 (by decide) ?_
      refine lv_goto (tgt := 16) hx hb d_Ut_isOutputOf_12 (by decide) ?_
      exact zret_z hx hb hr rfl hlocks B (⟨by simp [zb, fx_isOut, c_1, c_2], rfl⟩) d_Ut_isOutputOf_16
set_option maxHeartbeats 4000000 in
set_option maxRecDepth 100000 in
theorem c_Ut_hasWay (l : Launch) (κ : KA) (σ : zS) (p0 p1 : Int32) : zMi l y_Ut_hasWay (zws y_Ut_hasWay prog_1_method_19_code 2 (some .boolean)) ({ frames := 0, cells := 0, slots := 0, locals := 0 }) κ.1 vwCl (tysA κ) nwA (wA κ) σ [.int (p0), .int (p1)] (fun r σ' => r = zb (fx_hasWay p0 p1) ∧ σ' = σ) := by
  refine zintro (cc := prog_1_method_19_code) (maxL := 2) (ret := (some .boolean)) (by decide) rfl (Nat.le_of_ble_eq_true rfl) ?_
  intro p e s m below meth c ls hx hb hr hml hts hown hlocks hl B
  have hl : lv_has ls 2 [(0, .int (p0)), (1, .int (p1))] := hl
  have B : BA κ (va_A (wA κ σ) s.heap.size) s.heap s σ s.heap [] := B
  have hr : meth.sig.returnType = (some .boolean) := hr
  have hown : s.vm.findClass "UnitThreads" = some m.cls := hown
  show W p l e (headSpec (zws y_Ut_hasWay prog_1_method_19_code 2 (some .boolean)) ({ frames := 0, cells := 0, slots := 0, locals := 0 })).room s m [.int (p0), .int (p1)].toArray below meth c s.heap [] 0 0 (MQ below (va_Qi (fun r σ' => r = zb (fx_hasWay p0 p1) ∧ σ' = σ) (zQ κ.1 vwCl (tysA κ) (wA κ) (va_A (wA κ σ) s.heap.size)) (va_A (wA κ σ) s.heap.size)) [.int (p0), .int (p1)].toArray s 0 0 (va_A (wA κ σ) s.heap.size)) (F0 m 0 ls [])
  generalize va_A (wA κ σ) s.heap.size = A at B ⊢
  have hts : ∀ w ∈ zW, w.before [.int (p0), .int (p1)].toArray s = true := fun w h => hts w (List.mem_cons_of_mem _ h)
  refine lv_iload_n hx hb d_Ut_hasWay_0 rfl (lv_at hl 0 rfl) ?_
  refine lv_iload_n hx hb d_Ut_hasWay_1 rfl (lv_at hl 1 rfl) ?_
  refine lv_ishr hx hb d_Ut_hasWay_2 ?_
  refine lv_iconst (v := 1) hx hb d_Ut_hasWay_3 (by decide) ?_
  refine lv_iand hx hb d_Ut_hasWay_4 ?_
  refine lv_if_eq (tgt := 12) hx hb d_Ut_hasWay_5 (by decide) (fun c_1 => ?_) (fun c_1 => ?_)
  · refine lv_iconst (v := 0) hx hb d_Ut_hasWay_12 (by decide) ?_
    exact zret_z hx hb hr rfl hlocks B (⟨by simp [zb, fx_hasWay, c_1], rfl⟩) d_Ut_hasWay_13
  · refine lv_iconst (v := 1) hx hb d_Ut_hasWay_8 (by decide) ?_
    refine lv_goto (tgt := 13) hx hb d_Ut_hasWay_9 (by decide) ?_
    exact zret_z hx hb hr rfl hlocks B (⟨by simp [zb, fx_hasWay, c_1], rfl⟩) d_Ut_hasWay_13
end
section
set_option maxHeartbeats 4000000 in
set_option maxRecDepth 100000 in
theorem c_Bo_hasOutput (l : Launch) (κ : KA) (σ : zS) (p1 : Int32) : zMi l y_Bo_hasOutput (zws y_Bo_hasOutput prog_2_method_2_code 2 (some .boolean)) ({ frames := 0, cells := 0, slots := 0, locals := 0 }) κ.1 vwCl (tysA κ) nwA (wA κ) σ [.ref (aA κ 14), .int (p1)] (fun r σ' => r = zb (fx_hasOut (nA κ) p1) ∧ σ' = σ) := by
  refine zintro (cc := prog_2_method_2_code) (maxL := 2) (ret := (some .boolean)) (by decide) rfl (Nat.le_of_ble_eq_true rfl) ?_
  intro p e s m below meth c ls hx hb hr hml hts hown hlocks hl B
  have hl : lv_has ls 2 [(0, .ref (aA κ 14)), (1, .int (p1))] := hl
  have B : BA κ (va_A (wA κ σ) s.heap.size) s.heap s σ s.heap [] := B
  have hr : meth.sig.returnType = (some .boolean) := hr
  have hown : s.vm.findClass "UnitThreads$Board" = some m.cls := hown
  show W p l e (headSpec (zws y_Bo_hasOutput prog_2_method_2_code 2 (some .boolean)) ({ frames := 0, cells := 0, slots := 0, locals := 0 })).room s m [.ref (aA κ 14), .int (p1)].toArray below meth c s.heap [] 0 0 (MQ below (va_Qi (fun r σ' => r = zb (fx_hasOut (nA κ) p1) ∧ σ' = σ) (zQ κ.1 vwCl (tysA κ) (wA κ) (va_A (wA κ σ) s.heap.size)) (va_A (wA κ σ) s.heap.size)) [.ref (aA κ 14), .int (p1)].toArray s 0 0 (va_A (wA κ σ) s.heap.size)) (F0 m 0 ls [])
  generalize va_A (wA κ σ) s.heap.size = A at B ⊢
  have hts : ∀ w ∈ zW, w.before [.ref (aA κ 14), .int (p1)].toArray s = true := fun w h => hts w (List.mem_cons_of_mem _ h)
  refine lv_iload_n hx hb d_Bo_hasOutput_0 rfl (lv_at hl 1 rfl) ?_
  refine lv_if_lt (tgt := 17) hx hb d_Bo_hasOutput_1 (by decide) (fun c_1 => ?_) (fun c_1 => ?_)
  · refine lv_iconst (v := 0) hx hb d_Bo_hasOutput_17 (by decide) ?_
    exact zret_z hx hb hr rfl hlocks B (⟨by simp [zb, fx_hasOut, c_1], rfl⟩) d_Bo_hasOutput_18
  · refine lv_iload_n hx hb d_Bo_hasOutput_4 rfl (lv_at hl 1 rfl) ?_
    refine lv_aload_n hx hb d_Bo_hasOutput_5 rfl (lv_at hl 0 rfl) ?_
    refine va_get (D := κ.1) (ci := 4) (v := .ref (aA κ 15)) (C := "UnitThreads$Board") (T := T_Bo) (N := 6) hx hb hts in_Bo hown B.1 B.2.1 14 (wa_14 κ σ) rfl 0 (by decide) (hts _ w_144) (fun _ h9 => h9) rfl d_Bo_hasOutput_6 ?_
    refine zalen hx hb B 15 1 (wa_15 κ σ) rfl d_Bo_hasOutput_9 ?_
    refine lv_icmp_ge (tgt := 17) hx hb d_Bo_hasOutput_10 (by decide) (fun c_2 => ?_) (fun c_2 => ?_)
    · refine lv_iconst (v := 0) hx hb d_Bo_hasOutput_17 (by decide) ?_
      exact zret_z hx hb hr rfl hlocks B (⟨by simp [zb, fx_hasOut, c_1, c_2], rfl⟩) d_Bo_hasOutput_18
    · refine lv_iconst (v := 1) hx hb d_Bo_hasOutput_13 (by decide) ?_
      refine lv_goto (tgt := 18) hx hb d_Bo_hasOutput_14 (by decide) ?_
      exact zret_z hx hb hr rfl hlocks B (⟨by simp [zb, fx_hasOut, c_1, c_2], rfl⟩) d_Bo_hasOutput_18
set_option maxHeartbeats 4000000 in
set_option maxRecDepth 100000 in
theorem c_Bo_wasDone (l : Launch) (κ : KA) (σ : zS) (p1 : Int32) : zMi l y_Bo_wasDone (zws y_Bo_wasDone prog_2_method_3_code 2 (some .boolean)) ({ frames := 0, cells := 0, slots := 0, locals := 0 }) κ.1 vwCl (tysA κ) nwA (wA κ) σ [.ref (aA κ 14), .int (p1)] (fun r σ' => r = zb (fx_wasDone σ p1) ∧ σ' = σ) := by
  refine zintro (cc := prog_2_method_3_code) (maxL := 2) (ret := (some .boolean)) (by decide) rfl (Nat.le_of_ble_eq_true rfl) ?_
  intro p e s m below meth c ls hx hb hr hml hts hown hlocks hl B
  have hl : lv_has ls 2 [(0, .ref (aA κ 14)), (1, .int (p1))] := hl
  have B : BA κ (va_A (wA κ σ) s.heap.size) s.heap s σ s.heap [] := B
  have hr : meth.sig.returnType = (some .boolean) := hr
  have hown : s.vm.findClass "UnitThreads$Board" = some m.cls := hown
  show W p l e (headSpec (zws y_Bo_wasDone prog_2_method_3_code 2 (some .boolean)) ({ frames := 0, cells := 0, slots := 0, locals := 0 })).room s m [.ref (aA κ 14), .int (p1)].toArray below meth c s.heap [] 0 0 (MQ below (va_Qi (fun r σ' => r = zb (fx_wasDone σ p1) ∧ σ' = σ) (zQ κ.1 vwCl (tysA κ) (wA κ) (va_A (wA κ σ) s.heap.size)) (va_A (wA κ σ) s.heap.size)) [.ref (aA κ 14), .int (p1)].toArray s 0 0 (va_A (wA κ σ) s.heap.size)) (F0 m 0 ls [])
  generalize va_A (wA κ σ) s.heap.size = A at B ⊢
  have hts : ∀ w ∈ zW, w.before [.ref (aA κ 14), .int (p1)].toArray s = true := fun w h => hts w (List.mem_cons_of_mem _ h)
  refine lv_iload_n hx hb d_Bo_wasDone_0 rfl (lv_at hl 1 rfl) ?_
  refine lv_if_lt (tgt := 16) hx hb d_Bo_wasDone_1 (by decide) (fun c_1 => ?_) (fun c_1 => ?_)
  · refine lv_iconst (v := 0) hx hb d_Bo_wasDone_16 (by decide) ?_
    exact zret_z hx hb hr rfl hlocks B (⟨by simp [zb, fx_wasDone, c_1], rfl⟩) d_Bo_wasDone_17
  · refine lv_iload_n hx hb d_Bo_wasDone_4 rfl (lv_at hl 1 rfl) ?_
    refine lv_aload_n hx hb d_Bo_wasDone_5 rfl (lv_at hl 0 rfl) ?_
    refine va_get (D := κ.1) (ci := 4) (v := .int (σ.1 21 0)) (C := "UnitThreads$Board") (T := T_Bo) (N := 6) hx hb hts in_Bo hown B.1 B.2.1 14 (wa_14 κ σ) rfl 5 (by decide) (hts _ w_152) (fun _ h9 => h9) rfl d_Bo_wasDone_6 ?_
    refine lv_icmp_ge (tgt := 16) hx hb d_Bo_wasDone_9 (by decide) (fun c_2 => ?_) (fun c_2 => ?_)
    · refine lv_iconst (v := 0) hx hb d_Bo_wasDone_16 (by decide) ?_
      exact zret_z hx hb hr rfl hlocks B (⟨by simp [zb, fx_wasDone, c_1, c_2], rfl⟩) d_Bo_wasDone_17
    · refine lv_iconst (v := 1) hx hb d_Bo_wasDone_12 (by decide) ?_
      refine lv_goto (tgt := 17) hx hb d_Bo_wasDone_13 (by decide) ?_
      exact zret_z hx hb hr rfl hlocks B (⟨by simp [zb, fx_wasDone, c_1, c_2], rfl⟩) d_Bo_wasDone_17
set_option maxHeartbeats 4000000 in
set_option maxRecDepth 100000 in
theorem c_Bo_valueAt (l : Launch) (κ : KA) (σ : zS) (p1 p2 : Int32) (hn : nA κ ≤ 8) (b : Nat) (hbs : σ.1 21 0 = nI b) (hb64 : b ≤ 64) : zMl l y_Bo_valueAt (zws y_Bo_valueAt prog_2_method_4_code 3 (some .long)) ({ frames := 1, cells := 0, slots := 0, locals := 21 }) κ.1 vwCl (tysA κ) nwA (wA κ) σ [.ref (aA κ 14), .int (p1), .int (p2)] (fun r σ' => r = fx_valueAt (nA κ) σ p1 p2 ∧ σ' = σ) := by
  refine zintro (cc := prog_2_method_4_code) (maxL := 3) (ret := (some .long)) (by decide) rfl (Nat.le_of_ble_eq_true rfl) ?_
  intro p e s m below meth c ls hx hb hr hml hts hown hlocks hl B
  have hl : lv_has ls 3 [(0, .ref (aA κ 14)), (1, .int (p1)), (2, .int (p2))] := hl
  have B : BA κ (va_A (wA κ σ) s.heap.size) s.heap s σ s.heap [] := B
  have hr : meth.sig.returnType = (some .long) := hr
  have hown : s.vm.findClass "UnitThreads$Board" = some m.cls := hown
  show W p l e (headSpec (zws y_Bo_valueAt prog_2_method_4_code 3 (some .long)) ({ frames := 1, cells := 0, slots := 0, locals := 21 })).room s m [.ref (aA κ 14), .int (p1), .int (p2)].toArray below meth c s.heap [] 0 0 (MQ below (va_Ql (fun r σ' => r = fx_valueAt (nA κ) σ p1 p2 ∧ σ' = σ) (zQ κ.1 vwCl (tysA κ) (wA κ) (va_A (wA κ σ) s.heap.size)) (va_A (wA κ σ) s.heap.size)) [.ref (aA κ 14), .int (p1), .int (p2)].toArray s 0 0 (va_A (wA κ σ) s.heap.size)) (F0 m 0 ls [])
  generalize va_A (wA κ σ) s.heap.size = A at B ⊢
  have hts : ∀ w ∈ zW, w.before [.ref (aA κ 14), .int (p1), .int (p2)].toArray s = true := fun w h => hts w (List.mem_cons_of_mem _ h)
  refine lv_aload_n hx hb d_Bo_valueAt_0 rfl (lv_at hl 0 rfl) ?_
  refine lv_iload_n hx hb d_Bo_valueAt_1 rfl (lv_at hl 1 rfl) ?_
  refine zcV_i (As := [.int (p1)]) (rest := []) ⟨hx, hb, hml, hown, hts⟩ (c_Bo_hasOutput l κ σ p1 ) (cwV 1 hts (zgoodV w_353 w_232 w_233 w_7 w_234) rfl rfl rfl (by decide +kernel) ⟨Nat.le_of_ble_eq_true rfl, Nat.le_of_ble_eq_true rfl⟩) B (zrecv B (ci := 4) rfl (wa_14 κ σ)) rfl hl.1 rfl (Nat.le_of_ble_eq_true rfl) d_Bo_valueAt_2 ⟨Nat.zero_le _, Nat.zero_le _⟩ (fun r σ' H locs hp B => ?_)
  obtain ⟨rfl, hp⟩ := hp
  rw [hp] at B
  have B : BA κ A s.heap s σ H locs := B
  refine lv_if_ne (tgt := 10) hx hb d_Bo_valueAt_5 (by decide) (fun c_1 => ?_) (fun c_1 => ?_)
  · have c_1 := zb_ne0.mp c_1
    refine lv_iload_n hx hb d_Bo_valueAt_10 rfl (lv_at hl 2 rfl) ?_
    refine lv_iconst (v := (-1)) hx hb d_Bo_valueAt_11 (by decide) ?_
    refine lv_icmp_ne (tgt := 22) hx hb d_Bo_valueAt_12 (by decide) (fun c_2 => ?_) (fun c_2 => ?_)
    · refine lv_aload_n hx hb d_Bo_valueAt_22 rfl (lv_at hl 0 rfl) ?_
      refine lv_iload_n hx hb d_Bo_valueAt_23 rfl (lv_at hl 2 rfl) ?_
      refine zcV_i (As := [.int (p2)]) (rest := []) ⟨hx, hb, hml, hown, hts⟩ (c_Bo_wasDone l κ σ p2 ) (cwV 1 hts (zgoodV w_354 w_355 w_356 w_7 w_357) rfl rfl rfl (by decide +kernel) ⟨Nat.le_of_ble_eq_true rfl, Nat.le_of_ble_eq_true rfl⟩) B (zrecv B (ci := 4) rfl (wa_14 κ σ)) rfl hl.1 rfl (Nat.le_of_ble_eq_true rfl) d_Bo_valueAt_24 ⟨Nat.zero_le _, Nat.zero_le _⟩ (fun r σ' H locs hp B => ?_)
      obtain ⟨rfl, hp⟩ := hp
      rw [hp] at B
      have B : BA κ A s.heap s σ H locs := B
      refine lv_if_eq (tgt := 47) hx hb d_Bo_valueAt_27 (by decide) (fun c_3 => ?_) (fun c_3 => ?_)
      · have c_3 := zb_eq0.mp c_3
        refine lv_lconst (v := 0) hx hb d_Bo_valueAt_47 (by decide) ?_
        exact zret_l hx hb hr hlocks B (⟨by simp [zb, fx_valueAt, c_1, c_2, c_3], rfl⟩) d_Bo_valueAt_48
      · have c_3 := zb_ne0.mp c_3
        refine lv_aload_n hx hb d_Bo_valueAt_30 rfl (lv_at hl 0 rfl) ?_
        refine va_get (D := κ.1) (ci := 4) (v := .ref (aA κ 18)) (C := "UnitThreads$Board") (T := T_Bo) (N := 6) hx hb hts in_Bo hown B.1 B.2.1 14 (wa_14 κ σ) rfl 3 (by decide) (hts _ w_150) (fun _ h9 => h9) rfl d_Bo_valueAt_31 ?_
        refine lv_iload_n hx hb d_Bo_valueAt_34 rfl (lv_at hl 2 rfl) ?_
        refine lv_aload_n hx hb d_Bo_valueAt_35 rfl (lv_at hl 0 rfl) ?_
        refine va_get (D := κ.1) (ci := 4) (v := .ref (aA κ 15)) (C := "UnitThreads$Board") (T := T_Bo) (N := 6) hx hb hts in_Bo hown B.1 B.2.1 14 (wa_14 κ σ) rfl 0 (by decide) (hts _ w_144) (fun _ h9 => h9) rfl d_Bo_valueAt_36 ?_
        refine zalen hx hb B 15 1 (wa_15 κ σ) rfl d_Bo_valueAt_39 ?_
        refine lv_imul hx hb d_Bo_valueAt_40 ?_
        refine lv_iload_n hx hb d_Bo_valueAt_41 rfl (lv_at hl 1 rfl) ?_
        refine lv_iadd hx hb d_Bo_valueAt_42 ?_
        refine zrwi (y := nI (tn p2 * (nA κ * 4) + tn p1)) (zmad _ (fx_wasDone_in c_3 hbs hb64).1 (fx_hasOut_in c_1 hn).1) ?_
        refine zlald hx hb B 18 1 (wa_18 κ σ) rfl (tn p2 * (nA κ * 4) + tn p1) rfl (zidx (Nat.lt_of_lt_of_le (fx_wasDone_in c_3 hbs hb64).2 hb64) (fx_hasOut_in c_1 hn).2) (by omega) d_Bo_valueAt_43 ?_
        refine lv_goto (tgt := 48) hx hb d_Bo_valueAt_44 (by decide) ?_
        exact zret_l hx hb hr hlocks B (⟨by simp [zb, fx_valueAt, c_1, c_2, c_3], rfl⟩) d_Bo_valueAt_48
    · refine lv_aload_n hx hb d_Bo_valueAt_15 rfl (lv_at hl 0 rfl) ?_
      refine va_get (D := κ.1) (ci := 4) (v := .ref (aA κ 15)) (C := "UnitThreads$Board") (T := T_Bo) (N := 6) hx hb hts in_Bo hown B.1 B.2.1 14 (wa_14 κ σ) rfl 0 (by decide) (hts _ w_144) (fun _ h9 => h9) rfl d_Bo_valueAt_16 ?_
      refine lv_iload_n hx hb d_Bo_valueAt_19 rfl (lv_at hl 1 rfl) ?_
      refine zlald hx hb B 15 1 (wa_15 κ σ) rfl (tn p1) ((fx_hasOut_in c_1 hn).1) ((fx_hasOut_in c_1 hn).2) (by omega) d_Bo_valueAt_20 ?_
      exact zret_l hx hb hr hlocks B (⟨by simp [zb, fx_valueAt, c_1, c_2], rfl⟩) d_Bo_valueAt_21
  · have c_1 := zb_eq0.mp c_1
    refine lv_lconst (v := 0) hx hb d_Bo_valueAt_8 (by decide) ?_
    exact zret_l hx hb hr hlocks B (⟨by simp [zb, fx_valueAt, c_1], rfl⟩) d_Bo_valueAt_9
set_option maxHeartbeats 4000000 in
set_option maxRecDepth 100000 in
theorem c_Bo_ownerAt (l : Launch) (κ : KA) (σ : zS) (p1 p2 : Int32) (b : Nat) (hbs : σ.1 21 0 = nI b) (hb64 : b ≤ 64) : zMi l y_Bo_ownerAt (zws y_Bo_ownerAt prog_2_method_5_code 3 (some .int)) ({ frames := 1, cells := 0, slots := 0, locals := 21 }) κ.1 vwCl (tysA κ) nwA (wA κ) σ [.ref (aA κ 14), .int (p1), .int (p2)] (fun r σ' => r = fx_ownerAt σ p1 p2 ∧ σ' = σ) := by
  refine zintro (cc := prog_2_method_5_code) (maxL := 3) (ret := (some .int)) (by decide) rfl (Nat.le_of_ble_eq_true rfl) ?_
  intro p e s m below meth c ls hx hb hr hml hts hown hlocks hl B
  have hl : lv_has ls 3 [(0, .ref (aA κ 14)), (1, .int (p1)), (2, .int (p2))] := hl
  have B : BA κ (va_A (wA κ σ) s.heap.size) s.heap s σ s.heap [] := B
  have hr : meth.sig.returnType = (some .int) := hr
  have hown : s.vm.findClass "UnitThreads$Board" = some m.cls := hown
  show W p l e (headSpec (zws y_Bo_ownerAt prog_2_method_5_code 3 (some .int)) ({ frames := 1, cells := 0, slots := 0, locals := 21 })).room s m [.ref (aA κ 14), .int (p1), .int (p2)].toArray below meth c s.heap [] 0 0 (MQ below (va_Qi (fun r σ' => r = fx_ownerAt σ p1 p2 ∧ σ' = σ) (zQ κ.1 vwCl (tysA κ) (wA κ) (va_A (wA κ σ) s.heap.size)) (va_A (wA κ σ) s.heap.size)) [.ref (aA κ 14), .int (p1), .int (p2)].toArray s 0 0 (va_A (wA κ σ) s.heap.size)) (F0 m 0 ls [])
  generalize va_A (wA κ σ) s.heap.size = A at B ⊢
  have hts : ∀ w ∈ zW, w.before [.ref (aA κ 14), .int (p1), .int (p2)].toArray s = true := fun w h => hts w (List.mem_cons_of_mem _ h)
  refine lv_iload_n hx hb d_Bo_ownerAt_0 rfl (lv_at hl 1 rfl) ?_
  refine zcSN_i (As := [.int (p1)]) (rest := []) ⟨hx, hb, hml, hown, hts⟩ (c_Ut_isWay l κ σ p1 ) ⟨va_cnB 1 hts (zgoodC w_218) rfl rfl rfl (B.2.2.2.2.2 ("UnitThreads$Board", 45, y_Ut_isWay, "UnitThreads") (by decide +kernel)) (hts _ w_1) (by decide +kernel) ⟨Nat.le_of_ble_eq_true rfl, Nat.le_of_ble_eq_true rfl⟩, hts _ w_217, trivial⟩ B rfl hl.1 rfl (Nat.le_of_ble_eq_true rfl) d_Bo_ownerAt_1 ⟨Nat.zero_le _, Nat.zero_le _⟩ (fun r σ' H locs hp B => ?_)
  obtain ⟨rfl, hp⟩ := hp
  rw [hp] at B
  have B : BA κ A s.heap s σ H locs := B
  refine lv_if_ne (tgt := 9) hx hb d_Bo_ownerAt_4 (by decide) (fun c_1 => ?_) (fun c_1 => ?_)
  · have c_1 := zb_ne0.mp c_1
    refine lv_iload_n hx hb d_Bo_ownerAt_9 rfl (lv_at hl 2 rfl) ?_
    refine lv_iconst (v := (-1)) hx hb d_Bo_ownerAt_10 (by decide) ?_
    refine lv_icmp_ne (tgt := 21) hx hb d_Bo_ownerAt_11 (by decide) (fun c_2 => ?_) (fun c_2 => ?_)
    · refine lv_aload_n hx hb d_Bo_ownerAt_21 rfl (lv_at hl 0 rfl) ?_
      refine lv_iload_n hx hb d_Bo_ownerAt_22 rfl (lv_at hl 2 rfl) ?_
      refine zcV_i (As := [.int (p2)]) (rest := []) ⟨hx, hb, hml, hown, hts⟩ (c_Bo_wasDone l κ σ p2 ) (cwV 1 hts (zgoodV w_354 w_355 w_356 w_7 w_357) rfl rfl rfl (by decide +kernel) ⟨Nat.le_of_ble_eq_true rfl, Nat.le_of_ble_eq_true rfl⟩) B (zrecv B (ci := 4) rfl (wa_14 κ σ)) rfl hl.1 rfl (Nat.le_of_ble_eq_true rfl) d_Bo_ownerAt_23 ⟨Nat.zero_le _, Nat.zero_le _⟩ (fun r σ' H locs hp B => ?_)
      obtain ⟨rfl, hp⟩ := hp
      rw [hp] at B
      have B : BA κ A s.heap s σ H locs := B
      refine lv_if_eq (tgt := 43) hx hb d_Bo_ownerAt_26 (by decide) (fun c_3 => ?_) (fun c_3 => ?_)
      · have c_3 := zb_eq0.mp c_3
        refine lv_iconst (v := (-1)) hx hb d_Bo_ownerAt_43 (by decide) ?_
        exact zret_i hx hb hr hlocks B (⟨by simp [zb, fx_ownerAt, c_1, c_2, c_3], rfl⟩) d_Bo_ownerAt_44
      · have c_3 := zb_ne0.mp c_3
        refine lv_aload_n hx hb d_Bo_ownerAt_29 rfl (lv_at hl 0 rfl) ?_
        refine va_get (D := κ.1) (ci := 4) (v := .ref (aA κ 19)) (C := "UnitThreads$Board") (T := T_Bo) (N := 6) hx hb hts in_Bo hown B.1 B.2.1 14 (wa_14 κ σ) rfl 4 (by decide) (hts _ w_151) (fun _ h9 => h9) rfl d_Bo_ownerAt_30 ?_
        refine lv_iload_n hx hb d_Bo_ownerAt_33 rfl (lv_at hl 2 rfl) ?_
        refine lv_bipush (v := nI 16) hx hb d_Bo_ownerAt_34 (by decide) ?_
        refine lv_imul hx hb d_Bo_ownerAt_36 ?_
        refine lv_iload_n hx hb d_Bo_ownerAt_37 rfl (lv_at hl 1 rfl) ?_
        refine lv_iadd hx hb d_Bo_ownerAt_38 ?_
        refine zrwi (y := nI (tn p2 * 16 + tn p1)) (zmad _ (fx_wasDone_in c_3 hbs hb64).1 (fx_isWay_in c_1).1) ?_
        refine ziald hx hb B 19 0 (wa_19 κ σ) rfl (tn p2 * 16 + tn p1) rfl (zidx (M := 64) (Nat.lt_of_lt_of_le (fx_wasDone_in c_3 hbs hb64).2 hb64) (fx_isWay_in c_1).2) (by decide) d_Bo_ownerAt_39 ?_
        refine lv_goto (tgt := 44) hx hb d_Bo_ownerAt_40 (by decide) ?_
        exact zret_i hx hb hr hlocks B (⟨by simp [zb, fx_ownerAt, c_1, c_2, c_3], rfl⟩) d_Bo_ownerAt_44
    · refine lv_aload_n hx hb d_Bo_ownerAt_14 rfl (lv_at hl 0 rfl) ?_
      refine va_get (D := κ.1) (ci := 4) (v := .ref (aA κ 17)) (C := "UnitThreads$Board") (T := T_Bo) (N := 6) hx hb hts in_Bo hown B.1 B.2.1 14 (wa_14 κ σ) rfl 2 (by decide) (hts _ w_148) (fun _ h9 => h9) rfl d_Bo_ownerAt_15 ?_
      refine lv_iload_n hx hb d_Bo_ownerAt_18 rfl (lv_at hl 1 rfl) ?_
      refine ziald hx hb B 17 0 (wa_17 κ σ) rfl (tn p1) ((fx_isWay_in c_1).1) ((fx_isWay_in c_1).2) (by decide) d_Bo_ownerAt_19 ?_
      exact zret_i hx hb hr hlocks B (⟨by simp [zb, fx_ownerAt, c_1, c_2], rfl⟩) d_Bo_ownerAt_20
  · have c_1 := zb_eq0.mp c_1
    refine lv_iconst (v := (-1)) hx hb d_Bo_ownerAt_7 (by decide) ?_
    exact zret_i hx hb hr hlocks B (⟨by simp [zb, fx_ownerAt, c_1], rfl⟩) d_Bo_ownerAt_8
set_option maxHeartbeats 4000000 in
set_option maxRecDepth 100000 in
theorem c_Bo_makeSafe (l : Launch) (κ : KA) (σ : zS) (u : Nat) (hu : u < nA κ) (hn : nA κ ≤ 8) : zMv l y_Bo_makeSafe (zws y_Bo_makeSafe prog_2_method_6_code 4 none) ({ frames := 0, cells := 0, slots := 0, locals := 0 }) κ.1 vwCl (tysA κ) nwA (wA κ) σ [.ref (aA κ 14), .int (nI u)] (fun σ' => σ' = fx_makeSafe σ u) := by
  refine zintro (cc := prog_2_method_6_code) (maxL := 4) (ret := none) (by decide) rfl (Nat.le_of_ble_eq_true rfl) ?_
  intro p e s m below meth c ls hx hb hr hml hts hown hlocks hl B
  have hl : lv_has ls 4 [(0, .ref (aA κ 14)), (1, .int (nI u))] := hl
  have B : BA κ (va_A (wA κ σ) s.heap.size) s.heap s σ s.heap [] := B
  have hr : meth.sig.returnType = none := hr
  have hown : s.vm.findClass "UnitThreads$Board" = some m.cls := hown
  show W p l e (headSpec (zws y_Bo_makeSafe prog_2_method_6_code 4 none) ({ frames := 0, cells := 0, slots := 0, locals := 0 })).room s m [.ref (aA κ 14), .int (nI u)].toArray below meth c s.heap [] 0 0 (MQ below (va_Qv (fun σ' => σ' = fx_makeSafe σ u) (zQ κ.1 vwCl (tysA κ) (wA κ) (va_A (wA κ σ) s.heap.size)) (va_A (wA κ σ) s.heap.size)) [.ref (aA κ 14), .int (nI u)].toArray s 0 0 (va_A (wA κ σ) s.heap.size)) (F0 m 0 ls [])
  generalize va_A (wA κ σ) s.heap.size = A at B ⊢
  have hts : ∀ w ∈ zW, w.before [.ref (aA κ 14), .int (nI u)].toArray s = true := fun w h => hts w (List.mem_cons_of_mem _ h)
  have L_6 : ∀ (j : Nat) (k : Nat) (τ : zS), k + j = u * 4 + 4 → (fx_makeSafe σ u = zit fx_safe1 j k τ) → ∀ (H : Heap) (locs : List Loc), BA κ A s.heap s τ H locs → ∀ (ls : Array Slot), lv_has ls 4 [(0, .ref (aA κ 14)), (1, .int (nI u)), (2, .int (nI (u * 4))), (3, .int (nI k))] → W p l e (headSpec (zws y_Bo_makeSafe prog_2_method_6_code 4 none) ({ frames := 0, cells := 0, slots := 0, locals := 0 })).room s m [.ref (aA κ 14), .int (nI u)].toArray below meth c H locs 0 0 (MQ below (va_Qv (fun σ' => σ' = fx_makeSafe σ u) (zQ κ.1 vwCl (tysA κ) (wA κ) A) A) [.ref (aA κ 14), .int (nI u)].toArray s 0 0 A) (F0 m 6 ls []) := by
    intro j
    induction j with
    | zero =>
      intro k τ hj hst H locs B ls hl
      refine lv_iload_n hx hb d_Bo_makeSafe_6 rfl (lv_at hl 3 rfl) ?_
      refine lv_iload_n hx hb d_Bo_makeSafe_7 rfl (lv_at hl 2 rfl) ?_
      refine lv_iconst (v := nI 4) hx hb d_Bo_makeSafe_8 (by decide) ?_
      refine lv_iadd hx hb d_Bo_makeSafe_9 ?_
      refine zrwi (y := nI (u * 4 + 4)) (nI_add _ _) ?_
      refine lv_icmp_ge (tgt := 40) hx hb d_Bo_makeSafe_10 (by decide) (fun c_1 => ?_) (fun c_1 => ?_)
      · have c_1 := (nI_leI (a := u * 4 + 4) (b := k) (by omega) (by omega)).mp c_1
        exact zret_v hx hb hr hlocks B (hst.symm) d_Bo_makeSafe_40
      · have c_1 := (not_congr (nI_leI (a := u * 4 + 4) (b := k) (by omega) (by omega))).mp c_1
        exact absurd c_1 (by omega)
    | succ j ih =>
      intro k τ hj hst H locs B ls hl
      refine lv_iload_n hx hb d_Bo_makeSafe_6 rfl (lv_at hl 3 rfl) ?_
      refine lv_iload_n hx hb d_Bo_makeSafe_7 rfl (lv_at hl 2 rfl) ?_
      refine lv_iconst (v := nI 4) hx hb d_Bo_makeSafe_8 (by decide) ?_
      refine lv_iadd hx hb d_Bo_makeSafe_9 ?_
      refine zrwi (y := nI (u * 4 + 4)) (nI_add _ _) ?_
      refine lv_icmp_ge (tgt := 40) hx hb d_Bo_makeSafe_10 (by decide) (fun c_2 => ?_) (fun c_2 => ?_)
      · have c_2 := (nI_leI (a := u * 4 + 4) (b := k) (by omega) (by omega)).mp c_2
        exact absurd c_2 (by omega)
      · have c_2 := (not_congr (nI_leI (a := u * 4 + 4) (b := k) (by omega) (by omega))).mp c_2
        refine lv_iload_n hx hb d_Bo_makeSafe_13 rfl (lv_at hl 3 rfl) ?_
        refine lv_aload_n hx hb d_Bo_makeSafe_14 rfl (lv_at hl 0 rfl) ?_
        refine va_get (D := κ.1) (ci := 4) (v := .ref (aA κ 15)) (C := "UnitThreads$Board") (T := T_Bo) (N := 6) hx hb hts in_Bo hown B.1 B.2.1 14 (wa_14 κ τ) rfl 0 (by decide) (hts _ w_144) (fun _ h9 => h9) rfl d_Bo_makeSafe_15 ?_
        refine zalen hx hb B 15 1 (wa_15 κ τ) rfl d_Bo_makeSafe_18 ?_
        refine lv_icmp_ge (tgt := 40) hx hb d_Bo_makeSafe_19 (by decide) (fun c_3 => ?_) (fun c_3 => ?_)
        · have c_3 := (nI_leI (a := nA κ * 4) (b := k) (by omega) (by omega)).mp c_3
          exact absurd c_3 (by omega)
        · have c_3 := (not_congr (nI_leI (a := nA κ * 4) (b := k) (by omega) (by omega))).mp c_3
          refine lv_aload_n hx hb d_Bo_makeSafe_22 rfl (lv_at hl 0 rfl) ?_
          refine va_get (D := κ.1) (ci := 4) (v := .ref (aA κ 15)) (C := "UnitThreads$Board") (T := T_Bo) (N := 6) hx hb hts in_Bo hown B.1 B.2.1 14 (wa_14 κ τ) rfl 0 (by decide) (hts _ w_144) (fun _ h9 => h9) rfl d_Bo_makeSafe_23 ?_
          refine lv_iload_n hx hb d_Bo_makeSafe_26 rfl (lv_at hl 3 rfl) ?_
          refine lv_aload_n hx hb d_Bo_makeSafe_27 rfl (lv_at hl 0 rfl) ?_
          refine va_get (D := κ.1) (ci := 4) (v := .ref (aA κ 16)) (C := "UnitThreads$Board") (T := T_Bo) (N := 6) hx hb hts in_Bo hown B.1 B.2.1 14 (wa_14 κ τ) rfl 1 (by decide) (hts _ w_146) (fun _ h9 => h9) rfl d_Bo_makeSafe_28 ?_
          refine lv_iload_n hx hb d_Bo_makeSafe_31 rfl (lv_at hl 3 rfl) ?_
          refine zlald hx hb B 16 1 (wa_16 κ τ) rfl k rfl (by omega) (by omega) d_Bo_makeSafe_32 ?_
          refine zlast hx hb B 15 1 (wa_15 κ τ) rfl k rfl (by omega) (by omega) (ws_15 κ τ k (τ.2 3 k)) d_Bo_makeSafe_33 (fun H locs B => ?_)
          have B : BA κ A s.heap s (zl τ 2 k (τ.2 3 k)) H locs := B
          refine lv_iinc (v := nI (k + 1)) (lv' := [(3, .int (nI (k + 1))), (0, .ref (aA κ 14)), (1, .int (nI u)), (2, .int (nI (u * 4)))]) hx hb d_Bo_makeSafe_34 hl (k := 3) rfl (zinc _) (by decide) rfl (fun ls hl => ?_)
          refine lv_goto (tgt := 6) hx hb d_Bo_makeSafe_37 (by decide) ?_
          exact ih (k + 1) (zl τ 2 k (τ.2 3 k)) (by omega) hst _ _ B ls (lv_sub hl [1, 2, 3, 0] rfl)
  refine lv_iload_n hx hb d_Bo_makeSafe_0 rfl (lv_at hl 1 rfl) ?_
  refine lv_iconst (v := nI 4) hx hb d_Bo_makeSafe_1 (by decide) ?_
  refine lv_imul hx hb d_Bo_makeSafe_2 ?_
  refine zrwi (y := nI (u * 4)) (pk_mul _ _) ?_
  refine lv_istore_n (lv' := [(2, .int (nI (u * 4))), (0, .ref (aA κ 14)), (1, .int (nI u))]) hx hb d_Bo_makeSafe_3 rfl hl (by decide) rfl (fun ls hl => ?_)
  refine lv_iload_n hx hb d_Bo_makeSafe_4 rfl (lv_at hl 0 rfl) ?_
  refine lv_istore_n (lv' := [(3, .int (nI (u * 4))), (2, .int (nI (u * 4))), (0, .ref (aA κ 14)), (1, .int (nI u))]) hx hb d_Bo_makeSafe_5 rfl hl (by decide) rfl (fun ls hl => ?_)
  exact L_6 4 (u * 4) σ (by omega) rfl _ _ B ls (lv_sub hl [2, 3, 1, 0] rfl)
set_option maxHeartbeats 4000000 in
set_option maxRecDepth 100000 in
theorem c_Bo_ownsAll (l : Launch) (κ : KA) (σ : zS) (p1 p2 : Int32) : zMi l y_Bo_ownsAll (zws y_Bo_ownsAll prog_2_method_7_code 4 (some .boolean)) ({ frames := 1, cells := 0, slots := 0, locals := 21 }) κ.1 vwCl (tysA κ) nwA (wA κ) σ [.ref (aA κ 14), .int (p1), .int (p2)] (fun r σ' => r = zb (fx_ownsAll σ p1 p2 16 0) ∧ σ' = σ) := by
  refine zintro (cc := prog_2_method_7_code) (maxL := 4) (ret := (some .boolean)) (by decide) rfl (Nat.le_of_ble_eq_true rfl) ?_
  intro p e s m below meth c ls hx hb hr hml hts hown hlocks hl B
  have hl : lv_has ls 4 [(0, .ref (aA κ 14)), (1, .int (p1)), (2, .int (p2))] := hl
  have B : BA κ (va_A (wA κ σ) s.heap.size) s.heap s σ s.heap [] := B
  have hr : meth.sig.returnType = (some .boolean) := hr
  have hown : s.vm.findClass "UnitThreads$Board" = some m.cls := hown
  show W p l e (headSpec (zws y_Bo_ownsAll prog_2_method_7_code 4 (some .boolean)) ({ frames := 1, cells := 0, slots := 0, locals := 21 })).room s m [.ref (aA κ 14), .int (p1), .int (p2)].toArray below meth c s.heap [] 0 0 (MQ below (va_Qi (fun r σ' => r = zb (fx_ownsAll σ p1 p2 16 0) ∧ σ' = σ) (zQ κ.1 vwCl (tysA κ) (wA κ) (va_A (wA κ σ) s.heap.size)) (va_A (wA κ σ) s.heap.size)) [.ref (aA κ 14), .int (p1), .int (p2)].toArray s 0 0 (va_A (wA κ σ) s.heap.size)) (F0 m 0 ls [])
  generalize va_A (wA κ σ) s.heap.size = A at B ⊢
  have hts : ∀ w ∈ zW, w.before [.ref (aA κ 14), .int (p1), .int (p2)].toArray s = true := fun w h => hts w (List.mem_cons_of_mem _ h)
  have L_2 : ∀ (j : Nat) (k : Nat), k + j = 16 → (fx_ownsAll σ p1 p2 16 0 = fx_ownsAll σ p1 p2 j k) → ∀ (H : Heap) (locs : List Loc), BA κ A s.heap s σ H locs → ∀ (ls : Array Slot), lv_has ls 4 [(0, .ref (aA κ 14)), (1, .int (p1)), (2, .int (p2)), (3, .int (nI k))] → W p l e (headSpec (zws y_Bo_ownsAll prog_2_method_7_code 4 (some .boolean)) ({ frames := 1, cells := 0, slots := 0, locals := 21 })).room s m [.ref (aA κ 14), .int (p1), .int (p2)].toArray below meth c H locs 0 0 (MQ below (va_Qi (fun r σ' => r = zb (fx_ownsAll σ p1 p2 16 0) ∧ σ' = σ) (zQ κ.1 vwCl (tysA κ) (wA κ) A) A) [.ref (aA κ 14), .int (p1), .int (p2)].toArray s 0 0 A) (F0 m 2 ls []) := by
    intro j
    induction j with
    | zero =>
      intro k hj hst H locs B ls hl
      refine lv_iload_n hx hb d_Bo_ownsAll_2 rfl (lv_at hl 3 rfl) ?_
      refine lv_bipush (v := nI 16) hx hb d_Bo_ownsAll_3 (by decide) ?_
      refine lv_icmp_ge (tgt := 34) hx hb d_Bo_ownsAll_5 (by decide) (fun c_1 => ?_) (fun c_1 => ?_)
      · have c_1 := (nI_leI (a := 16) (b := k) (by omega) (by omega)).mp c_1
        refine lv_iconst (v := 1) hx hb d_Bo_ownsAll_34 (by decide) ?_
        exact zret_z hx hb hr rfl hlocks B (⟨by rw [hst]; simp [fx_ownsAll, zb, c_1], rfl⟩) d_Bo_ownsAll_35
      · have c_1 := (not_congr (nI_leI (a := 16) (b := k) (by omega) (by omega))).mp c_1
        exact absurd c_1 (by omega)
    | succ j ih =>
      intro k hj hst H locs B ls hl
      refine lv_iload_n hx hb d_Bo_ownsAll_2 rfl (lv_at hl 3 rfl) ?_
      refine lv_bipush (v := nI 16) hx hb d_Bo_ownsAll_3 (by decide) ?_
      refine lv_icmp_ge (tgt := 34) hx hb d_Bo_ownsAll_5 (by decide) (fun c_2 => ?_) (fun c_2 => ?_)
      · have c_2 := (nI_leI (a := 16) (b := k) (by omega) (by omega)).mp c_2
        exact absurd c_2 (by omega)
      · have c_2 := (not_congr (nI_leI (a := 16) (b := k) (by omega) (by omega))).mp c_2
        refine lv_iload_n hx hb d_Bo_ownsAll_8 rfl (lv_at hl 2 rfl) ?_
        refine lv_iload_n hx hb d_Bo_ownsAll_9 rfl (lv_at hl 3 rfl) ?_
        refine zcSN_i (As := [.int (p2), .int (nI k)]) (rest := []) ⟨hx, hb, hml, hown, hts⟩ (c_Ut_hasWay l κ σ p2 (nI k) ) ⟨va_cnB 2 hts (zgoodC w_241) rfl rfl rfl (B.2.2.2.2.2 ("UnitThreads$Board", 48, y_Ut_hasWay, "UnitThreads") (by decide +kernel)) (hts _ w_1) (by decide +kernel) ⟨Nat.le_of_ble_eq_true rfl, Nat.le_of_ble_eq_true rfl⟩, hts _ w_240, trivial⟩ B rfl hl.1 rfl (Nat.le_of_ble_eq_true rfl) d_Bo_ownsAll_10 ⟨Nat.zero_le _, Nat.zero_le _⟩ (fun r σ' H locs hp B => ?_)
        obtain ⟨rfl, hp⟩ := hp
        rw [hp] at B
        have B : BA κ A s.heap s σ H locs := B
        refine lv_if_eq (tgt := 28) hx hb d_Bo_ownsAll_13 (by decide) (fun c_3 => ?_) (fun c_3 => ?_)
        · have c_3 := zb_eq0.mp c_3
          refine lv_iinc (v := nI (k + 1)) (lv' := [(3, .int (nI (k + 1))), (0, .ref (aA κ 14)), (1, .int (p1)), (2, .int (p2))]) hx hb d_Bo_ownsAll_28 hl (k := 3) rfl (zinc _) (by decide) rfl (fun ls hl => ?_)
          refine lv_goto (tgt := 2) hx hb d_Bo_ownsAll_31 (by decide) ?_
          exact ih (k + 1) (by omega) (by rw [hst]; simp [fx_ownsAll, c_2, c_3]) _ _ B ls (lv_sub hl [1, 2, 3, 0] rfl)
        · have c_3 := zb_ne0.mp c_3
          refine lv_aload_n hx hb d_Bo_ownsAll_16 rfl (lv_at hl 0 rfl) ?_
          refine va_get (D := κ.1) (ci := 4) (v := .ref (aA κ 17)) (C := "UnitThreads$Board") (T := T_Bo) (N := 6) hx hb hts in_Bo hown B.1 B.2.1 14 (wa_14 κ σ) rfl 2 (by decide) (hts _ w_148) (fun _ h9 => h9) rfl d_Bo_ownsAll_17 ?_
          refine lv_iload_n hx hb d_Bo_ownsAll_20 rfl (lv_at hl 3 rfl) ?_
          refine ziald hx hb B 17 0 (wa_17 κ σ) rfl k rfl (by omega) (by decide) d_Bo_ownsAll_21 ?_
          refine lv_iload_n hx hb d_Bo_ownsAll_22 rfl (lv_at hl 1 rfl) ?_
          refine lv_icmp_eq (tgt := 28) hx hb d_Bo_ownsAll_23 (by decide) (fun c_4 => ?_) (fun c_4 => ?_)
          · refine lv_iinc (v := nI (k + 1)) (lv' := [(3, .int (nI (k + 1))), (0, .ref (aA κ 14)), (1, .int (p1)), (2, .int (p2))]) hx hb d_Bo_ownsAll_28 hl (k := 3) rfl (zinc _) (by decide) rfl (fun ls hl => ?_)
            refine lv_goto (tgt := 2) hx hb d_Bo_ownsAll_31 (by decide) ?_
            exact ih (k + 1) (by omega) (by rw [hst]; simp [fx_ownsAll, c_2, c_3, c_4]) _ _ B ls (lv_sub hl [1, 2, 3, 0] rfl)
          · refine lv_iconst (v := 0) hx hb d_Bo_ownsAll_26 (by decide) ?_
            exact zret_z hx hb hr rfl hlocks B (⟨by rw [hst]; simp [fx_ownsAll, zb, c_2, c_3, c_4], rfl⟩) d_Bo_ownsAll_27
  refine lv_iconst (v := nI 0) hx hb d_Bo_ownsAll_0 (by decide) ?_
  refine lv_istore_n (lv' := [(3, .int (nI 0)), (0, .ref (aA κ 14)), (1, .int (p1)), (2, .int (p2))]) hx hb d_Bo_ownsAll_1 rfl hl (by decide) rfl (fun ls hl => ?_)
  exact L_2 16 0 (by omega) rfl _ _ B ls (lv_sub hl [1, 2, 3, 0] rfl)
set_option maxHeartbeats 4000000 in
set_option maxRecDepth 100000 in
theorem c_Bo_giveBack (l : Launch) (κ : KA) (σ : zS) (p1 p2 : Int32) : zMv l y_Bo_giveBack (zws y_Bo_giveBack prog_2_method_8_code 4 none) ({ frames := 1, cells := 0, slots := 0, locals := 21 }) κ.1 vwCl (tysA κ) nwA (wA κ) σ [.ref (aA κ 14), .int (p1), .int (p2)] (fun σ' => σ' = fx_giveBack σ p1 p2) := by
  refine zintro (cc := prog_2_method_8_code) (maxL := 4) (ret := none) (by decide) rfl (Nat.le_of_ble_eq_true rfl) ?_
  intro p e s m below meth c ls hx hb hr hml hts hown hlocks hl B
  have hl : lv_has ls 4 [(0, .ref (aA κ 14)), (1, .int (p1)), (2, .int (p2))] := hl
  have B : BA κ (va_A (wA κ σ) s.heap.size) s.heap s σ s.heap [] := B
  have hr : meth.sig.returnType = none := hr
  have hown : s.vm.findClass "UnitThreads$Board" = some m.cls := hown
  show W p l e (headSpec (zws y_Bo_giveBack prog_2_method_8_code 4 none) ({ frames := 1, cells := 0, slots := 0, locals := 21 })).room s m [.ref (aA κ 14), .int (p1), .int (p2)].toArray below meth c s.heap [] 0 0 (MQ below (va_Qv (fun σ' => σ' = fx_giveBack σ p1 p2) (zQ κ.1 vwCl (tysA κ) (wA κ) (va_A (wA κ σ) s.heap.size)) (va_A (wA κ σ) s.heap.size)) [.ref (aA κ 14), .int (p1), .int (p2)].toArray s 0 0 (va_A (wA κ σ) s.heap.size)) (F0 m 0 ls [])
  generalize va_A (wA κ σ) s.heap.size = A at B ⊢
  have hts : ∀ w ∈ zW, w.before [.ref (aA κ 14), .int (p1), .int (p2)].toArray s = true := fun w h => hts w (List.mem_cons_of_mem _ h)
  have L_2 : ∀ (j : Nat) (k : Nat) (τ : zS), k + j = 16 → (fx_giveBack σ p1 p2 = zit (fx_give1 p1 p2) j k τ) → ∀ (H : Heap) (locs : List Loc), BA κ A s.heap s τ H locs → ∀ (ls : Array Slot), lv_has ls 4 [(0, .ref (aA κ 14)), (1, .int (p1)), (2, .int (p2)), (3, .int (nI k))] → W p l e (headSpec (zws y_Bo_giveBack prog_2_method_8_code 4 none) ({ frames := 1, cells := 0, slots := 0, locals := 21 })).room s m [.ref (aA κ 14), .int (p1), .int (p2)].toArray below meth c H locs 0 0 (MQ below (va_Qv (fun σ' => σ' = fx_giveBack σ p1 p2) (zQ κ.1 vwCl (tysA κ) (wA κ) A) A) [.ref (aA κ 14), .int (p1), .int (p2)].toArray s 0 0 A) (F0 m 2 ls []) := by
    intro j
    induction j with
    | zero =>
      intro k τ hj hst H locs B ls hl
      refine lv_iload_n hx hb d_Bo_giveBack_2 rfl (lv_at hl 3 rfl) ?_
      refine lv_bipush (v := nI 16) hx hb d_Bo_giveBack_3 (by decide) ?_
      refine lv_icmp_ge (tgt := 39) hx hb d_Bo_giveBack_5 (by decide) (fun c_1 => ?_) (fun c_1 => ?_)
      · have c_1 := (nI_leI (a := 16) (b := k) (by omega) (by omega)).mp c_1
        exact zret_v hx hb hr hlocks B (hst.symm) d_Bo_giveBack_39
      · have c_1 := (not_congr (nI_leI (a := 16) (b := k) (by omega) (by omega))).mp c_1
        exact absurd c_1 (by omega)
    | succ j ih =>
      intro k τ hj hst H locs B ls hl
      refine lv_iload_n hx hb d_Bo_giveBack_2 rfl (lv_at hl 3 rfl) ?_
      refine lv_bipush (v := nI 16) hx hb d_Bo_giveBack_3 (by decide) ?_
      refine lv_icmp_ge (tgt := 39) hx hb d_Bo_giveBack_5 (by decide) (fun c_2 => ?_) (fun c_2 => ?_)
      · have c_2 := (nI_leI (a := 16) (b := k) (by omega) (by omega)).mp c_2
        exact absurd c_2 (by omega)
      · have c_2 := (not_congr (nI_leI (a := 16) (b := k) (by omega) (by omega))).mp c_2
        refine lv_iload_n hx hb d_Bo_giveBack_8 rfl (lv_at hl 2 rfl) ?_
        refine lv_iload_n hx hb d_Bo_giveBack_9 rfl (lv_at hl 3 rfl) ?_
        refine zcSN_i (As := [.int (p2), .int (nI k)]) (rest := []) ⟨hx, hb, hml, hown, hts⟩ (c_Ut_hasWay l κ τ p2 (nI k) ) ⟨va_cnB 2 hts (zgoodC w_241) rfl rfl rfl (B.2.2.2.2.2 ("UnitThreads$Board", 48, y_Ut_hasWay, "UnitThreads") (by decide +kernel)) (hts _ w_1) (by decide +kernel) ⟨Nat.le_of_ble_eq_true rfl, Nat.le_of_ble_eq_true rfl⟩, hts _ w_240, trivial⟩ B rfl hl.1 rfl (Nat.le_of_ble_eq_true rfl) d_Bo_giveBack_10 ⟨Nat.zero_le _, Nat.zero_le _⟩ (fun r σ' H locs hp B => ?_)
        obtain ⟨rfl, hp⟩ := hp
        rw [hp] at B
        have B : BA κ A s.heap s τ H locs := B
        refine lv_if_eq (tgt := 33) hx hb d_Bo_giveBack_13 (by decide) (fun c_3 => ?_) (fun c_3 => ?_)
        · have c_3 := zb_eq0.mp c_3
          refine lv_iinc (v := nI (k + 1)) (lv' := [(3, .int (nI (k + 1))), (0, .ref (aA κ 14)), (1, .int (p1)), (2, .int (p2))]) hx hb d_Bo_giveBack_33 hl (k := 3) rfl (zinc _) (by decide) rfl (fun ls hl => ?_)
          refine lv_goto (tgt := 2) hx hb d_Bo_giveBack_36 (by decide) ?_
          exact ih (k + 1) τ (by omega) (by rw [hst]; simp [zit, fx_give1, c_2, c_3]) _ _ B ls (lv_sub hl [1, 2, 3, 0] rfl)
        · have c_3 := zb_ne0.mp c_3
          refine lv_aload_n hx hb d_Bo_giveBack_16 rfl (lv_at hl 0 rfl) ?_
          refine va_get (D := κ.1) (ci := 4) (v := .ref (aA κ 17)) (C := "UnitThreads$Board") (T := T_Bo) (N := 6) hx hb hts in_Bo hown B.1 B.2.1 14 (wa_14 κ τ) rfl 2 (by decide) (hts _ w_148) (fun _ h9 => h9) rfl d_Bo_giveBack_17 ?_
          refine lv_iload_n hx hb d_Bo_giveBack_20 rfl (lv_at hl 3 rfl) ?_
          refine ziald hx hb B 17 0 (wa_17 κ τ) rfl k rfl (by omega) (by decide) d_Bo_giveBack_21 ?_
          refine lv_iload_n hx hb d_Bo_giveBack_22 rfl (lv_at hl 1 rfl) ?_
          refine lv_icmp_ne (tgt := 33) hx hb d_Bo_giveBack_23 (by decide) (fun c_4 => ?_) (fun c_4 => ?_)
          · refine lv_iinc (v := nI (k + 1)) (lv' := [(3, .int (nI (k + 1))), (0, .ref (aA κ 14)), (1, .int (p1)), (2, .int (p2))]) hx hb d_Bo_giveBack_33 hl (k := 3) rfl (zinc _) (by decide) rfl (fun ls hl => ?_)
            refine lv_goto (tgt := 2) hx hb d_Bo_giveBack_36 (by decide) ?_
            exact ih (k + 1) τ (by omega) (by rw [hst]; simp [zit, fx_give1, c_2, c_3, c_4]) _ _ B ls (lv_sub hl [1, 2, 3, 0] rfl)
          · refine lv_aload_n hx hb d_Bo_giveBack_26 rfl (lv_at hl 0 rfl) ?_
            refine va_get (D := κ.1) (ci := 4) (v := .ref (aA κ 17)) (C := "UnitThreads$Board") (T := T_Bo) (N := 6) hx hb hts in_Bo hown B.1 B.2.1 14 (wa_14 κ τ) rfl 2 (by decide) (hts _ w_148) (fun _ h9 => h9) rfl d_Bo_giveBack_27 ?_
            refine lv_iload_n hx hb d_Bo_giveBack_30 rfl (lv_at hl 3 rfl) ?_
            refine lv_iconst (v := (-1)) hx hb d_Bo_giveBack_31 (by decide) ?_
            refine ziast hx hb B 17 0 (wa_17 κ τ) rfl k rfl (by omega) (by decide) (ws_17 κ τ k (-1)) d_Bo_giveBack_32 (fun H locs B => ?_)
            have B : BA κ A s.heap s (zi τ 19 k (-1)) H locs := B
            refine lv_iinc (v := nI (k + 1)) (lv' := [(3, .int (nI (k + 1))), (0, .ref (aA κ 14)), (1, .int (p1)), (2, .int (p2))]) hx hb d_Bo_giveBack_33 hl (k := 3) rfl (zinc _) (by decide) rfl (fun ls hl => ?_)
            refine lv_goto (tgt := 2) hx hb d_Bo_giveBack_36 (by decide) ?_
            exact ih (k + 1) (zi τ 19 k (-1)) (by omega) (by rw [hst]; simp [zit, fx_give1, c_2, c_3, c_4]) _ _ B ls (lv_sub hl [1, 2, 3, 0] rfl)
  refine lv_iconst (v := nI 0) hx hb d_Bo_giveBack_0 (by decide) ?_
  refine lv_istore_n (lv' := [(3, .int (nI 0)), (0, .ref (aA κ 14)), (1, .int (p1)), (2, .int (p2))]) hx hb d_Bo_giveBack_1 rfl hl (by decide) rfl (fun ls hl => ?_)
  exact L_2 16 0 σ (by omega) rfl _ _ B ls (lv_sub hl [1, 2, 3, 0] rfl)
end
section
set_option maxHeartbeats 4000000 in
set_option maxRecDepth 100000 in
theorem c_En_add (l : Launch) (κ : KA) (σ : zS) (p1 p2 p3 p4 : Int32) (v : Int64) (E : Nat) (hE : σ.1 12 0 = nI E) (hlt : E < 300) : zMv l y_En_add (zws y_En_add prog_3_method_2_code 7 none) ({ frames := 0, cells := 0, slots := 0, locals := 0 }) κ.1 vwCl (tysA κ) nwA (wA κ) σ [.ref (aA κ 2), .int (p1), .int (p2), .int (p3), .int (p4), .long (v)] (fun σ' => σ' = fx_add σ E p1 p2 p3 p4 v) := by
  refine zintro (cc := prog_3_method_2_code) (maxL := 7) (ret := none) (by decide) rfl (Nat.le_of_ble_eq_true rfl) ?_
  intro p e s m below meth c ls hx hb hr hml hts hown hlocks hl B
  have hl : lv_has ls 7 [(0, .ref (aA κ 2)), (1, .int (p1)), (2, .int (p2)), (3, .int (p3)), (4, .int (p4)), (5, .long (v))] := hl
  have B : BA κ (va_A (wA κ σ) s.heap.size) s.heap s σ s.heap [] := B
  have hr : meth.sig.returnType = none := hr
  have hown : s.vm.findClass "UnitThreads$Entries" = some m.cls := hown
  show W p l e (headSpec (zws y_En_add prog_3_method_2_code 7 none) ({ frames := 0, cells := 0, slots := 0, locals := 0 })).room s m [.ref (aA κ 2), .int (p1), .int (p2), .int (p3), .int (p4), .long (v)].toArray below meth c s.heap [] 0 0 (MQ below (va_Qv (fun σ' => σ' = fx_add σ E p1 p2 p3 p4 v) (zQ κ.1 vwCl (tysA κ) (wA κ) (va_A (wA κ σ) s.heap.size)) (va_A (wA κ σ) s.heap.size)) [.ref (aA κ 2), .int (p1), .int (p2), .int (p3), .int (p4), .long (v)].toArray s 0 0 (va_A (wA κ σ) s.heap.size)) (F0 m 0 ls [])
  generalize va_A (wA κ σ) s.heap.size = A at B ⊢
  have hts : ∀ w ∈ zW, w.before [.ref (aA κ 2), .int (p1), .int (p2), .int (p3), .int (p4), .long (v)].toArray s = true := fun w h => hts w (List.mem_cons_of_mem _ h)
  refine lv_aload_n hx hb d_En_add_0 rfl (lv_at hl 0 rfl) ?_
  refine va_get (D := κ.1) (ci := 1) (v := .int (σ.1 12 0)) (C := "UnitThreads$Entries") (T := T_En) (N := 6) hx hb hts in_En hown B.1 B.2.1 2 (wa_2 κ σ) rfl 5 (by decide) (hts _ w_79) (fun _ h9 => h9) rfl d_En_add_1 ?_
  refine zrwi (y := nI E) (hE) ?_
  refine lv_sipush (v := nI 300) hx hb d_En_add_4 (by decide) ?_
  refine lv_icmp_lt (tgt := 11) hx hb d_En_add_7 (by decide) (fun c_1 => ?_) (fun c_1 => ?_)
  · have c_1 := (nI_ltI (a := E) (b := 300) (by omega) (by omega)).mp c_1
    refine lv_aload_n hx hb d_En_add_11 rfl (lv_at hl 0 rfl) ?_
    refine va_get (D := κ.1) (ci := 1) (v := .ref (aA κ 3)) (C := "UnitThreads$Entries") (T := T_En) (N := 6) hx hb hts in_En hown B.1 B.2.1 2 (wa_2 κ σ) rfl 0 (by decide) (hts _ w_74) (fun _ h9 => h9) rfl d_En_add_12 ?_
    refine lv_aload_n hx hb d_En_add_15 rfl (lv_at hl 0 rfl) ?_
    refine va_get (D := κ.1) (ci := 1) (v := .int (σ.1 12 0)) (C := "UnitThreads$Entries") (T := T_En) (N := 6) hx hb hts in_En hown B.1 B.2.1 2 (wa_2 κ σ) rfl 5 (by decide) (hts _ w_79) (fun _ h9 => h9) rfl d_En_add_16 ?_
    refine zrwi (y := nI E) (hE) ?_
    refine lv_iload_n hx hb d_En_add_19 rfl (lv_at hl 1 rfl) ?_
    refine ziast hx hb B 3 0 (wa_3 κ σ) rfl E rfl (by omega) (by decide) (ws_3 κ σ E p1) d_En_add_20 (fun H locs B => ?_)
    have B : BA κ A s.heap s (zi σ 8 E p1) H locs := B
    refine lv_aload_n hx hb d_En_add_21 rfl (lv_at hl 0 rfl) ?_
    refine va_get (D := κ.1) (ci := 1) (v := .ref (aA κ 4)) (C := "UnitThreads$Entries") (T := T_En) (N := 6) hx hb hts in_En hown B.1 B.2.1 2 (wa_2 κ (zi σ 8 E p1)) rfl 1 (by decide) (hts _ w_75) (fun _ h9 => h9) rfl d_En_add_22 ?_
    refine lv_aload_n hx hb d_En_add_25 rfl (lv_at hl 0 rfl) ?_
    refine va_get (D := κ.1) (ci := 1) (v := .int ((zi σ 8 E p1).1 12 0)) (C := "UnitThreads$Entries") (T := T_En) (N := 6) hx hb hts in_En hown B.1 B.2.1 2 (wa_2 κ (zi σ 8 E p1)) rfl 5 (by decide) (hts _ w_79) (fun _ h9 => h9) rfl d_En_add_26 ?_
    refine zrwi (y := σ.1 12 0) (by rw [zi_nf _ _ (by decide : 12 ≠ 8)]) ?_
    refine zrwi (y := nI E) (hE) ?_
    refine lv_iload_n hx hb d_En_add_29 rfl (lv_at hl 2 rfl) ?_
    refine ziast hx hb B 4 0 (wa_4 κ (zi σ 8 E p1)) rfl E rfl (by omega) (by decide) (ws_4 κ (zi σ 8 E p1) E p2) d_En_add_30 (fun H locs B => ?_)
    have B : BA κ A s.heap s (zi (zi σ 8 E p1) 9 E p2) H locs := B
    refine lv_aload_n hx hb d_En_add_31 rfl (lv_at hl 0 rfl) ?_
    refine va_get (D := κ.1) (ci := 1) (v := .ref (aA κ 5)) (C := "UnitThreads$Entries") (T := T_En) (N := 6) hx hb hts in_En hown B.1 B.2.1 2 (wa_2 κ (zi (zi σ 8 E p1) 9 E p2)) rfl 2 (by decide) (hts _ w_76) (fun _ h9 => h9) rfl d_En_add_32 ?_
    refine lv_aload_n hx hb d_En_add_35 rfl (lv_at hl 0 rfl) ?_
    refine va_get (D := κ.1) (ci := 1) (v := .int ((zi (zi σ 8 E p1) 9 E p2).1 12 0)) (C := "UnitThreads$Entries") (T := T_En) (N := 6) hx hb hts in_En hown B.1 B.2.1 2 (wa_2 κ (zi (zi σ 8 E p1) 9 E p2)) rfl 5 (by decide) (hts _ w_79) (fun _ h9 => h9) rfl d_En_add_36 ?_
    refine zrwi (y := σ.1 12 0) (by rw [zi_nf _ _ (by decide : 12 ≠ 9), zi_nf _ _ (by decide : 12 ≠ 8)]) ?_
    refine zrwi (y := nI E) (hE) ?_
    refine lv_iload_n hx hb d_En_add_39 rfl (lv_at hl 3 rfl) ?_
    refine ziast hx hb B 5 0 (wa_5 κ (zi (zi σ 8 E p1) 9 E p2)) rfl E rfl (by omega) (by decide) (ws_5 κ (zi (zi σ 8 E p1) 9 E p2) E p3) d_En_add_40 (fun H locs B => ?_)
    have B : BA κ A s.heap s (zi (zi (zi σ 8 E p1) 9 E p2) 10 E p3) H locs := B
    refine lv_aload_n hx hb d_En_add_41 rfl (lv_at hl 0 rfl) ?_
    refine va_get (D := κ.1) (ci := 1) (v := .ref (aA κ 6)) (C := "UnitThreads$Entries") (T := T_En) (N := 6) hx hb hts in_En hown B.1 B.2.1 2 (wa_2 κ (zi (zi (zi σ 8 E p1) 9 E p2) 10 E p3)) rfl 3 (by decide) (hts _ w_77) (fun _ h9 => h9) rfl d_En_add_42 ?_
    refine lv_aload_n hx hb d_En_add_45 rfl (lv_at hl 0 rfl) ?_
    refine va_get (D := κ.1) (ci := 1) (v := .int ((zi (zi (zi σ 8 E p1) 9 E p2) 10 E p3).1 12 0)) (C := "UnitThreads$Entries") (T := T_En) (N := 6) hx hb hts in_En hown B.1 B.2.1 2 (wa_2 κ (zi (zi (zi σ 8 E p1) 9 E p2) 10 E p3)) rfl 5 (by decide) (hts _ w_79) (fun _ h9 => h9) rfl d_En_add_46 ?_
    refine zrwi (y := σ.1 12 0) (by rw [zi_nf _ _ (by decide : 12 ≠ 10), zi_nf _ _ (by decide : 12 ≠ 9), zi_nf _ _ (by decide : 12 ≠ 8)]) ?_
    refine zrwi (y := nI E) (hE) ?_
    refine lv_iload hx hb d_En_add_49 (lv_at hl 4 rfl) ?_
    refine ziast hx hb B 6 0 (wa_6 κ (zi (zi (zi σ 8 E p1) 9 E p2) 10 E p3)) rfl E rfl (by omega) (by decide) (ws_6 κ (zi (zi (zi σ 8 E p1) 9 E p2) 10 E p3) E p4) d_En_add_51 (fun H locs B => ?_)
    have B : BA κ A s.heap s (zi (zi (zi (zi σ 8 E p1) 9 E p2) 10 E p3) 11 E p4) H locs := B
    refine lv_aload_n hx hb d_En_add_52 rfl (lv_at hl 0 rfl) ?_
    refine va_get (D := κ.1) (ci := 1) (v := .ref (aA κ 7)) (C := "UnitThreads$Entries") (T := T_En) (N := 6) hx hb hts in_En hown B.1 B.2.1 2 (wa_2 κ (zi (zi (zi (zi σ 8 E p1) 9 E p2) 10 E p3) 11 E p4)) rfl 4 (by decide) (hts _ w_78) (fun _ h9 => h9) rfl d_En_add_53 ?_
    refine lv_aload_n hx hb d_En_add_56 rfl (lv_at hl 0 rfl) ?_
    refine va_get (D := κ.1) (ci := 1) (v := .int ((zi (zi (zi (zi σ 8 E p1) 9 E p2) 10 E p3) 11 E p4).1 12 0)) (C := "UnitThreads$Entries") (T := T_En) (N := 6) hx hb hts in_En hown B.1 B.2.1 2 (wa_2 κ (zi (zi (zi (zi σ 8 E p1) 9 E p2) 10 E p3) 11 E p4)) rfl 5 (by decide) (hts _ w_79) (fun _ h9 => h9) rfl d_En_add_57 ?_
    refine zrwi (y := σ.1 12 0) (by rw [zi_nf _ _ (by decide : 12 ≠ 11), zi_nf _ _ (by decide : 12 ≠ 10), zi_nf _ _ (by decide : 12 ≠ 9), zi_nf _ _ (by decide : 12 ≠ 8)]) ?_
    refine zrwi (y := nI E) (hE) ?_
    refine lv_lload hx hb d_En_add_60 (lv_at hl 5 rfl) ?_
    refine zlast hx hb B 7 1 (wa_7 κ (zi (zi (zi (zi σ 8 E p1) 9 E p2) 10 E p3) 11 E p4)) rfl E rfl (by omega) (by decide) (ws_7 κ (zi (zi (zi (zi σ 8 E p1) 9 E p2) 10 E p3) 11 E p4) E v) d_En_add_62 (fun H locs B => ?_)
    have B : BA κ A s.heap s (zl (zi (zi (zi (zi σ 8 E p1) 9 E p2) 10 E p3) 11 E p4) 0 E v) H locs := B
    refine lv_aload_n hx hb d_En_add_63 rfl (lv_at hl 0 rfl) ?_
    refine lv_dup hx hb d_En_add_64 rfl ?_
    refine va_get (D := κ.1) (ci := 1) (v := .int ((zl (zi (zi (zi (zi σ 8 E p1) 9 E p2) 10 E p3) 11 E p4) 0 E v).1 12 0)) (C := "UnitThreads$Entries") (T := T_En) (N := 6) hx hb hts in_En hown B.1 B.2.1 2 (wa_2 κ (zl (zi (zi (zi (zi σ 8 E p1) 9 E p2) 10 E p3) 11 E p4) 0 E v)) rfl 5 (by decide) (hts _ w_79) (fun _ h9 => h9) rfl d_En_add_65 ?_
    refine zrwi (y := σ.1 12 0) (by rw [zl_1, zi_nf _ _ (by decide : 12 ≠ 11), zi_nf _ _ (by decide : 12 ≠ 10), zi_nf _ _ (by decide : 12 ≠ 9), zi_nf _ _ (by decide : 12 ≠ 8)]) ?_
    refine zrwi (y := nI E) (hE) ?_
    refine lv_iconst (v := 1) hx hb d_En_add_68 (by decide) ?_
    refine lv_iadd hx hb d_En_add_69 ?_
    refine zrwi (y := nI (E + 1)) (nI_1 _) ?_
    refine zput (ci := 1) (v := .int (nI (E + 1))) (ty := .int) (C := "UnitThreads$Entries") (T := T_En) (N := 6) hx hb hts in_En ty_En tyok_En nm_En hown B 2 (wa_2 κ (zl (zi (zi (zi (zi σ 8 E p1) 9 E p2) 10 E p3) 11 E p4) 0 E v)) rfl 5 (by decide) (hts _ w_79) (fun _ h9 => h9) rfl (by decide +kernel) rfl rfl (Nat.le_of_ble_eq_true rfl) (wp_2_5 κ (zl (zi (zi (zi (zi σ 8 E p1) 9 E p2) 10 E p3) 11 E p4) 0 E v) (nI (E + 1))) d_En_add_70 (fun H locs B => ?_)
    have B : BA κ A s.heap s (zi (zl (zi (zi (zi (zi σ 8 E p1) 9 E p2) 10 E p3) 11 E p4) 0 E v) 12 0 (nI (E + 1))) H locs := B
    exact zret_v hx hb hr hlocks B (rfl) d_En_add_73
  · have c_1 := (not_congr (nI_ltI (a := E) (b := 300) (by omega) (by omega))).mp c_1
    exact absurd c_1 (by omega)
set_option maxHeartbeats 4000000 in
set_option maxRecDepth 100000 in
theorem c_En_find (l : Launch) (κ : KA) (σ : zS) (p1 p2 p3 p4 : Int32) (E : Nat) (hE : σ.1 12 0 = nI E) (hE3 : E ≤ 300) : zMi l y_En_find (zws y_En_find prog_3_method_3_code 6 (some .int)) ({ frames := 0, cells := 0, slots := 0, locals := 0 }) κ.1 vwCl (tysA κ) nwA (wA κ) σ [.ref (aA κ 2), .int (p1), .int (p2), .int (p3), .int (p4)] (fun r σ' => r = fx_find σ p1 p2 p3 p4 E 0 ∧ σ' = σ) := by
  refine zintro (cc := prog_3_method_3_code) (maxL := 6) (ret := (some .int)) (by decide) rfl (Nat.le_of_ble_eq_true rfl) ?_
  intro p e s m below meth c ls hx hb hr hml hts hown hlocks hl B
  have hl : lv_has ls 6 [(0, .ref (aA κ 2)), (1, .int (p1)), (2, .int (p2)), (3, .int (p3)), (4, .int (p4))] := hl
  have B : BA κ (va_A (wA κ σ) s.heap.size) s.heap s σ s.heap [] := B
  have hr : meth.sig.returnType = (some .int) := hr
  have hown : s.vm.findClass "UnitThreads$Entries" = some m.cls := hown
  show W p l e (headSpec (zws y_En_find prog_3_method_3_code 6 (some .int)) ({ frames := 0, cells := 0, slots := 0, locals := 0 })).room s m [.ref (aA κ 2), .int (p1), .int (p2), .int (p3), .int (p4)].toArray below meth c s.heap [] 0 0 (MQ below (va_Qi (fun r σ' => r = fx_find σ p1 p2 p3 p4 E 0 ∧ σ' = σ) (zQ κ.1 vwCl (tysA κ) (wA κ) (va_A (wA κ σ) s.heap.size)) (va_A (wA κ σ) s.heap.size)) [.ref (aA κ 2), .int (p1), .int (p2), .int (p3), .int (p4)].toArray s 0 0 (va_A (wA κ σ) s.heap.size)) (F0 m 0 ls [])
  generalize va_A (wA κ σ) s.heap.size = A at B ⊢
  have hts : ∀ w ∈ zW, w.before [.ref (aA κ 2), .int (p1), .int (p2), .int (p3), .int (p4)].toArray s = true := fun w h => hts w (List.mem_cons_of_mem _ h)
  have L_3 : ∀ (j : Nat) (k : Nat), k + j = E → (fx_find σ p1 p2 p3 p4 E 0 = fx_find σ p1 p2 p3 p4 j k) → ∀ (H : Heap) (locs : List Loc), BA κ A s.heap s σ H locs → ∀ (ls : Array Slot), lv_has ls 6 [(0, .ref (aA κ 2)), (1, .int (p1)), (2, .int (p2)), (3, .int (p3)), (4, .int (p4)), (5, .int (nI k))] → W p l e (headSpec (zws y_En_find prog_3_method_3_code 6 (some .int)) ({ frames := 0, cells := 0, slots := 0, locals := 0 })).room s m [.ref (aA κ 2), .int (p1), .int (p2), .int (p3), .int (p4)].toArray below meth c H locs 0 0 (MQ below (va_Qi (fun r σ' => r = fx_find σ p1 p2 p3 p4 E 0 ∧ σ' = σ) (zQ κ.1 vwCl (tysA κ) (wA κ) A) A) [.ref (aA κ 2), .int (p1), .int (p2), .int (p3), .int (p4)].toArray s 0 0 A) (F0 m 3 ls []) := by
    intro j
    induction j with
    | zero =>
      intro k hj hst H locs B ls hl
      refine lv_iload hx hb d_En_find_3 (lv_at hl 5 rfl) ?_
      refine lv_aload_n hx hb d_En_find_5 rfl (lv_at hl 0 rfl) ?_
      refine va_get (D := κ.1) (ci := 1) (v := .int (σ.1 12 0)) (C := "UnitThreads$Entries") (T := T_En) (N := 6) hx hb hts in_En hown B.1 B.2.1 2 (wa_2 κ σ) rfl 5 (by decide) (hts _ w_79) (fun _ h9 => h9) rfl d_En_find_6 ?_
      refine zrwi (y := nI E) (hE) ?_
      refine lv_icmp_ge (tgt := 66) hx hb d_En_find_9 (by decide) (fun c_1 => ?_) (fun c_1 => ?_)
      · have c_1 := (nI_leI (a := E) (b := k) (by omega) (by omega)).mp c_1
        refine lv_iconst (v := (-1)) hx hb d_En_find_66 (by decide) ?_
        exact zret_i hx hb hr hlocks B (⟨by rw [hst]; simp [fx_find, c_1], rfl⟩) d_En_find_67
      · have c_1 := (not_congr (nI_leI (a := E) (b := k) (by omega) (by omega))).mp c_1
        exact absurd c_1 (by omega)
    | succ j ih =>
      intro k hj hst H locs B ls hl
      refine lv_iload hx hb d_En_find_3 (lv_at hl 5 rfl) ?_
      refine lv_aload_n hx hb d_En_find_5 rfl (lv_at hl 0 rfl) ?_
      refine va_get (D := κ.1) (ci := 1) (v := .int (σ.1 12 0)) (C := "UnitThreads$Entries") (T := T_En) (N := 6) hx hb hts in_En hown B.1 B.2.1 2 (wa_2 κ σ) rfl 5 (by decide) (hts _ w_79) (fun _ h9 => h9) rfl d_En_find_6 ?_
      refine zrwi (y := nI E) (hE) ?_
      refine lv_icmp_ge (tgt := 66) hx hb d_En_find_9 (by decide) (fun c_2 => ?_) (fun c_2 => ?_)
      · have c_2 := (nI_leI (a := E) (b := k) (by omega) (by omega)).mp c_2
        exact absurd c_2 (by omega)
      · have c_2 := (not_congr (nI_leI (a := E) (b := k) (by omega) (by omega))).mp c_2
        refine lv_aload_n hx hb d_En_find_12 rfl (lv_at hl 0 rfl) ?_
        refine va_get (D := κ.1) (ci := 1) (v := .ref (aA κ 3)) (C := "UnitThreads$Entries") (T := T_En) (N := 6) hx hb hts in_En hown B.1 B.2.1 2 (wa_2 κ σ) rfl 0 (by decide) (hts _ w_74) (fun _ h9 => h9) rfl d_En_find_13 ?_
        refine lv_iload hx hb d_En_find_16 (lv_at hl 5 rfl) ?_
        refine ziald hx hb B 3 0 (wa_3 κ σ) rfl k rfl (by omega) (by decide) d_En_find_18 ?_
        refine lv_iload_n hx hb d_En_find_19 rfl (lv_at hl 1 rfl) ?_
        refine lv_icmp_ne (tgt := 60) hx hb d_En_find_20 (by decide) (fun c_3 => ?_) (fun c_3 => ?_)
        · refine lv_iinc (v := nI (k + 1)) (lv' := [(5, .int (nI (k + 1))), (0, .ref (aA κ 2)), (1, .int (p1)), (2, .int (p2)), (3, .int (p3)), (4, .int (p4))]) hx hb d_En_find_60 hl (k := 5) rfl (zinc _) (by decide) rfl (fun ls hl => ?_)
          refine lv_goto (tgt := 3) hx hb d_En_find_63 (by decide) ?_
          exact ih (k + 1) (by omega) (by rw [hst]; simp [fx_find, c_2, c_3]) _ _ B ls (lv_sub hl [1, 2, 3, 4, 5, 0] rfl)
        · refine lv_aload_n hx hb d_En_find_23 rfl (lv_at hl 0 rfl) ?_
          refine va_get (D := κ.1) (ci := 1) (v := .ref (aA κ 4)) (C := "UnitThreads$Entries") (T := T_En) (N := 6) hx hb hts in_En hown B.1 B.2.1 2 (wa_2 κ σ) rfl 1 (by decide) (hts _ w_75) (fun _ h9 => h9) rfl d_En_find_24 ?_
          refine lv_iload hx hb d_En_find_27 (lv_at hl 5 rfl) ?_
          refine ziald hx hb B 4 0 (wa_4 κ σ) rfl k rfl (by omega) (by decide) d_En_find_29 ?_
          refine lv_iload_n hx hb d_En_find_30 rfl (lv_at hl 2 rfl) ?_
          refine lv_icmp_ne (tgt := 60) hx hb d_En_find_31 (by decide) (fun c_4 => ?_) (fun c_4 => ?_)
          · refine lv_iinc (v := nI (k + 1)) (lv' := [(5, .int (nI (k + 1))), (0, .ref (aA κ 2)), (1, .int (p1)), (2, .int (p2)), (3, .int (p3)), (4, .int (p4))]) hx hb d_En_find_60 hl (k := 5) rfl (zinc _) (by decide) rfl (fun ls hl => ?_)
            refine lv_goto (tgt := 3) hx hb d_En_find_63 (by decide) ?_
            exact ih (k + 1) (by omega) (by rw [hst]; simp [fx_find, c_2, c_3, c_4]) _ _ B ls (lv_sub hl [1, 2, 3, 4, 5, 0] rfl)
          · refine lv_aload_n hx hb d_En_find_34 rfl (lv_at hl 0 rfl) ?_
            refine va_get (D := κ.1) (ci := 1) (v := .ref (aA κ 5)) (C := "UnitThreads$Entries") (T := T_En) (N := 6) hx hb hts in_En hown B.1 B.2.1 2 (wa_2 κ σ) rfl 2 (by decide) (hts _ w_76) (fun _ h9 => h9) rfl d_En_find_35 ?_
            refine lv_iload hx hb d_En_find_38 (lv_at hl 5 rfl) ?_
            refine ziald hx hb B 5 0 (wa_5 κ σ) rfl k rfl (by omega) (by decide) d_En_find_40 ?_
            refine lv_iload_n hx hb d_En_find_41 rfl (lv_at hl 3 rfl) ?_
            refine lv_icmp_ne (tgt := 60) hx hb d_En_find_42 (by decide) (fun c_5 => ?_) (fun c_5 => ?_)
            · refine lv_iinc (v := nI (k + 1)) (lv' := [(5, .int (nI (k + 1))), (0, .ref (aA κ 2)), (1, .int (p1)), (2, .int (p2)), (3, .int (p3)), (4, .int (p4))]) hx hb d_En_find_60 hl (k := 5) rfl (zinc _) (by decide) rfl (fun ls hl => ?_)
              refine lv_goto (tgt := 3) hx hb d_En_find_63 (by decide) ?_
              exact ih (k + 1) (by omega) (by rw [hst]; simp [fx_find, c_2, c_3, c_4, c_5]) _ _ B ls (lv_sub hl [1, 2, 3, 4, 5, 0] rfl)
            · refine lv_aload_n hx hb d_En_find_45 rfl (lv_at hl 0 rfl) ?_
              refine va_get (D := κ.1) (ci := 1) (v := .ref (aA κ 6)) (C := "UnitThreads$Entries") (T := T_En) (N := 6) hx hb hts in_En hown B.1 B.2.1 2 (wa_2 κ σ) rfl 3 (by decide) (hts _ w_77) (fun _ h9 => h9) rfl d_En_find_46 ?_
              refine lv_iload hx hb d_En_find_49 (lv_at hl 5 rfl) ?_
              refine ziald hx hb B 6 0 (wa_6 κ σ) rfl k rfl (by omega) (by decide) d_En_find_51 ?_
              refine lv_iload hx hb d_En_find_52 (lv_at hl 4 rfl) ?_
              refine lv_icmp_ne (tgt := 60) hx hb d_En_find_54 (by decide) (fun c_6 => ?_) (fun c_6 => ?_)
              · refine lv_iinc (v := nI (k + 1)) (lv' := [(5, .int (nI (k + 1))), (0, .ref (aA κ 2)), (1, .int (p1)), (2, .int (p2)), (3, .int (p3)), (4, .int (p4))]) hx hb d_En_find_60 hl (k := 5) rfl (zinc _) (by decide) rfl (fun ls hl => ?_)
                refine lv_goto (tgt := 3) hx hb d_En_find_63 (by decide) ?_
                exact ih (k + 1) (by omega) (by rw [hst]; simp [fx_find, c_2, c_3, c_4, c_5, c_6]) _ _ B ls (lv_sub hl [1, 2, 3, 4, 5, 0] rfl)
              · refine lv_iload hx hb d_En_find_57 (lv_at hl 5 rfl) ?_
                exact zret_i hx hb hr hlocks B (⟨by rw [hst]; simp [fx_find, c_2, c_3, c_4, c_5, c_6], rfl⟩) d_En_find_59
  refine lv_iconst (v := nI 0) hx hb d_En_find_0 (by decide) ?_
  refine lv_istore (lv' := [(5, .int (nI 0)), (0, .ref (aA κ 2)), (1, .int (p1)), (2, .int (p2)), (3, .int (p3)), (4, .int (p4))]) hx hb d_En_find_1 hl (by decide) rfl (fun ls hl => ?_)
  exact L_3 E 0 (by omega) rfl _ _ B ls (lv_sub hl [1, 2, 3, 4, 5, 0] rfl)
set_option maxHeartbeats 4000000 in
set_option maxRecDepth 100000 in
theorem c_En_markThrown (l : Launch) (κ : KA) (σ : zS) (q : Nat) (E : Nat) (hE : σ.1 12 0 = nI E) (hE3 : E ≤ 300) (he : q < E) : zMv l y_En_markThrown (zws y_En_markThrown prog_3_method_4_code 2 none) ({ frames := 0, cells := 0, slots := 0, locals := 0 }) κ.1 vwCl (tysA κ) nwA (wA κ) σ [.ref (aA κ 2), .int (nI q)] (fun σ' => σ' = zi σ 8 q 3) := by
  refine zintro (cc := prog_3_method_4_code) (maxL := 2) (ret := none) (by decide) rfl (Nat.le_of_ble_eq_true rfl) ?_
  intro p e s m below meth c ls hx hb hr hml hts hown hlocks hl B
  have hl : lv_has ls 2 [(0, .ref (aA κ 2)), (1, .int (nI q))] := hl
  have B : BA κ (va_A (wA κ σ) s.heap.size) s.heap s σ s.heap [] := B
  have hr : meth.sig.returnType = none := hr
  have hown : s.vm.findClass "UnitThreads$Entries" = some m.cls := hown
  show W p l e (headSpec (zws y_En_markThrown prog_3_method_4_code 2 none) ({ frames := 0, cells := 0, slots := 0, locals := 0 })).room s m [.ref (aA κ 2), .int (nI q)].toArray below meth c s.heap [] 0 0 (MQ below (va_Qv (fun σ' => σ' = zi σ 8 q 3) (zQ κ.1 vwCl (tysA κ) (wA κ) (va_A (wA κ σ) s.heap.size)) (va_A (wA κ σ) s.heap.size)) [.ref (aA κ 2), .int (nI q)].toArray s 0 0 (va_A (wA κ σ) s.heap.size)) (F0 m 0 ls [])
  generalize va_A (wA κ σ) s.heap.size = A at B ⊢
  have hts : ∀ w ∈ zW, w.before [.ref (aA κ 2), .int (nI q)].toArray s = true := fun w h => hts w (List.mem_cons_of_mem _ h)
  refine lv_iload_n hx hb d_En_markThrown_0 rfl (lv_at hl 1 rfl) ?_
  refine lv_if_lt (tgt := 19) hx hb d_En_markThrown_1 (by decide) (fun c_1 => ?_) (fun c_1 => ?_)
  · have c_1 := (nI_ltI (a := q) (b := 0) (by omega) (by omega)).mp c_1
    exact absurd c_1 (by omega)
  · have c_1 := (not_congr (nI_ltI (a := q) (b := 0) (by omega) (by omega))).mp c_1
    refine lv_iload_n hx hb d_En_markThrown_4 rfl (lv_at hl 1 rfl) ?_
    refine lv_aload_n hx hb d_En_markThrown_5 rfl (lv_at hl 0 rfl) ?_
    refine va_get (D := κ.1) (ci := 1) (v := .int (σ.1 12 0)) (C := "UnitThreads$Entries") (T := T_En) (N := 6) hx hb hts in_En hown B.1 B.2.1 2 (wa_2 κ σ) rfl 5 (by decide) (hts _ w_79) (fun _ h9 => h9) rfl d_En_markThrown_6 ?_
    refine zrwi (y := nI E) (hE) ?_
    refine lv_icmp_ge (tgt := 19) hx hb d_En_markThrown_9 (by decide) (fun c_2 => ?_) (fun c_2 => ?_)
    · have c_2 := (nI_leI (a := E) (b := q) (by omega) (by omega)).mp c_2
      exact absurd c_2 (by omega)
    · have c_2 := (not_congr (nI_leI (a := E) (b := q) (by omega) (by omega))).mp c_2
      refine lv_aload_n hx hb d_En_markThrown_12 rfl (lv_at hl 0 rfl) ?_
      refine va_get (D := κ.1) (ci := 1) (v := .ref (aA κ 3)) (C := "UnitThreads$Entries") (T := T_En) (N := 6) hx hb hts in_En hown B.1 B.2.1 2 (wa_2 κ σ) rfl 0 (by decide) (hts _ w_74) (fun _ h9 => h9) rfl d_En_markThrown_13 ?_
      refine lv_iload_n hx hb d_En_markThrown_16 rfl (lv_at hl 1 rfl) ?_
      refine lv_iconst (v := 3) hx hb d_En_markThrown_17 (by decide) ?_
      refine ziast hx hb B 3 0 (wa_3 κ σ) rfl q rfl (by omega) (by decide) (ws_3 κ σ q 3) d_En_markThrown_18 (fun H locs B => ?_)
      have B : BA κ A s.heap s (zi σ 8 q 3) H locs := B
      exact zret_v hx hb hr hlocks B (rfl) d_En_markThrown_19
set_option maxHeartbeats 4000000 in
set_option maxRecDepth 100000 in
theorem c_En_brief (l : Launch) (κ : KA) (σ : zS) (hn : nA κ ≤ 8) (E : Nat) (hE : σ.1 12 0 = nI E) (hE3 : E ≤ 300) (hU : ∀ e, e < E → zin (σ.1 9 e) (nA κ)) : zMv l y_En_brief (zws y_En_brief prog_3_method_5_code 5 none) ({ frames := 0, cells := 0, slots := 0, locals := 0 }) κ.1 vwCl (tysA κ) nwA (wA κ) σ [.ref (aA κ 2), .ref (aA κ 1)] (fun σ' => σ' = fx_brief (nA κ) E σ) := by
  refine zintro (cc := prog_3_method_5_code) (maxL := 5) (ret := none) (by decide) rfl (Nat.le_of_ble_eq_true rfl) ?_
  intro p e s m below meth c ls hx hb hr hml hts hown hlocks hl B
  have hl : lv_has ls 5 [(0, .ref (aA κ 2)), (1, .ref (aA κ 1))] := hl
  have B : BA κ (va_A (wA κ σ) s.heap.size) s.heap s σ s.heap [] := B
  have hr : meth.sig.returnType = none := hr
  have hown : s.vm.findClass "UnitThreads$Entries" = some m.cls := hown
  show W p l e (headSpec (zws y_En_brief prog_3_method_5_code 5 none) ({ frames := 0, cells := 0, slots := 0, locals := 0 })).room s m [.ref (aA κ 2), .ref (aA κ 1)].toArray below meth c s.heap [] 0 0 (MQ below (va_Qv (fun σ' => σ' = fx_brief (nA κ) E σ) (zQ κ.1 vwCl (tysA κ) (wA κ) (va_A (wA κ σ) s.heap.size)) (va_A (wA κ σ) s.heap.size)) [.ref (aA κ 2), .ref (aA κ 1)].toArray s 0 0 (va_A (wA κ σ) s.heap.size)) (F0 m 0 ls [])
  generalize va_A (wA κ σ) s.heap.size = A at B ⊢
  have hts : ∀ w ∈ zW, w.before [.ref (aA κ 2), .ref (aA κ 1)].toArray s = true := fun w h => hts w (List.mem_cons_of_mem _ h)
  have L_37 : ∀ (j : Nat) (k : Nat) (τ : zS), k + j = E → (fx_brief (nA κ) E σ = zit fx_brief1 j k τ) → (τ.1 12 0 = nI E) → (∀ e, e < E → zin (τ.1 9 e) (nA κ)) → ∀ (H : Heap) (locs : List Loc), BA κ A s.heap s τ H locs → ∀ (ls : Array Slot), lv_has ls 5 [(0, .ref (aA κ 2)), (1, .ref (aA κ 1)), (2, .int (nI k))] → W p l e (headSpec (zws y_En_brief prog_3_method_5_code 5 none) ({ frames := 0, cells := 0, slots := 0, locals := 0 })).room s m [.ref (aA κ 2), .ref (aA κ 1)].toArray below meth c H locs 0 0 (MQ below (va_Qv (fun σ' => σ' = fx_brief (nA κ) E σ) (zQ κ.1 vwCl (tysA κ) (wA κ) A) A) [.ref (aA κ 2), .ref (aA κ 1)].toArray s 0 0 A) (F0 m 37 ls []) := by
    intro j
    induction j with
    | zero =>
      intro k τ hj hst hE hU H locs B ls hl
      refine lv_iload_n hx hb d_En_brief_37 rfl (lv_at hl 2 rfl) ?_
      refine lv_aload_n hx hb d_En_brief_38 rfl (lv_at hl 0 rfl) ?_
      refine va_get (D := κ.1) (ci := 1) (v := .int (τ.1 12 0)) (C := "UnitThreads$Entries") (T := T_En) (N := 6) hx hb hts in_En hown B.1 B.2.1 2 (wa_2 κ τ) rfl 5 (by decide) (hts _ w_79) (fun _ h9 => h9) rfl d_En_brief_39 ?_
      refine zrwi (y := nI E) (hE) ?_
      refine lv_icmp_ge (tgt := 178) hx hb d_En_brief_42 (by decide) (fun c_1 => ?_) (fun c_1 => ?_)
      · have c_1 := (nI_leI (a := E) (b := k) (by omega) (by omega)).mp c_1
        exact zret_v hx hb hr hlocks B (hst.symm) d_En_brief_178
      · have c_1 := (not_congr (nI_leI (a := E) (b := k) (by omega) (by omega))).mp c_1
        exact absurd c_1 (by omega)
    | succ j ih =>
      intro k τ hj hst hE hU H locs B ls hl
      refine lv_iload_n hx hb d_En_brief_37 rfl (lv_at hl 2 rfl) ?_
      refine lv_aload_n hx hb d_En_brief_38 rfl (lv_at hl 0 rfl) ?_
      refine va_get (D := κ.1) (ci := 1) (v := .int (τ.1 12 0)) (C := "UnitThreads$Entries") (T := T_En) (N := 6) hx hb hts in_En hown B.1 B.2.1 2 (wa_2 κ τ) rfl 5 (by decide) (hts _ w_79) (fun _ h9 => h9) rfl d_En_brief_39 ?_
      refine zrwi (y := nI E) (hE) ?_
      refine lv_icmp_ge (tgt := 178) hx hb d_En_brief_42 (by decide) (fun c_2 => ?_) (fun c_2 => ?_)
      · have c_2 := (nI_leI (a := E) (b := k) (by omega) (by omega)).mp c_2
        exact absurd c_2 (by omega)
      · have c_2 := (not_congr (nI_leI (a := E) (b := k) (by omega) (by omega))).mp c_2
        refine lv_aload_n hx hb d_En_brief_45 rfl (lv_at hl 1 rfl) ?_
        refine lv_aload_n hx hb d_En_brief_46 rfl (lv_at hl 0 rfl) ?_
        refine va_get (D := κ.1) (ci := 1) (v := .ref (aA κ 4)) (C := "UnitThreads$Entries") (T := T_En) (N := 6) hx hb hts in_En hown B.1 B.2.1 2 (wa_2 κ τ) rfl 1 (by decide) (hts _ w_75) (fun _ h9 => h9) rfl d_En_brief_47 ?_
        refine lv_iload_n hx hb d_En_brief_50 rfl (lv_at hl 2 rfl) ?_
        refine ziald hx hb B 4 0 (wa_4 κ τ) rfl k rfl (by omega) (by decide) d_En_brief_51 ?_
        have hu_3 : tn (τ.1 9 k) < nA κ := (hU k (by omega)).2
        refine zaald hx hb B 1 2 (wa_1 κ τ) rfl (tn (τ.1 9 k)) ((hU k (by omega)).1) hu_3 (by omega) rfl d_En_brief_52 ?_
        refine lv_astore_n (lv' := [(3, .ref (aA κ (64 + (tn (τ.1 9 k))))), (0, .ref (aA κ 2)), (1, .ref (aA κ 1)), (2, .int (nI k))]) hx hb d_En_brief_53 rfl hl (by decide) rfl (fun ls hl => ?_)
        refine lv_aload_n hx hb d_En_brief_54 rfl (lv_at hl 1 rfl) ?_
        refine va_get (D := κ.1) (ci := 1) (v := .ref (aA κ 5)) (C := "UnitThreads$Entries") (T := T_En) (N := 6) hx hb hts in_En hown B.1 B.2.1 2 (wa_2 κ τ) rfl 2 (by decide) (hts _ w_76) (fun _ h9 => h9) rfl d_En_brief_55 ?_
        refine lv_iload_n hx hb d_En_brief_58 rfl (lv_at hl 3 rfl) ?_
        refine ziald hx hb B 5 0 (wa_5 κ τ) rfl k rfl (by omega) (by decide) d_En_brief_59 ?_
        refine lv_aload_n hx hb d_En_brief_60 rfl (lv_at hl 0 rfl) ?_
        refine va_get (D := κ.1) (ci := 0) (v := .int (τ.1 0 (tn (τ.1 9 k)))) (C := "UnitThreads$Unit") (T := T_Un) (N := 8) hx hb hts in_Un hown B.1 B.2.1 (43 + (tn (τ.1 9 k))) (wa_u κ τ hu_3) rfl 0 (by decide) (hts _ w_33) (fun _ h9 => h9) rfl d_En_brief_61 ?_
        refine lv_icmp_ne (tgt := 71) hx hb d_En_brief_64 (by decide) (fun c_4 => ?_) (fun c_4 => ?_)
        · refine lv_iconst (v := 0) hx hb d_En_brief_71 (by decide) ?_
          refine lv_istore (lv' := [(4, .int (0)), (3, .ref (aA κ (64 + (tn (τ.1 9 k))))), (0, .ref (aA κ 2)), (1, .ref (aA κ 1)), (2, .int (nI k))]) hx hb d_En_brief_72 hl (by decide) rfl (fun ls hl => ?_)
          refine lv_aload_n hx hb d_En_brief_74 rfl (lv_at hl 2 rfl) ?_
          refine va_get (D := κ.1) (ci := 1) (v := .ref (aA κ 3)) (C := "UnitThreads$Entries") (T := T_En) (N := 6) hx hb hts in_En hown B.1 B.2.1 2 (wa_2 κ τ) rfl 0 (by decide) (hts _ w_74) (fun _ h9 => h9) rfl d_En_brief_75 ?_
          refine lv_iload_n hx hb d_En_brief_78 rfl (lv_at hl 4 rfl) ?_
          refine ziald hx hb B 3 0 (wa_3 κ τ) rfl k rfl (by omega) (by decide) d_En_brief_79 ?_
          refine lv_iconst (v := 2) hx hb d_En_brief_80 (by decide) ?_
          refine lv_icmp_ne (tgt := 97) hx hb d_En_brief_81 (by decide) (fun c_5 => ?_) (fun c_5 => ?_)
          · refine lv_aload_n hx hb d_En_brief_97 rfl (lv_at hl 2 rfl) ?_
            refine va_get (D := κ.1) (ci := 1) (v := .ref (aA κ 3)) (C := "UnitThreads$Entries") (T := T_En) (N := 6) hx hb hts in_En hown B.1 B.2.1 2 (wa_2 κ τ) rfl 0 (by decide) (hts _ w_74) (fun _ h9 => h9) rfl d_En_brief_98 ?_
            refine lv_iload_n hx hb d_En_brief_101 rfl (lv_at hl 4 rfl) ?_
            refine ziald hx hb B 3 0 (wa_3 κ τ) rfl k rfl (by omega) (by decide) d_En_brief_102 ?_
            refine lv_iconst (v := 1) hx hb d_En_brief_103 (by decide) ?_
            refine lv_icmp_ne (tgt := 132) hx hb d_En_brief_104 (by decide) (fun c_6 => ?_) (fun c_6 => ?_)
            · refine lv_aload_n hx hb d_En_brief_132 rfl (lv_at hl 2 rfl) ?_
              refine va_get (D := κ.1) (ci := 1) (v := .ref (aA κ 3)) (C := "UnitThreads$Entries") (T := T_En) (N := 6) hx hb hts in_En hown B.1 B.2.1 2 (wa_2 κ τ) rfl 0 (by decide) (hts _ w_74) (fun _ h9 => h9) rfl d_En_brief_133 ?_
              refine lv_iload_n hx hb d_En_brief_136 rfl (lv_at hl 4 rfl) ?_
              refine ziald hx hb B 3 0 (wa_3 κ τ) rfl k rfl (by omega) (by decide) d_En_brief_137 ?_
              refine lv_iconst (v := 1) hx hb d_En_brief_138 (by decide) ?_
              refine lv_icmp_ne (tgt := 172) hx hb d_En_brief_139 (by decide) (fun c_7 => ?_) (fun c_7 => ?_)
              · refine lv_iinc (v := nI (k + 1)) (lv' := [(2, .int (nI (k + 1))), (4, .int (0)), (3, .ref (aA κ (64 + (tn (τ.1 9 k))))), (0, .ref (aA κ 2)), (1, .ref (aA κ 1))]) hx hb d_En_brief_172 hl (k := 4) rfl (zinc _) (by decide) rfl (fun ls hl => ?_)
                refine lv_goto (tgt := 37) hx hb d_En_brief_175 (by decide) ?_
                exact ih (k + 1) τ (by omega) (by rw [hst]; simp [zit, fx_brief1, c_2, c_4, c_5, c_6, c_7]) hE hU _ _ B ls (lv_sub hl [3, 4, 0] rfl)
              · exact absurd c_7 (c_6)
            · refine lv_iload hx hb d_En_brief_107 (lv_at hl 0 rfl) ?_
              refine lv_if_eq (tgt := 132) hx hb d_En_brief_109 (by decide) (fun c_8 => ?_) (fun c_8 => ?_)
              · refine lv_aload_n hx hb d_En_brief_132 rfl (lv_at hl 2 rfl) ?_
                refine va_get (D := κ.1) (ci := 1) (v := .ref (aA κ 3)) (C := "UnitThreads$Entries") (T := T_En) (N := 6) hx hb hts in_En hown B.1 B.2.1 2 (wa_2 κ τ) rfl 0 (by decide) (hts _ w_74) (fun _ h9 => h9) rfl d_En_brief_133 ?_
                refine lv_iload_n hx hb d_En_brief_136 rfl (lv_at hl 4 rfl) ?_
                refine ziald hx hb B 3 0 (wa_3 κ τ) rfl k rfl (by omega) (by decide) d_En_brief_137 ?_
                refine lv_iconst (v := 1) hx hb d_En_brief_138 (by decide) ?_
                refine lv_icmp_ne (tgt := 172) hx hb d_En_brief_139 (by decide) (fun c_9 => ?_) (fun c_9 => ?_)
                · exact absurd c_9 (not_not_intro c_6)
                · refine lv_aload_n hx hb d_En_brief_142 rfl (lv_at hl 2 rfl) ?_
                  refine va_get (D := κ.1) (ci := 1) (v := .ref (aA κ 5)) (C := "UnitThreads$Entries") (T := T_En) (N := 6) hx hb hts in_En hown B.1 B.2.1 2 (wa_2 κ τ) rfl 2 (by decide) (hts _ w_76) (fun _ h9 => h9) rfl d_En_brief_143 ?_
                  refine lv_iload_n hx hb d_En_brief_146 rfl (lv_at hl 4 rfl) ?_
                  refine ziald hx hb B 5 0 (wa_5 κ τ) rfl k rfl (by omega) (by decide) d_En_brief_147 ?_
                  refine lv_aload_n hx hb d_En_brief_148 rfl (lv_at hl 1 rfl) ?_
                  refine va_get (D := κ.1) (ci := 0) (v := .int (τ.1 0 (tn (τ.1 9 k)))) (C := "UnitThreads$Unit") (T := T_Un) (N := 8) hx hb hts in_Un hown B.1 B.2.1 (43 + (tn (τ.1 9 k))) (wa_u κ τ hu_3) rfl 0 (by decide) (hts _ w_33) (fun _ h9 => h9) rfl d_En_brief_149 ?_
                  refine lv_icmp_ge (tgt := 172) hx hb d_En_brief_152 (by decide) (fun c_10 => ?_) (fun c_10 => ?_)
                  · refine lv_iinc (v := nI (k + 1)) (lv' := [(2, .int (nI (k + 1))), (4, .int (0)), (3, .ref (aA κ (64 + (tn (τ.1 9 k))))), (0, .ref (aA κ 2)), (1, .ref (aA κ 1))]) hx hb d_En_brief_172 hl (k := 4) rfl (zinc _) (by decide) rfl (fun ls hl => ?_)
                    refine lv_goto (tgt := 37) hx hb d_En_brief_175 (by decide) ?_
                    exact ih (k + 1) τ (by omega) (by rw [hst]; simp [zit, fx_brief1, c_2, c_4, c_5, c_6, c_9, c_10]) hE hU _ _ B ls (lv_sub hl [3, 4, 0] rfl)
                  · refine lv_aload_n hx hb d_En_brief_155 rfl (lv_at hl 1 rfl) ?_
                    refine lv_dup hx hb d_En_brief_156 rfl ?_
                    refine va_get (D := κ.1) (ci := 0) (v := .int (τ.1 6 (tn (τ.1 9 k)))) (C := "UnitThreads$Unit") (T := T_Un) (N := 8) hx hb hts in_Un hown B.1 B.2.1 (43 + (tn (τ.1 9 k))) (wa_u κ τ hu_3) rfl 6 (by decide) (hts _ w_47) (fun _ h9 => h9) rfl d_En_brief_157 ?_
                    refine lv_iconst (v := 1) hx hb d_En_brief_160 (by decide) ?_
                    refine lv_aload_n hx hb d_En_brief_161 rfl (lv_at hl 2 rfl) ?_
                    refine va_get (D := κ.1) (ci := 1) (v := .ref (aA κ 6)) (C := "UnitThreads$Entries") (T := T_En) (N := 6) hx hb hts in_En hown B.1 B.2.1 2 (wa_2 κ τ) rfl 3 (by decide) (hts _ w_77) (fun _ h9 => h9) rfl d_En_brief_162 ?_
                    refine lv_iload_n hx hb d_En_brief_165 rfl (lv_at hl 4 rfl) ?_
                    refine ziald hx hb B 6 0 (wa_6 κ τ) rfl k rfl (by omega) (by decide) d_En_brief_166 ?_
                    refine lv_ishl hx hb d_En_brief_167 ?_
                    refine lv_ixor hx hb d_En_brief_168 ?_
                    refine zput (ci := 0) (v := .int ((τ.1 6 (tn (τ.1 9 k))) ^^^ (1 <<< ((τ.1 11 k) &&& 31)))) (ty := .int) (C := "UnitThreads$Unit") (T := T_Un) (N := 8) hx hb hts in_Un ty_Un tyok_Un nm_Un hown B (43 + (tn (τ.1 9 k))) (wa_u κ τ hu_3) rfl 6 (by decide) (hts _ w_47) (fun _ h9 => h9) rfl (by decide +kernel) rfl rfl (Nat.le_of_ble_eq_true rfl) (wq_6 κ τ hu_3 ((τ.1 6 (tn (τ.1 9 k))) ^^^ (1 <<< ((τ.1 11 k) &&& 31)))) d_En_brief_169 (fun H locs B => ?_)
                    have B : BA κ A s.heap s (zi τ 6 (tn (τ.1 9 k)) ((τ.1 6 (tn (τ.1 9 k))) ^^^ (1 <<< ((τ.1 11 k) &&& 31)))) H locs := B
                    refine lv_iinc (v := nI (k + 1)) (lv' := [(2, .int (nI (k + 1))), (4, .int (0)), (3, .ref (aA κ (64 + (tn (τ.1 9 k))))), (0, .ref (aA κ 2)), (1, .ref (aA κ 1))]) hx hb d_En_brief_172 hl (k := 4) rfl (zinc _) (by decide) rfl (fun ls hl => ?_)
                    refine lv_goto (tgt := 37) hx hb d_En_brief_175 (by decide) ?_
                    exact ih (k + 1) (zi τ 6 (tn (τ.1 9 k)) ((τ.1 6 (tn (τ.1 9 k))) ^^^ (1 <<< ((τ.1 11 k) &&& 31)))) (by omega) (by rw [hst]; simp [zit, fx_brief1, c_2, c_4, c_5, c_6, c_9, c_10]) hE hU _ _ B ls (lv_sub hl [3, 4, 0] rfl)
              · exact absurd c_8 (by decide)
          · refine lv_iload hx hb d_En_brief_84 (lv_at hl 0 rfl) ?_
            refine lv_if_eq (tgt := 97) hx hb d_En_brief_86 (by decide) (fun c_11 => ?_) (fun c_11 => ?_)
            · refine lv_aload_n hx hb d_En_brief_97 rfl (lv_at hl 2 rfl) ?_
              refine va_get (D := κ.1) (ci := 1) (v := .ref (aA κ 3)) (C := "UnitThreads$Entries") (T := T_En) (N := 6) hx hb hts in_En hown B.1 B.2.1 2 (wa_2 κ τ) rfl 0 (by decide) (hts _ w_74) (fun _ h9 => h9) rfl d_En_brief_98 ?_
              refine lv_iload_n hx hb d_En_brief_101 rfl (lv_at hl 4 rfl) ?_
              refine ziald hx hb B 3 0 (wa_3 κ τ) rfl k rfl (by omega) (by decide) d_En_brief_102 ?_
              refine lv_iconst (v := 1) hx hb d_En_brief_103 (by decide) ?_
              refine lv_icmp_ne (tgt := 132) hx hb d_En_brief_104 (by decide) (fun c_12 => ?_) (fun c_12 => ?_)
              · refine lv_aload_n hx hb d_En_brief_132 rfl (lv_at hl 2 rfl) ?_
                refine va_get (D := κ.1) (ci := 1) (v := .ref (aA κ 3)) (C := "UnitThreads$Entries") (T := T_En) (N := 6) hx hb hts in_En hown B.1 B.2.1 2 (wa_2 κ τ) rfl 0 (by decide) (hts _ w_74) (fun _ h9 => h9) rfl d_En_brief_133 ?_
                refine lv_iload_n hx hb d_En_brief_136 rfl (lv_at hl 4 rfl) ?_
                refine ziald hx hb B 3 0 (wa_3 κ τ) rfl k rfl (by omega) (by decide) d_En_brief_137 ?_
                refine lv_iconst (v := 1) hx hb d_En_brief_138 (by decide) ?_
                refine lv_icmp_ne (tgt := 172) hx hb d_En_brief_139 (by decide) (fun c_13 => ?_) (fun c_13 => ?_)
                · refine lv_iinc (v := nI (k + 1)) (lv' := [(2, .int (nI (k + 1))), (4, .int (0)), (3, .ref (aA κ (64 + (tn (τ.1 9 k))))), (0, .ref (aA κ 2)), (1, .ref (aA κ 1))]) hx hb d_En_brief_172 hl (k := 4) rfl (zinc _) (by decide) rfl (fun ls hl => ?_)
                  refine lv_goto (tgt := 37) hx hb d_En_brief_175 (by decide) ?_
                  exact ih (k + 1) τ (by omega) (by rw [hst]; simp [zit, fx_brief1, c_2, c_4, c_5, c_12, c_13]) hE hU _ _ B ls (lv_sub hl [3, 4, 0] rfl)
                · exact absurd c_13 (c_12)
              · exact absurd c_12 (fun h => absurd (c_5.symm.trans h) (by decide))
            · exact absurd c_11 (by decide)
        · refine lv_iconst (v := 1) hx hb d_En_brief_67 (by decide) ?_
          refine lv_goto (tgt := 72) hx hb d_En_brief_68 (by decide) ?_
          refine lv_istore (lv' := [(4, .int (1)), (3, .ref (aA κ (64 + (tn (τ.1 9 k))))), (0, .ref (aA κ 2)), (1, .ref (aA κ 1)), (2, .int (nI k))]) hx hb d_En_brief_72 hl (by decide) rfl (fun ls hl => ?_)
          refine lv_aload_n hx hb d_En_brief_74 rfl (lv_at hl 2 rfl) ?_
          refine va_get (D := κ.1) (ci := 1) (v := .ref (aA κ 3)) (C := "UnitThreads$Entries") (T := T_En) (N := 6) hx hb hts in_En hown B.1 B.2.1 2 (wa_2 κ τ) rfl 0 (by decide) (hts _ w_74) (fun _ h9 => h9) rfl d_En_brief_75 ?_
          refine lv_iload_n hx hb d_En_brief_78 rfl (lv_at hl 4 rfl) ?_
          refine ziald hx hb B 3 0 (wa_3 κ τ) rfl k rfl (by omega) (by decide) d_En_brief_79 ?_
          refine lv_iconst (v := 2) hx hb d_En_brief_80 (by decide) ?_
          refine lv_icmp_ne (tgt := 97) hx hb d_En_brief_81 (by decide) (fun c_14 => ?_) (fun c_14 => ?_)
          · refine lv_aload_n hx hb d_En_brief_97 rfl (lv_at hl 2 rfl) ?_
            refine va_get (D := κ.1) (ci := 1) (v := .ref (aA κ 3)) (C := "UnitThreads$Entries") (T := T_En) (N := 6) hx hb hts in_En hown B.1 B.2.1 2 (wa_2 κ τ) rfl 0 (by decide) (hts _ w_74) (fun _ h9 => h9) rfl d_En_brief_98 ?_
            refine lv_iload_n hx hb d_En_brief_101 rfl (lv_at hl 4 rfl) ?_
            refine ziald hx hb B 3 0 (wa_3 κ τ) rfl k rfl (by omega) (by decide) d_En_brief_102 ?_
            refine lv_iconst (v := 1) hx hb d_En_brief_103 (by decide) ?_
            refine lv_icmp_ne (tgt := 132) hx hb d_En_brief_104 (by decide) (fun c_15 => ?_) (fun c_15 => ?_)
            · refine lv_aload_n hx hb d_En_brief_132 rfl (lv_at hl 2 rfl) ?_
              refine va_get (D := κ.1) (ci := 1) (v := .ref (aA κ 3)) (C := "UnitThreads$Entries") (T := T_En) (N := 6) hx hb hts in_En hown B.1 B.2.1 2 (wa_2 κ τ) rfl 0 (by decide) (hts _ w_74) (fun _ h9 => h9) rfl d_En_brief_133 ?_
              refine lv_iload_n hx hb d_En_brief_136 rfl (lv_at hl 4 rfl) ?_
              refine ziald hx hb B 3 0 (wa_3 κ τ) rfl k rfl (by omega) (by decide) d_En_brief_137 ?_
              refine lv_iconst (v := 1) hx hb d_En_brief_138 (by decide) ?_
              refine lv_icmp_ne (tgt := 172) hx hb d_En_brief_139 (by decide) (fun c_16 => ?_) (fun c_16 => ?_)
              · refine lv_iinc (v := nI (k + 1)) (lv' := [(2, .int (nI (k + 1))), (4, .int (1)), (3, .ref (aA κ (64 + (tn (τ.1 9 k))))), (0, .ref (aA κ 2)), (1, .ref (aA κ 1))]) hx hb d_En_brief_172 hl (k := 4) rfl (zinc _) (by decide) rfl (fun ls hl => ?_)
                refine lv_goto (tgt := 37) hx hb d_En_brief_175 (by decide) ?_
                exact ih (k + 1) τ (by omega) (by rw [hst]; simp [zit, fx_brief1, c_2, c_4, c_14, c_15, c_16]) hE hU _ _ B ls (lv_sub hl [3, 4, 0] rfl)
              · exact absurd c_16 (c_15)
            · refine lv_iload hx hb d_En_brief_107 (lv_at hl 0 rfl) ?_
              refine lv_if_eq (tgt := 132) hx hb d_En_brief_109 (by decide) (fun c_17 => ?_) (fun c_17 => ?_)
              · exact absurd c_17 (by decide)
              · refine lv_aload_n hx hb d_En_brief_112 rfl (lv_at hl 1 rfl) ?_
                refine lv_dup hx hb d_En_brief_113 rfl ?_
                refine va_get (D := κ.1) (ci := 0) (v := .int (τ.1 5 (tn (τ.1 9 k)))) (C := "UnitThreads$Unit") (T := T_Un) (N := 8) hx hb hts in_Un hown B.1 B.2.1 (43 + (tn (τ.1 9 k))) (wa_u κ τ hu_3) rfl 5 (by decide) (hts _ w_45) (fun _ h9 => h9) rfl d_En_brief_114 ?_
                refine lv_iconst (v := 1) hx hb d_En_brief_117 (by decide) ?_
                refine lv_aload_n hx hb d_En_brief_118 rfl (lv_at hl 2 rfl) ?_
                refine va_get (D := κ.1) (ci := 1) (v := .ref (aA κ 6)) (C := "UnitThreads$Entries") (T := T_En) (N := 6) hx hb hts in_En hown B.1 B.2.1 2 (wa_2 κ τ) rfl 3 (by decide) (hts _ w_77) (fun _ h9 => h9) rfl d_En_brief_119 ?_
                refine lv_iload_n hx hb d_En_brief_122 rfl (lv_at hl 4 rfl) ?_
                refine ziald hx hb B 6 0 (wa_6 κ τ) rfl k rfl (by omega) (by decide) d_En_brief_123 ?_
                refine lv_ishl hx hb d_En_brief_124 ?_
                refine lv_ior hx hb d_En_brief_125 ?_
                refine zput (ci := 0) (v := .int ((τ.1 5 (tn (τ.1 9 k))) ||| (1 <<< ((τ.1 11 k) &&& 31)))) (ty := .int) (C := "UnitThreads$Unit") (T := T_Un) (N := 8) hx hb hts in_Un ty_Un tyok_Un nm_Un hown B (43 + (tn (τ.1 9 k))) (wa_u κ τ hu_3) rfl 5 (by decide) (hts _ w_45) (fun _ h9 => h9) rfl (by decide +kernel) rfl rfl (Nat.le_of_ble_eq_true rfl) (wq_5 κ τ hu_3 ((τ.1 5 (tn (τ.1 9 k))) ||| (1 <<< ((τ.1 11 k) &&& 31)))) d_En_brief_126 (fun H locs B => ?_)
                have B : BA κ A s.heap s (zi τ 5 (tn (τ.1 9 k)) ((τ.1 5 (tn (τ.1 9 k))) ||| (1 <<< ((τ.1 11 k) &&& 31)))) H locs := B
                refine lv_goto (tgt := 172) hx hb d_En_brief_129 (by decide) ?_
                refine lv_iinc (v := nI (k + 1)) (lv' := [(2, .int (nI (k + 1))), (4, .int (1)), (3, .ref (aA κ (64 + (tn (τ.1 9 k))))), (0, .ref (aA κ 2)), (1, .ref (aA κ 1))]) hx hb d_En_brief_172 hl (k := 4) rfl (zinc _) (by decide) rfl (fun ls hl => ?_)
                refine lv_goto (tgt := 37) hx hb d_En_brief_175 (by decide) ?_
                exact ih (k + 1) (zi τ 5 (tn (τ.1 9 k)) ((τ.1 5 (tn (τ.1 9 k))) ||| (1 <<< ((τ.1 11 k) &&& 31)))) (by omega) (by rw [hst]; simp [zit, fx_brief1, c_2, c_4, c_14, c_15]) hE hU _ _ B ls (lv_sub hl [3, 4, 0] rfl)
          · refine lv_iload hx hb d_En_brief_84 (lv_at hl 0 rfl) ?_
            refine lv_if_eq (tgt := 97) hx hb d_En_brief_86 (by decide) (fun c_18 => ?_) (fun c_18 => ?_)
            · exact absurd c_18 (by decide)
            · refine lv_aload_n hx hb d_En_brief_89 rfl (lv_at hl 1 rfl) ?_
              refine lv_iload_n hx hb d_En_brief_90 rfl (lv_at hl 4 rfl) ?_
              refine zput (ci := 0) (v := .int (nI k)) (ty := .int) (C := "UnitThreads$Unit") (T := T_Un) (N := 8) hx hb hts in_Un ty_Un tyok_Un nm_Un hown B (43 + (tn (τ.1 9 k))) (wa_u κ τ hu_3) rfl 4 (by decide) (hts _ w_42) (fun _ h9 => h9) rfl (by decide +kernel) rfl rfl (Nat.le_of_ble_eq_true rfl) (wq_4 κ τ hu_3 (nI k)) d_En_brief_91 (fun H locs B => ?_)
              have B : BA κ A s.heap s (zi τ 4 (tn (τ.1 9 k)) (nI k)) H locs := B
              refine lv_goto (tgt := 172) hx hb d_En_brief_94 (by decide) ?_
              refine lv_iinc (v := nI (k + 1)) (lv' := [(2, .int (nI (k + 1))), (4, .int (1)), (3, .ref (aA κ (64 + (tn (τ.1 9 k))))), (0, .ref (aA κ 2)), (1, .ref (aA κ 1))]) hx hb d_En_brief_172 hl (k := 4) rfl (zinc _) (by decide) rfl (fun ls hl => ?_)
              refine lv_goto (tgt := 37) hx hb d_En_brief_175 (by decide) ?_
              exact ih (k + 1) (zi τ 4 (tn (τ.1 9 k)) (nI k)) (by omega) (by rw [hst]; simp [zit, fx_brief1, c_2, c_4, c_14]) hE hU _ _ B ls (lv_sub hl [3, 4, 0] rfl)
  have L_2 : ∀ (j : Nat) (k : Nat) (τ : zS), k + j = nA κ → (fx_brief (nA κ) E σ = zit fx_brief1 E 0 (zit fx_brief0 j k τ)) → (τ.1 12 0 = nI E) → (∀ e, e < E → zin (τ.1 9 e) (nA κ)) → ∀ (H : Heap) (locs : List Loc), BA κ A s.heap s τ H locs → ∀ (ls : Array Slot), lv_has ls 5 [(0, .ref (aA κ 2)), (1, .ref (aA κ 1)), (2, .int (nI k))] → W p l e (headSpec (zws y_En_brief prog_3_method_5_code 5 none) ({ frames := 0, cells := 0, slots := 0, locals := 0 })).room s m [.ref (aA κ 2), .ref (aA κ 1)].toArray below meth c H locs 0 0 (MQ below (va_Qv (fun σ' => σ' = fx_brief (nA κ) E σ) (zQ κ.1 vwCl (tysA κ) (wA κ) A) A) [.ref (aA κ 2), .ref (aA κ 1)].toArray s 0 0 A) (F0 m 2 ls []) := by
    intro j
    induction j with
    | zero =>
      intro k τ hj hst hE hU H locs B ls hl
      refine lv_iload_n hx hb d_En_brief_2 rfl (lv_at hl 2 rfl) ?_
      refine lv_aload_n hx hb d_En_brief_3 rfl (lv_at hl 1 rfl) ?_
      refine zalen hx hb B 1 2 (wa_1 κ τ) rfl d_En_brief_4 ?_
      refine lv_icmp_ge (tgt := 35) hx hb d_En_brief_5 (by decide) (fun c_19 => ?_) (fun c_19 => ?_)
      · have c_19 := (nI_leI (a := nA κ) (b := k) (by omega) (by omega)).mp c_19
        refine lv_iconst (v := nI 0) hx hb d_En_brief_35 (by decide) ?_
        refine lv_istore_n (lv' := [(2, .int (nI 0)), (0, .ref (aA κ 2)), (1, .ref (aA κ 1))]) hx hb d_En_brief_36 rfl hl (by decide) rfl (fun ls hl => ?_)
        exact L_37 E 0 τ (by omega) hst hE hU _ _ B ls (lv_sub hl [1, 2, 0] rfl)
      · have c_19 := (not_congr (nI_leI (a := nA κ) (b := k) (by omega) (by omega))).mp c_19
        exact absurd c_19 (by omega)
    | succ j ih =>
      intro k τ hj hst hE hU H locs B ls hl
      refine lv_iload_n hx hb d_En_brief_2 rfl (lv_at hl 2 rfl) ?_
      refine lv_aload_n hx hb d_En_brief_3 rfl (lv_at hl 1 rfl) ?_
      refine zalen hx hb B 1 2 (wa_1 κ τ) rfl d_En_brief_4 ?_
      refine lv_icmp_ge (tgt := 35) hx hb d_En_brief_5 (by decide) (fun c_20 => ?_) (fun c_20 => ?_)
      · have c_20 := (nI_leI (a := nA κ) (b := k) (by omega) (by omega)).mp c_20
        exact absurd c_20 (by omega)
      · have c_20 := (not_congr (nI_leI (a := nA κ) (b := k) (by omega) (by omega))).mp c_20
        refine lv_aload_n hx hb d_En_brief_8 rfl (lv_at hl 1 rfl) ?_
        refine lv_iload_n hx hb d_En_brief_9 rfl (lv_at hl 2 rfl) ?_
        have hu_21 : k < nA κ := (by omega)
        refine zaald hx hb B 1 2 (wa_1 κ τ) rfl k rfl hu_21 (by omega) rfl d_En_brief_10 ?_
        refine lv_iconst (v := (-1)) hx hb d_En_brief_11 (by decide) ?_
        refine zput (ci := 0) (v := .int ((-1))) (ty := .int) (C := "UnitThreads$Unit") (T := T_Un) (N := 8) hx hb hts in_Un ty_Un tyok_Un nm_Un hown B (43 + k) (wa_u κ τ hu_21) rfl 4 (by decide) (hts _ w_42) (fun _ h9 => h9) rfl (by decide +kernel) rfl rfl (Nat.le_of_ble_eq_true rfl) (wq_4 κ τ hu_21 (-1)) d_En_brief_12 (fun H locs B => ?_)
        have B : BA κ A s.heap s (zi τ 4 k (-1)) H locs := B
        refine lv_aload_n hx hb d_En_brief_15 rfl (lv_at hl 1 rfl) ?_
        refine lv_iload_n hx hb d_En_brief_16 rfl (lv_at hl 2 rfl) ?_
        have hu_22 : k < nA κ := (by omega)
        refine zaald hx hb B 1 2 (wa_1 κ (zi τ 4 k (-1))) rfl k rfl hu_22 (by omega) rfl d_En_brief_17 ?_
        refine lv_iconst (v := 0) hx hb d_En_brief_18 (by decide) ?_
        refine zput (ci := 0) (v := .int (0)) (ty := .int) (C := "UnitThreads$Unit") (T := T_Un) (N := 8) hx hb hts in_Un ty_Un tyok_Un nm_Un hown B (43 + k) (wa_u κ (zi τ 4 k (-1)) hu_22) rfl 5 (by decide) (hts _ w_45) (fun _ h9 => h9) rfl (by decide +kernel) rfl rfl (Nat.le_of_ble_eq_true rfl) (wq_5 κ (zi τ 4 k (-1)) hu_22 0) d_En_brief_19 (fun H locs B => ?_)
        have B : BA κ A s.heap s (zi (zi τ 4 k (-1)) 5 k 0) H locs := B
        refine lv_aload_n hx hb d_En_brief_22 rfl (lv_at hl 1 rfl) ?_
        refine lv_iload_n hx hb d_En_brief_23 rfl (lv_at hl 2 rfl) ?_
        have hu_23 : k < nA κ := (by omega)
        refine zaald hx hb B 1 2 (wa_1 κ (zi (zi τ 4 k (-1)) 5 k 0)) rfl k rfl hu_23 (by omega) rfl d_En_brief_24 ?_
        refine lv_iconst (v := 0) hx hb d_En_brief_25 (by decide) ?_
        refine zput (ci := 0) (v := .int (0)) (ty := .int) (C := "UnitThreads$Unit") (T := T_Un) (N := 8) hx hb hts in_Un ty_Un tyok_Un nm_Un hown B (43 + k) (wa_u κ (zi (zi τ 4 k (-1)) 5 k 0) hu_23) rfl 6 (by decide) (hts _ w_47) (fun _ h9 => h9) rfl (by decide +kernel) rfl rfl (Nat.le_of_ble_eq_true rfl) (wq_6 κ (zi (zi τ 4 k (-1)) 5 k 0) hu_23 0) d_En_brief_26 (fun H locs B => ?_)
        have B : BA κ A s.heap s (zi (zi (zi τ 4 k (-1)) 5 k 0) 6 k 0) H locs := B
        refine lv_iinc (v := nI (k + 1)) (lv' := [(2, .int (nI (k + 1))), (0, .ref (aA κ 2)), (1, .ref (aA κ 1))]) hx hb d_En_brief_29 hl (k := 2) rfl (zinc _) (by decide) rfl (fun ls hl => ?_)
        refine lv_goto (tgt := 2) hx hb d_En_brief_32 (by decide) ?_
        exact ih (k + 1) (zi (zi (zi τ 4 k (-1)) 5 k 0) 6 k 0) (by omega) hst hE hU _ _ B ls (lv_sub hl [1, 2, 0] rfl)
  refine lv_iconst (v := nI 0) hx hb d_En_brief_0 (by decide) ?_
  refine lv_istore_n (lv' := [(2, .int (nI 0)), (0, .ref (aA κ 2)), (1, .ref (aA κ 1))]) hx hb d_En_brief_1 rfl hl (by decide) rfl (fun ls hl => ?_)
  exact L_2 (nA κ) 0 σ (by omega) rfl hE hU _ _ B ls (lv_sub hl [1, 2, 0] rfl)
set_option maxHeartbeats 4000000 in
set_option maxRecDepth 100000 in
theorem c_En_doSteps (l : Launch) (κ : KA) (σ : zS) (hn : nA κ ≤ 8) (E : Nat) (hE : σ.1 12 0 = nI E) (hE3 : E ≤ 300) (hU : ∀ e, e < E → zin (σ.1 9 e) (nA κ)) (hT : ∀ e, e < E → σ.1 8 e = 0 → zin (σ.1 11 e) (nA κ * 4)) : zMv l y_En_doSteps (zws y_En_doSteps prog_3_method_6_code 5 none) ({ frames := 0, cells := 0, slots := 0, locals := 0 }) κ.1 vwCl (tysA κ) nwA (wA κ) σ [.ref (aA κ 2), .ref (aA κ 1), .ref (aA κ 15)] (fun σ' => σ' = fx_doSteps E σ) := by
  refine zintro (cc := prog_3_method_6_code) (maxL := 5) (ret := none) (by decide) rfl (Nat.le_of_ble_eq_true rfl) ?_
  intro p e s m below meth c ls hx hb hr hml hts hown hlocks hl B
  have hl : lv_has ls 5 [(0, .ref (aA κ 2)), (1, .ref (aA κ 1)), (2, .ref (aA κ 15))] := hl
  have B : BA κ (va_A (wA κ σ) s.heap.size) s.heap s σ s.heap [] := B
  have hr : meth.sig.returnType = none := hr
  have hown : s.vm.findClass "UnitThreads$Entries" = some m.cls := hown
  show W p l e (headSpec (zws y_En_doSteps prog_3_method_6_code 5 none) ({ frames := 0, cells := 0, slots := 0, locals := 0 })).room s m [.ref (aA κ 2), .ref (aA κ 1), .ref (aA κ 15)].toArray below meth c s.heap [] 0 0 (MQ below (va_Qv (fun σ' => σ' = fx_doSteps E σ) (zQ κ.1 vwCl (tysA κ) (wA κ) (va_A (wA κ σ) s.heap.size)) (va_A (wA κ σ) s.heap.size)) [.ref (aA κ 2), .ref (aA κ 1), .ref (aA κ 15)].toArray s 0 0 (va_A (wA κ σ) s.heap.size)) (F0 m 0 ls [])
  generalize va_A (wA κ σ) s.heap.size = A at B ⊢
  have hts : ∀ w ∈ zW, w.before [.ref (aA κ 2), .ref (aA κ 1), .ref (aA κ 15)].toArray s = true := fun w h => hts w (List.mem_cons_of_mem _ h)
  have L_2 : ∀ (j : Nat) (k : Nat) (τ : zS), k + j = E → (fx_doSteps E σ = zit fx_steps1 j k τ) → (τ.1 12 0 = nI E) → (∀ e, e < E → zin (τ.1 9 e) (nA κ)) → (∀ e, e < E → τ.1 8 e = 0 → zin (τ.1 11 e) (nA κ * 4)) → ∀ (H : Heap) (locs : List Loc), BA κ A s.heap s τ H locs → ∀ (ls : Array Slot), lv_has ls 5 [(0, .ref (aA κ 2)), (1, .ref (aA κ 1)), (2, .ref (aA κ 15)), (3, .int (nI k))] → W p l e (headSpec (zws y_En_doSteps prog_3_method_6_code 5 none) ({ frames := 0, cells := 0, slots := 0, locals := 0 })).room s m [.ref (aA κ 2), .ref (aA κ 1), .ref (aA κ 15)].toArray below meth c H locs 0 0 (MQ below (va_Qv (fun σ' => σ' = fx_doSteps E σ) (zQ κ.1 vwCl (tysA κ) (wA κ) A) A) [.ref (aA κ 2), .ref (aA κ 1), .ref (aA κ 15)].toArray s 0 0 A) (F0 m 2 ls []) := by
    intro j
    induction j with
    | zero =>
      intro k τ hj hst hE hU hT H locs B ls hl
      refine lv_iload_n hx hb d_En_doSteps_2 rfl (lv_at hl 3 rfl) ?_
      refine lv_aload_n hx hb d_En_doSteps_3 rfl (lv_at hl 0 rfl) ?_
      refine va_get (D := κ.1) (ci := 1) (v := .int (τ.1 12 0)) (C := "UnitThreads$Entries") (T := T_En) (N := 6) hx hb hts in_En hown B.1 B.2.1 2 (wa_2 κ τ) rfl 5 (by decide) (hts _ w_79) (fun _ h9 => h9) rfl d_En_doSteps_4 ?_
      refine zrwi (y := nI E) (hE) ?_
      refine lv_icmp_ge (tgt := 71) hx hb d_En_doSteps_7 (by decide) (fun c_1 => ?_) (fun c_1 => ?_)
      · have c_1 := (nI_leI (a := E) (b := k) (by omega) (by omega)).mp c_1
        exact zret_v hx hb hr hlocks B (hst.symm) d_En_doSteps_71
      · have c_1 := (not_congr (nI_leI (a := E) (b := k) (by omega) (by omega))).mp c_1
        exact absurd c_1 (by omega)
    | succ j ih =>
      intro k τ hj hst hE hU hT H locs B ls hl
      refine lv_iload_n hx hb d_En_doSteps_2 rfl (lv_at hl 3 rfl) ?_
      refine lv_aload_n hx hb d_En_doSteps_3 rfl (lv_at hl 0 rfl) ?_
      refine va_get (D := κ.1) (ci := 1) (v := .int (τ.1 12 0)) (C := "UnitThreads$Entries") (T := T_En) (N := 6) hx hb hts in_En hown B.1 B.2.1 2 (wa_2 κ τ) rfl 5 (by decide) (hts _ w_79) (fun _ h9 => h9) rfl d_En_doSteps_4 ?_
      refine zrwi (y := nI E) (hE) ?_
      refine lv_icmp_ge (tgt := 71) hx hb d_En_doSteps_7 (by decide) (fun c_2 => ?_) (fun c_2 => ?_)
      · have c_2 := (nI_leI (a := E) (b := k) (by omega) (by omega)).mp c_2
        exact absurd c_2 (by omega)
      · have c_2 := (not_congr (nI_leI (a := E) (b := k) (by omega) (by omega))).mp c_2
        refine lv_aload_n hx hb d_En_doSteps_10 rfl (lv_at hl 1 rfl) ?_
        refine lv_aload_n hx hb d_En_doSteps_11 rfl (lv_at hl 0 rfl) ?_
        refine va_get (D := κ.1) (ci := 1) (v := .ref (aA κ 4)) (C := "UnitThreads$Entries") (T := T_En) (N := 6) hx hb hts in_En hown B.1 B.2.1 2 (wa_2 κ τ) rfl 1 (by decide) (hts _ w_75) (fun _ h9 => h9) rfl d_En_doSteps_12 ?_
        refine lv_iload_n hx hb d_En_doSteps_15 rfl (lv_at hl 3 rfl) ?_
        refine ziald hx hb B 4 0 (wa_4 κ τ) rfl k rfl (by omega) (by decide) d_En_doSteps_16 ?_
        have hu_3 : tn (τ.1 9 k) < nA κ := (hU k (by omega)).2
        refine zaald hx hb B 1 2 (wa_1 κ τ) rfl (tn (τ.1 9 k)) ((hU k (by omega)).1) hu_3 (by omega) rfl d_En_doSteps_17 ?_
        refine lv_astore (lv' := [(4, .ref (aA κ (64 + (tn (τ.1 9 k))))), (0, .ref (aA κ 2)), (1, .ref (aA κ 1)), (2, .ref (aA κ 15)), (3, .int (nI k))]) hx hb d_En_doSteps_18 hl (by decide) rfl (fun ls hl => ?_)
        refine lv_aload_n hx hb d_En_doSteps_20 rfl (lv_at hl 1 rfl) ?_
        refine va_get (D := κ.1) (ci := 1) (v := .ref (aA κ 3)) (C := "UnitThreads$Entries") (T := T_En) (N := 6) hx hb hts in_En hown B.1 B.2.1 2 (wa_2 κ τ) rfl 0 (by decide) (hts _ w_74) (fun _ h9 => h9) rfl d_En_doSteps_21 ?_
        refine lv_iload_n hx hb d_En_doSteps_24 rfl (lv_at hl 4 rfl) ?_
        refine ziald hx hb B 3 0 (wa_3 κ τ) rfl k rfl (by omega) (by decide) d_En_doSteps_25 ?_
        refine lv_if_ne (tgt := 65) hx hb d_En_doSteps_26 (by decide) (fun c_4 => ?_) (fun c_4 => ?_)
        · refine lv_iinc (v := nI (k + 1)) (lv' := [(3, .int (nI (k + 1))), (4, .ref (aA κ (64 + (tn (τ.1 9 k))))), (0, .ref (aA κ 2)), (1, .ref (aA κ 1)), (2, .ref (aA κ 15))]) hx hb d_En_doSteps_65 hl (k := 4) rfl (zinc _) (by decide) rfl (fun ls hl => ?_)
          refine lv_goto (tgt := 2) hx hb d_En_doSteps_68 (by decide) ?_
          exact ih (k + 1) τ (by omega) (by rw [hst]; simp [zit, fx_steps1, c_2, c_4]) hE hU hT _ _ B ls (lv_sub hl [2, 3, 4, 0] rfl)
        · refine lv_aload hx hb d_En_doSteps_29 (lv_at hl 0 rfl) ?_
          refine va_get (D := κ.1) (ci := 0) (v := .int (τ.1 7 (tn (τ.1 9 k)))) (C := "UnitThreads$Unit") (T := T_Un) (N := 8) hx hb hts in_Un hown B.1 B.2.1 (43 + (tn (τ.1 9 k))) (wa_u κ τ hu_3) rfl 7 (by decide) (hts _ w_49) (fun _ h9 => h9) rfl d_En_doSteps_31 ?_
          refine lv_if_ne (tgt := 65) hx hb d_En_doSteps_34 (by decide) (fun c_5 => ?_) (fun c_5 => ?_)
          · refine lv_iinc (v := nI (k + 1)) (lv' := [(3, .int (nI (k + 1))), (4, .ref (aA κ (64 + (tn (τ.1 9 k))))), (0, .ref (aA κ 2)), (1, .ref (aA κ 1)), (2, .ref (aA κ 15))]) hx hb d_En_doSteps_65 hl (k := 4) rfl (zinc _) (by decide) rfl (fun ls hl => ?_)
            refine lv_goto (tgt := 2) hx hb d_En_doSteps_68 (by decide) ?_
            exact ih (k + 1) τ (by omega) (by rw [hst]; simp [zit, fx_steps1, c_2, c_4, c_5]) hE hU hT _ _ B ls (lv_sub hl [2, 3, 4, 0] rfl)
          · refine lv_aload_n hx hb d_En_doSteps_37 rfl (lv_at hl 1 rfl) ?_
            refine va_get (D := κ.1) (ci := 1) (v := .ref (aA κ 5)) (C := "UnitThreads$Entries") (T := T_En) (N := 6) hx hb hts in_En hown B.1 B.2.1 2 (wa_2 κ τ) rfl 2 (by decide) (hts _ w_76) (fun _ h9 => h9) rfl d_En_doSteps_38 ?_
            refine lv_iload_n hx hb d_En_doSteps_41 rfl (lv_at hl 4 rfl) ?_
            refine ziald hx hb B 5 0 (wa_5 κ τ) rfl k rfl (by omega) (by decide) d_En_doSteps_42 ?_
            refine lv_aload hx hb d_En_doSteps_43 (lv_at hl 0 rfl) ?_
            refine va_get (D := κ.1) (ci := 0) (v := .int (τ.1 0 (tn (τ.1 9 k)))) (C := "UnitThreads$Unit") (T := T_Un) (N := 8) hx hb hts in_Un hown B.1 B.2.1 (43 + (tn (τ.1 9 k))) (wa_u κ τ hu_3) rfl 0 (by decide) (hts _ w_33) (fun _ h9 => h9) rfl d_En_doSteps_45 ?_
            refine lv_icmp_ne (tgt := 65) hx hb d_En_doSteps_48 (by decide) (fun c_6 => ?_) (fun c_6 => ?_)
            · refine lv_iinc (v := nI (k + 1)) (lv' := [(3, .int (nI (k + 1))), (4, .ref (aA κ (64 + (tn (τ.1 9 k))))), (0, .ref (aA κ 2)), (1, .ref (aA κ 1)), (2, .ref (aA κ 15))]) hx hb d_En_doSteps_65 hl (k := 4) rfl (zinc _) (by decide) rfl (fun ls hl => ?_)
              refine lv_goto (tgt := 2) hx hb d_En_doSteps_68 (by decide) ?_
              exact ih (k + 1) τ (by omega) (by rw [hst]; simp [zit, fx_steps1, c_2, c_4, c_5, c_6]) hE hU hT _ _ B ls (lv_sub hl [2, 3, 4, 0] rfl)
            · refine lv_aload_n hx hb d_En_doSteps_51 rfl (lv_at hl 3 rfl) ?_
              refine lv_aload_n hx hb d_En_doSteps_52 rfl (lv_at hl 1 rfl) ?_
              refine va_get (D := κ.1) (ci := 1) (v := .ref (aA κ 6)) (C := "UnitThreads$Entries") (T := T_En) (N := 6) hx hb hts in_En hown B.1 B.2.1 2 (wa_2 κ τ) rfl 3 (by decide) (hts _ w_77) (fun _ h9 => h9) rfl d_En_doSteps_53 ?_
              refine lv_iload_n hx hb d_En_doSteps_56 rfl (lv_at hl 4 rfl) ?_
              refine ziald hx hb B 6 0 (wa_6 κ τ) rfl k rfl (by omega) (by decide) d_En_doSteps_57 ?_
              refine lv_aload_n hx hb d_En_doSteps_58 rfl (lv_at hl 1 rfl) ?_
              refine va_get (D := κ.1) (ci := 1) (v := .ref (aA κ 7)) (C := "UnitThreads$Entries") (T := T_En) (N := 6) hx hb hts in_En hown B.1 B.2.1 2 (wa_2 κ τ) rfl 4 (by decide) (hts _ w_78) (fun _ h9 => h9) rfl d_En_doSteps_59 ?_
              refine lv_iload_n hx hb d_En_doSteps_62 rfl (lv_at hl 4 rfl) ?_
              refine zlald hx hb B 7 1 (wa_7 κ τ) rfl k rfl (by omega) (by decide) d_En_doSteps_63 ?_
              refine zlast hx hb B 15 1 (wa_15 κ τ) rfl (tn (τ.1 11 k)) ((hT k (by omega) c_4).1) ((hT k (by omega) c_4).2) (by omega) (ws_15 κ τ (tn (τ.1 11 k)) (τ.2 0 k)) d_En_doSteps_64 (fun H locs B => ?_)
              have B : BA κ A s.heap s (zl τ 2 (tn (τ.1 11 k)) (τ.2 0 k)) H locs := B
              refine lv_iinc (v := nI (k + 1)) (lv' := [(3, .int (nI (k + 1))), (4, .ref (aA κ (64 + (tn (τ.1 9 k))))), (0, .ref (aA κ 2)), (1, .ref (aA κ 1)), (2, .ref (aA κ 15))]) hx hb d_En_doSteps_65 hl (k := 4) rfl (zinc _) (by decide) rfl (fun ls hl => ?_)
              refine lv_goto (tgt := 2) hx hb d_En_doSteps_68 (by decide) ?_
              exact ih (k + 1) (zl τ 2 (tn (τ.1 11 k)) (τ.2 0 k)) (by omega) (by rw [hst]; simp [zit, fx_steps1, c_2, c_4, c_5, c_6]) hE hU hT _ _ B ls (lv_sub hl [2, 3, 4, 0] rfl)
  refine lv_iconst (v := nI 0) hx hb d_En_doSteps_0 (by decide) ?_
  refine lv_istore_n (lv' := [(3, .int (nI 0)), (0, .ref (aA κ 2)), (1, .ref (aA κ 1)), (2, .ref (aA κ 15))]) hx hb d_En_doSteps_1 rfl hl (by decide) rfl (fun ls hl => ?_)
  exact L_2 E 0 σ (by omega) rfl hE hU hT _ _ B ls (lv_sub hl [1, 2, 3, 0] rfl)
end
section
set_option maxHeartbeats 4000000 in
set_option maxRecDepth 100000 in
theorem c_Tu_add (l : Launch) (κ : KA) (σ : zS) (p1 p2 p3 : Int32) (hn : nA κ ≤ 8) (t : Nat) (ht : σ.1 18 0 = nI t) (hlt : t < nA κ * 64) : zMv l y_Tu_add (zws y_Tu_add prog_5_method_2_code 4 none) ({ frames := 0, cells := 0, slots := 0, locals := 0 }) κ.1 vwCl (tysA κ) nwA (wA κ) σ [.ref (aA κ 10), .int (p1), .int (p2), .int (p3)] (fun σ' => σ' = fx_turn σ t p1 p2 p3) := by
  refine zintro (cc := prog_5_method_2_code) (maxL := 4) (ret := none) (by decide) rfl (Nat.le_of_ble_eq_true rfl) ?_
  intro p e s m below meth c ls hx hb hr hml hts hown hlocks hl B
  have hl : lv_has ls 4 [(0, .ref (aA κ 10)), (1, .int (p1)), (2, .int (p2)), (3, .int (p3))] := hl
  have B : BA κ (va_A (wA κ σ) s.heap.size) s.heap s σ s.heap [] := B
  have hr : meth.sig.returnType = none := hr
  have hown : s.vm.findClass "UnitThreads$Turns" = some m.cls := hown
  show W p l e (headSpec (zws y_Tu_add prog_5_method_2_code 4 none) ({ frames := 0, cells := 0, slots := 0, locals := 0 })).room s m [.ref (aA κ 10), .int (p1), .int (p2), .int (p3)].toArray below meth c s.heap [] 0 0 (MQ below (va_Qv (fun σ' => σ' = fx_turn σ t p1 p2 p3) (zQ κ.1 vwCl (tysA κ) (wA κ) (va_A (wA κ σ) s.heap.size)) (va_A (wA κ σ) s.heap.size)) [.ref (aA κ 10), .int (p1), .int (p2), .int (p3)].toArray s 0 0 (va_A (wA κ σ) s.heap.size)) (F0 m 0 ls [])
  generalize va_A (wA κ σ) s.heap.size = A at B ⊢
  have hts : ∀ w ∈ zW, w.before [.ref (aA κ 10), .int (p1), .int (p2), .int (p3)].toArray s = true := fun w h => hts w (List.mem_cons_of_mem _ h)
  refine lv_aload_n hx hb d_Tu_add_0 rfl (lv_at hl 0 rfl) ?_
  refine va_get (D := κ.1) (ci := 3) (v := .int (σ.1 18 0)) (C := "UnitThreads$Turns") (T := T_Tu) (N := 4) hx hb hts in_Tu hown B.1 B.2.1 10 (wa_10 κ σ) rfl 3 (by decide) (hts _ w_124) (fun _ h9 => h9) rfl d_Tu_add_1 ?_
  refine zrwi (y := nI t) (ht) ?_
  refine lv_aload_n hx hb d_Tu_add_4 rfl (lv_at hl 0 rfl) ?_
  refine va_get (D := κ.1) (ci := 3) (v := .ref (aA κ 11)) (C := "UnitThreads$Turns") (T := T_Tu) (N := 4) hx hb hts in_Tu hown B.1 B.2.1 10 (wa_10 κ σ) rfl 0 (by decide) (hts _ w_121) (fun _ h9 => h9) rfl d_Tu_add_5 ?_
  refine zalen hx hb B 11 0 (wa_11 κ σ) rfl d_Tu_add_8 ?_
  refine lv_icmp_lt (tgt := 13) hx hb d_Tu_add_9 (by decide) (fun c_1 => ?_) (fun c_1 => ?_)
  · have c_1 := (nI_ltI (a := t) (b := nA κ * 64) (by omega) (by omega)).mp c_1
    refine lv_aload_n hx hb d_Tu_add_13 rfl (lv_at hl 0 rfl) ?_
    refine va_get (D := κ.1) (ci := 3) (v := .ref (aA κ 11)) (C := "UnitThreads$Turns") (T := T_Tu) (N := 4) hx hb hts in_Tu hown B.1 B.2.1 10 (wa_10 κ σ) rfl 0 (by decide) (hts _ w_121) (fun _ h9 => h9) rfl d_Tu_add_14 ?_
    refine lv_aload_n hx hb d_Tu_add_17 rfl (lv_at hl 0 rfl) ?_
    refine va_get (D := κ.1) (ci := 3) (v := .int (σ.1 18 0)) (C := "UnitThreads$Turns") (T := T_Tu) (N := 4) hx hb hts in_Tu hown B.1 B.2.1 10 (wa_10 κ σ) rfl 3 (by decide) (hts _ w_124) (fun _ h9 => h9) rfl d_Tu_add_18 ?_
    refine zrwi (y := nI t) (ht) ?_
    refine lv_iload_n hx hb d_Tu_add_21 rfl (lv_at hl 1 rfl) ?_
    refine ziast hx hb B 11 0 (wa_11 κ σ) rfl t rfl (by omega) (by omega) (ws_11 κ σ t p1) d_Tu_add_22 (fun H locs B => ?_)
    have B : BA κ A s.heap s (zi σ 15 t p1) H locs := B
    refine lv_aload_n hx hb d_Tu_add_23 rfl (lv_at hl 0 rfl) ?_
    refine va_get (D := κ.1) (ci := 3) (v := .ref (aA κ 12)) (C := "UnitThreads$Turns") (T := T_Tu) (N := 4) hx hb hts in_Tu hown B.1 B.2.1 10 (wa_10 κ (zi σ 15 t p1)) rfl 1 (by decide) (hts _ w_122) (fun _ h9 => h9) rfl d_Tu_add_24 ?_
    refine lv_aload_n hx hb d_Tu_add_27 rfl (lv_at hl 0 rfl) ?_
    refine va_get (D := κ.1) (ci := 3) (v := .int ((zi σ 15 t p1).1 18 0)) (C := "UnitThreads$Turns") (T := T_Tu) (N := 4) hx hb hts in_Tu hown B.1 B.2.1 10 (wa_10 κ (zi σ 15 t p1)) rfl 3 (by decide) (hts _ w_124) (fun _ h9 => h9) rfl d_Tu_add_28 ?_
    refine zrwi (y := σ.1 18 0) (by rw [zi_nf _ _ (by decide : 18 ≠ 15)]) ?_
    refine zrwi (y := nI t) (ht) ?_
    refine lv_iload_n hx hb d_Tu_add_31 rfl (lv_at hl 2 rfl) ?_
    refine ziast hx hb B 12 0 (wa_12 κ (zi σ 15 t p1)) rfl t rfl (by omega) (by omega) (ws_12 κ (zi σ 15 t p1) t p2) d_Tu_add_32 (fun H locs B => ?_)
    have B : BA κ A s.heap s (zi (zi σ 15 t p1) 16 t p2) H locs := B
    refine lv_aload_n hx hb d_Tu_add_33 rfl (lv_at hl 0 rfl) ?_
    refine va_get (D := κ.1) (ci := 3) (v := .ref (aA κ 13)) (C := "UnitThreads$Turns") (T := T_Tu) (N := 4) hx hb hts in_Tu hown B.1 B.2.1 10 (wa_10 κ (zi (zi σ 15 t p1) 16 t p2)) rfl 2 (by decide) (hts _ w_123) (fun _ h9 => h9) rfl d_Tu_add_34 ?_
    refine lv_aload_n hx hb d_Tu_add_37 rfl (lv_at hl 0 rfl) ?_
    refine va_get (D := κ.1) (ci := 3) (v := .int ((zi (zi σ 15 t p1) 16 t p2).1 18 0)) (C := "UnitThreads$Turns") (T := T_Tu) (N := 4) hx hb hts in_Tu hown B.1 B.2.1 10 (wa_10 κ (zi (zi σ 15 t p1) 16 t p2)) rfl 3 (by decide) (hts _ w_124) (fun _ h9 => h9) rfl d_Tu_add_38 ?_
    refine zrwi (y := σ.1 18 0) (by rw [zi_nf _ _ (by decide : 18 ≠ 16), zi_nf _ _ (by decide : 18 ≠ 15)]) ?_
    refine zrwi (y := nI t) (ht) ?_
    refine lv_iload_n hx hb d_Tu_add_41 rfl (lv_at hl 3 rfl) ?_
    refine ziast hx hb B 13 0 (wa_13 κ (zi (zi σ 15 t p1) 16 t p2)) rfl t rfl (by omega) (by omega) (ws_13 κ (zi (zi σ 15 t p1) 16 t p2) t p3) d_Tu_add_42 (fun H locs B => ?_)
    have B : BA κ A s.heap s (zi (zi (zi σ 15 t p1) 16 t p2) 17 t p3) H locs := B
    refine lv_aload_n hx hb d_Tu_add_43 rfl (lv_at hl 0 rfl) ?_
    refine lv_dup hx hb d_Tu_add_44 rfl ?_
    refine va_get (D := κ.1) (ci := 3) (v := .int ((zi (zi (zi σ 15 t p1) 16 t p2) 17 t p3).1 18 0)) (C := "UnitThreads$Turns") (T := T_Tu) (N := 4) hx hb hts in_Tu hown B.1 B.2.1 10 (wa_10 κ (zi (zi (zi σ 15 t p1) 16 t p2) 17 t p3)) rfl 3 (by decide) (hts _ w_124) (fun _ h9 => h9) rfl d_Tu_add_45 ?_
    refine zrwi (y := σ.1 18 0) (by rw [zi_nf _ _ (by decide : 18 ≠ 17), zi_nf _ _ (by decide : 18 ≠ 16), zi_nf _ _ (by decide : 18 ≠ 15)]) ?_
    refine zrwi (y := nI t) (ht) ?_
    refine lv_iconst (v := 1) hx hb d_Tu_add_48 (by decide) ?_
    refine lv_iadd hx hb d_Tu_add_49 ?_
    refine zrwi (y := nI (t + 1)) (nI_1 _) ?_
    refine zput (ci := 3) (v := .int (nI (t + 1))) (ty := .int) (C := "UnitThreads$Turns") (T := T_Tu) (N := 4) hx hb hts in_Tu ty_Tu tyok_Tu nm_Tu hown B 10 (wa_10 κ (zi (zi (zi σ 15 t p1) 16 t p2) 17 t p3)) rfl 3 (by decide) (hts _ w_124) (fun _ h9 => h9) rfl (by decide +kernel) rfl rfl (Nat.le_of_ble_eq_true rfl) (wp_10_3 κ (zi (zi (zi σ 15 t p1) 16 t p2) 17 t p3) (nI (t + 1))) d_Tu_add_50 (fun H locs B => ?_)
    have B : BA κ A s.heap s (zi (zi (zi (zi σ 15 t p1) 16 t p2) 17 t p3) 18 0 (nI (t + 1))) H locs := B
    exact zret_v hx hb hr hlocks B (rfl) d_Tu_add_53
  · have c_1 := (not_congr (nI_ltI (a := t) (b := nA κ * 64) (by omega) (by omega))).mp c_1
    exact absurd c_1 (by omega)
set_option maxHeartbeats 4000000 in
set_option maxRecDepth 100000 in
theorem c_Tu_look (l : Launch) (κ : KA) (σ : zS) (p1 p2 : Int32) (hn : nA κ ≤ 8) (t : Nat) (ht : σ.1 18 0 = nI t) (htm : t ≤ nA κ * 64) : zMi l y_Tu_look (zws y_Tu_look prog_5_method_3_code 3 (some .int)) ({ frames := 0, cells := 0, slots := 0, locals := 0 }) κ.1 vwCl (tysA κ) nwA (wA κ) σ [.ref (aA κ 10), .int (p1), .int (p2)] (fun r σ' => r = fx_look σ p1 p2 ∧ σ' = σ) := by
  refine zintro (cc := prog_5_method_3_code) (maxL := 3) (ret := (some .int)) (by decide) rfl (Nat.le_of_ble_eq_true rfl) ?_
  intro p e s m below meth c ls hx hb hr hml hts hown hlocks hl B
  have hl : lv_has ls 3 [(0, .ref (aA κ 10)), (1, .int (p1)), (2, .int (p2))] := hl
  have B : BA κ (va_A (wA κ σ) s.heap.size) s.heap s σ s.heap [] := B
  have hr : meth.sig.returnType = (some .int) := hr
  have hown : s.vm.findClass "UnitThreads$Turns" = some m.cls := hown
  show W p l e (headSpec (zws y_Tu_look prog_5_method_3_code 3 (some .int)) ({ frames := 0, cells := 0, slots := 0, locals := 0 })).room s m [.ref (aA κ 10), .int (p1), .int (p2)].toArray below meth c s.heap [] 0 0 (MQ below (va_Qi (fun r σ' => r = fx_look σ p1 p2 ∧ σ' = σ) (zQ κ.1 vwCl (tysA κ) (wA κ) (va_A (wA κ σ) s.heap.size)) (va_A (wA κ σ) s.heap.size)) [.ref (aA κ 10), .int (p1), .int (p2)].toArray s 0 0 (va_A (wA κ σ) s.heap.size)) (F0 m 0 ls [])
  generalize va_A (wA κ σ) s.heap.size = A at B ⊢
  have hts : ∀ w ∈ zW, w.before [.ref (aA κ 10), .int (p1), .int (p2)].toArray s = true := fun w h => hts w (List.mem_cons_of_mem _ h)
  refine lv_iload_n hx hb d_Tu_look_0 rfl (lv_at hl 1 rfl) ?_
  refine lv_if_lt (tgt := 12) hx hb d_Tu_look_1 (by decide) (fun c_1 => ?_) (fun c_1 => ?_)
  · refine lv_iconst (v := (-1)) hx hb d_Tu_look_12 (by decide) ?_
    exact zret_i hx hb hr hlocks B (⟨by simp [fx_look, ht, c_1], rfl⟩) d_Tu_look_13
  · refine lv_iload_n hx hb d_Tu_look_4 rfl (lv_at hl 1 rfl) ?_
    refine lv_aload_n hx hb d_Tu_look_5 rfl (lv_at hl 0 rfl) ?_
    refine va_get (D := κ.1) (ci := 3) (v := .int (σ.1 18 0)) (C := "UnitThreads$Turns") (T := T_Tu) (N := 4) hx hb hts in_Tu hown B.1 B.2.1 10 (wa_10 κ σ) rfl 3 (by decide) (hts _ w_124) (fun _ h9 => h9) rfl d_Tu_look_6 ?_
    refine zrwi (y := nI t) (ht) ?_
    refine lv_icmp_lt (tgt := 14) hx hb d_Tu_look_9 (by decide) (fun c_2 => ?_) (fun c_2 => ?_)
    · refine lv_iload_n hx hb d_Tu_look_14 rfl (lv_at hl 2 rfl) ?_
      by_cases c_3 : p2 = 0
      · refine lv_tableIn (off := 25) (tgt := 40) hx hb d_Tu_look_15 (by rw [c_3]; decide) (by rw [c_3]; decide) (by rw [c_3]; decide) (by decide) ?_
        refine lv_aload_n hx hb d_Tu_look_40 rfl (lv_at hl 0 rfl) ?_
        refine va_get (D := κ.1) (ci := 3) (v := .ref (aA κ 11)) (C := "UnitThreads$Turns") (T := T_Tu) (N := 4) hx hb hts in_Tu hown B.1 B.2.1 10 (wa_10 κ σ) rfl 0 (by decide) (hts _ w_121) (fun _ h9 => h9) rfl d_Tu_look_41 ?_
        refine lv_iload_n hx hb d_Tu_look_44 rfl (lv_at hl 1 rfl) ?_
        refine ziald hx hb B 11 0 (wa_11 κ σ) rfl (tn p1) (zix c_1) (Nat.lt_of_lt_of_le (zixlt' c_1 c_2 (by omega)) htm) (by omega) d_Tu_look_45 ?_
        exact zret_i hx hb hr hlocks B (⟨by simp [fx_look, ht, c_1, c_2, c_3], rfl⟩) d_Tu_look_46
      by_cases c_4 : p2 = 1
      · refine lv_tableIn (off := 32) (tgt := 47) hx hb d_Tu_look_15 (by rw [c_4]; decide) (by rw [c_4]; decide) (by rw [c_4]; decide) (by decide) ?_
        refine lv_aload_n hx hb d_Tu_look_47 rfl (lv_at hl 0 rfl) ?_
        refine va_get (D := κ.1) (ci := 3) (v := .ref (aA κ 12)) (C := "UnitThreads$Turns") (T := T_Tu) (N := 4) hx hb hts in_Tu hown B.1 B.2.1 10 (wa_10 κ σ) rfl 1 (by decide) (hts _ w_122) (fun _ h9 => h9) rfl d_Tu_look_48 ?_
        refine lv_iload_n hx hb d_Tu_look_51 rfl (lv_at hl 1 rfl) ?_
        refine ziald hx hb B 12 0 (wa_12 κ σ) rfl (tn p1) (zix c_1) (Nat.lt_of_lt_of_le (zixlt' c_1 c_2 (by omega)) htm) (by omega) d_Tu_look_52 ?_
        exact zret_i hx hb hr hlocks B (⟨by simp [fx_look, ht, c_1, c_2, c_3, c_4], rfl⟩) d_Tu_look_53
      by_cases c_5 : p2 = 2
      · refine lv_tableIn (off := 39) (tgt := 54) hx hb d_Tu_look_15 (by rw [c_5]; decide) (by rw [c_5]; decide) (by rw [c_5]; decide) (by decide) ?_
        refine lv_aload_n hx hb d_Tu_look_54 rfl (lv_at hl 0 rfl) ?_
        refine va_get (D := κ.1) (ci := 3) (v := .ref (aA κ 13)) (C := "UnitThreads$Turns") (T := T_Tu) (N := 4) hx hb hts in_Tu hown B.1 B.2.1 10 (wa_10 κ σ) rfl 2 (by decide) (hts _ w_123) (fun _ h9 => h9) rfl d_Tu_look_55 ?_
        refine lv_iload_n hx hb d_Tu_look_58 rfl (lv_at hl 1 rfl) ?_
        refine ziald hx hb B 13 0 (wa_13 κ σ) rfl (tn p1) (zix c_1) (Nat.lt_of_lt_of_le (zixlt' c_1 c_2 (by omega)) htm) (by omega) d_Tu_look_59 ?_
        exact zret_i hx hb hr hlocks B (⟨by simp [fx_look, ht, c_1, c_2, c_3, c_4, c_5], rfl⟩) d_Tu_look_60
      refine lv_tableOut (tgt := 61) hx hb d_Tu_look_15 (ztab2 c_3 c_4 c_5) (by decide) ?_
      refine lv_iconst (v := (-1)) hx hb d_Tu_look_61 (by decide) ?_
      exact zret_i hx hb hr hlocks B (⟨by simp [fx_look, ht, c_1, c_2, c_3, c_4, c_5], rfl⟩) d_Tu_look_62
    · refine lv_iconst (v := (-1)) hx hb d_Tu_look_12 (by decide) ?_
      exact zret_i hx hb hr hlocks B (⟨by simp [fx_look, ht, c_1, c_2], rfl⟩) d_Tu_look_13
end
section
set_option maxHeartbeats 4000000 in
set_option maxRecDepth 100000 in
theorem c_Ar_fill (l : Launch) (κ : KA) (σ : zS)  : zMv l y_Ar_fill (zws y_Ar_fill prog_11_method_103_code 4 none) ({ frames := 0, cells := 0, slots := 0, locals := 0 }) κ.1 vwCl (tysA κ) nwA (wA κ) σ [.ref (aA κ 17), .int ((-1))] (fun σ' => σ' = zit fx_fill1 16 0 σ) := by
  refine zintro (cc := prog_11_method_103_code) (maxL := 4) (ret := none) (by decide) rfl (Nat.le_of_ble_eq_true rfl) ?_
  intro p e s m below meth c ls hx hb hr hml hts hown hlocks hl B
  have hl : lv_has ls 4 [(0, .ref (aA κ 17)), (1, .int ((-1)))] := hl
  have B : BA κ (va_A (wA κ σ) s.heap.size) s.heap s σ s.heap [] := B
  have hr : meth.sig.returnType = none := hr
  have hown : s.vm.findClass "java/util/Arrays" = some m.cls := hown
  show W p l e (headSpec (zws y_Ar_fill prog_11_method_103_code 4 none) ({ frames := 0, cells := 0, slots := 0, locals := 0 })).room s m [.ref (aA κ 17), .int ((-1))].toArray below meth c s.heap [] 0 0 (MQ below (va_Qv (fun σ' => σ' = zit fx_fill1 16 0 σ) (zQ κ.1 vwCl (tysA κ) (wA κ) (va_A (wA κ σ) s.heap.size)) (va_A (wA κ σ) s.heap.size)) [.ref (aA κ 17), .int ((-1))].toArray s 0 0 (va_A (wA κ σ) s.heap.size)) (F0 m 0 ls [])
  generalize va_A (wA κ σ) s.heap.size = A at B ⊢
  have hts : ∀ w ∈ zW, w.before [.ref (aA κ 17), .int ((-1))].toArray s = true := fun w h => hts w (List.mem_cons_of_mem _ h)
  have L_5 : ∀ (j : Nat) (k : Nat) (τ : zS), k + j = 16 → (zit fx_fill1 16 0 σ = zit fx_fill1 j k τ) → ∀ (H : Heap) (locs : List Loc), BA κ A s.heap s τ H locs → ∀ (ls : Array Slot), lv_has ls 4 [(0, .ref (aA κ 17)), (1, .int ((-1))), (2, .int (nI k)), (3, .int (nI 16))] → W p l e (headSpec (zws y_Ar_fill prog_11_method_103_code 4 none) ({ frames := 0, cells := 0, slots := 0, locals := 0 })).room s m [.ref (aA κ 17), .int ((-1))].toArray below meth c H locs 0 0 (MQ below (va_Qv (fun σ' => σ' = zit fx_fill1 16 0 σ) (zQ κ.1 vwCl (tysA κ) (wA κ) A) A) [.ref (aA κ 17), .int ((-1))].toArray s 0 0 A) (F0 m 5 ls []) := by
    intro j
    induction j with
    | zero =>
      intro k τ hj hst H locs B ls hl
      refine lv_iload_n hx hb d_Ar_fill_5 rfl (lv_at hl 2 rfl) ?_
      refine lv_iload_n hx hb d_Ar_fill_6 rfl (lv_at hl 3 rfl) ?_
      refine lv_icmp_ge (tgt := 20) hx hb d_Ar_fill_7 (by decide) (fun c_1 => ?_) (fun c_1 => ?_)
      · have c_1 := (nI_leI (a := 16) (b := k) (by omega) (by omega)).mp c_1
        exact zret_v hx hb hr hlocks B (hst.symm) d_Ar_fill_20
      · have c_1 := (not_congr (nI_leI (a := 16) (b := k) (by omega) (by omega))).mp c_1
        exact absurd c_1 (by omega)
    | succ j ih =>
      intro k τ hj hst H locs B ls hl
      refine lv_iload_n hx hb d_Ar_fill_5 rfl (lv_at hl 2 rfl) ?_
      refine lv_iload_n hx hb d_Ar_fill_6 rfl (lv_at hl 3 rfl) ?_
      refine lv_icmp_ge (tgt := 20) hx hb d_Ar_fill_7 (by decide) (fun c_2 => ?_) (fun c_2 => ?_)
      · have c_2 := (nI_leI (a := 16) (b := k) (by omega) (by omega)).mp c_2
        exact absurd c_2 (by omega)
      · have c_2 := (not_congr (nI_leI (a := 16) (b := k) (by omega) (by omega))).mp c_2
        refine lv_aload_n hx hb d_Ar_fill_10 rfl (lv_at hl 0 rfl) ?_
        refine lv_iload_n hx hb d_Ar_fill_11 rfl (lv_at hl 2 rfl) ?_
        refine lv_iload_n hx hb d_Ar_fill_12 rfl (lv_at hl 1 rfl) ?_
        refine ziast hx hb B 17 0 (wa_17 κ τ) rfl k rfl (by omega) (by decide) (ws_17 κ τ k (-1)) d_Ar_fill_13 (fun H locs B => ?_)
        have B : BA κ A s.heap s (zi τ 19 k (-1)) H locs := B
        refine lv_iinc (v := nI (k + 1)) (lv' := [(2, .int (nI (k + 1))), (0, .ref (aA κ 17)), (1, .int ((-1))), (3, .int (nI 16))]) hx hb d_Ar_fill_14 hl (k := 2) rfl (zinc _) (by decide) rfl (fun ls hl => ?_)
        refine lv_goto (tgt := 5) hx hb d_Ar_fill_17 (by decide) ?_
        exact ih (k + 1) (zi τ 19 k (-1)) (by omega) hst _ _ B ls (lv_sub hl [1, 2, 0, 3] rfl)
  refine lv_iconst (v := nI 0) hx hb d_Ar_fill_0 (by decide) ?_
  refine lv_istore_n (lv' := [(2, .int (nI 0)), (0, .ref (aA κ 17)), (1, .int ((-1)))]) hx hb d_Ar_fill_1 rfl hl (by decide) rfl (fun ls hl => ?_)
  refine lv_aload_n hx hb d_Ar_fill_2 rfl (lv_at hl 1 rfl) ?_
  refine zalen hx hb B 17 0 (wa_17 κ σ) rfl d_Ar_fill_3 ?_
  refine lv_istore_n (lv' := [(3, .int (nI 16)), (2, .int (nI 0)), (0, .ref (aA κ 17)), (1, .int ((-1)))]) hx hb d_Ar_fill_4 rfl hl (by decide) rfl (fun ls hl => ?_)
  exact L_5 16 0 σ (by omega) rfl _ _ B ls (lv_sub hl [2, 3, 1, 0] rfl)
set_option maxHeartbeats 4000000 in
set_option maxRecDepth 100000 in
theorem c_Bo_keep (l : Launch) (κ : KA) (σ : zS) (hn : nA κ ≤ 8) (b : Nat) (hbs : σ.1 21 0 = nI b) (hlt : b < 64) : zMv l y_Bo_keep (zws y_Bo_keep prog_2_method_9_code 1 none) ({ frames := 1, cells := 0, slots := 0, locals := 48 }) κ.1 vwCl (tysA κ) nwA (wA κ) σ [.ref (aA κ 14)] (fun σ' => σ' = fx_keep (nA κ) b σ) := by
  refine zintro (cc := prog_2_method_9_code) (maxL := 1) (ret := none) (by decide) rfl (Nat.le_of_ble_eq_true rfl) ?_
  intro p e s m below meth c ls hx hb hr hml hts hown hlocks hl B
  have hl : lv_has ls 1 [(0, .ref (aA κ 14))] := hl
  have B : BA κ (va_A (wA κ σ) s.heap.size) s.heap s σ s.heap [] := B
  have hr : meth.sig.returnType = none := hr
  have hown : s.vm.findClass "UnitThreads$Board" = some m.cls := hown
  show W p l e (headSpec (zws y_Bo_keep prog_2_method_9_code 1 none) ({ frames := 1, cells := 0, slots := 0, locals := 48 })).room s m [.ref (aA κ 14)].toArray below meth c s.heap [] 0 0 (MQ below (va_Qv (fun σ' => σ' = fx_keep (nA κ) b σ) (zQ κ.1 vwCl (tysA κ) (wA κ) (va_A (wA κ σ) s.heap.size)) (va_A (wA κ σ) s.heap.size)) [.ref (aA κ 14)].toArray s 0 0 (va_A (wA κ σ) s.heap.size)) (F0 m 0 ls [])
  generalize va_A (wA κ σ) s.heap.size = A at B ⊢
  have hts : ∀ w ∈ zW, w.before [.ref (aA κ 14)].toArray s = true := fun w h => hts w (List.mem_cons_of_mem _ h)
  refine lv_aload_n hx hb d_Bo_keep_0 rfl (lv_at hl 0 rfl) ?_
  refine va_get (D := κ.1) (ci := 4) (v := .int (σ.1 21 0)) (C := "UnitThreads$Board") (T := T_Bo) (N := 6) hx hb hts in_Bo hown B.1 B.2.1 14 (wa_14 κ σ) rfl 5 (by decide) (hts _ w_152) (fun _ h9 => h9) rfl d_Bo_keep_1 ?_
  refine zrwi (y := nI b) (hbs) ?_
  refine lv_bipush (v := nI 64) hx hb d_Bo_keep_4 (by decide) ?_
  refine lv_icmp_lt (tgt := 10) hx hb d_Bo_keep_6 (by decide) (fun c_1 => ?_) (fun c_1 => ?_)
  · have c_1 := (nI_ltI (a := b) (b := 64) (by omega) (by omega)).mp c_1
    refine lv_aload_n hx hb d_Bo_keep_10 rfl (lv_at hl 0 rfl) ?_
    refine va_get (D := κ.1) (ci := 4) (v := .ref (aA κ 15)) (C := "UnitThreads$Board") (T := T_Bo) (N := 6) hx hb hts in_Bo hown B.1 B.2.1 14 (wa_14 κ σ) rfl 0 (by decide) (hts _ w_144) (fun _ h9 => h9) rfl d_Bo_keep_11 ?_
    refine lv_iconst (v := nI 0) hx hb d_Bo_keep_14 (by decide) ?_
    refine lv_aload_n hx hb d_Bo_keep_15 rfl (lv_at hl 0 rfl) ?_
    refine va_get (D := κ.1) (ci := 4) (v := .ref (aA κ 18)) (C := "UnitThreads$Board") (T := T_Bo) (N := 6) hx hb hts in_Bo hown B.1 B.2.1 14 (wa_14 κ σ) rfl 3 (by decide) (hts _ w_150) (fun _ h9 => h9) rfl d_Bo_keep_16 ?_
    refine lv_aload_n hx hb d_Bo_keep_19 rfl (lv_at hl 0 rfl) ?_
    refine va_get (D := κ.1) (ci := 4) (v := .int (σ.1 21 0)) (C := "UnitThreads$Board") (T := T_Bo) (N := 6) hx hb hts in_Bo hown B.1 B.2.1 14 (wa_14 κ σ) rfl 5 (by decide) (hts _ w_152) (fun _ h9 => h9) rfl d_Bo_keep_20 ?_
    refine zrwi (y := nI b) (hbs) ?_
    refine lv_aload_n hx hb d_Bo_keep_23 rfl (lv_at hl 0 rfl) ?_
    refine va_get (D := κ.1) (ci := 4) (v := .ref (aA κ 15)) (C := "UnitThreads$Board") (T := T_Bo) (N := 6) hx hb hts in_Bo hown B.1 B.2.1 14 (wa_14 κ σ) rfl 0 (by decide) (hts _ w_144) (fun _ h9 => h9) rfl d_Bo_keep_24 ?_
    refine zalen hx hb B 15 1 (wa_15 κ σ) rfl d_Bo_keep_27 ?_
    refine lv_imul hx hb d_Bo_keep_28 ?_
    refine zrwi (y := nI (b * (nA κ * 4))) (pk_mul _ _) ?_
    refine lv_aload_n hx hb d_Bo_keep_29 rfl (lv_at hl 0 rfl) ?_
    refine va_get (D := κ.1) (ci := 4) (v := .ref (aA κ 15)) (C := "UnitThreads$Board") (T := T_Bo) (N := 6) hx hb hts in_Bo hown B.1 B.2.1 14 (wa_14 κ σ) rfl 0 (by decide) (hts _ w_144) (fun _ h9 => h9) rfl d_Bo_keep_30 ?_
    refine zalen hx hb B 15 1 (wa_15 κ σ) rfl d_Bo_keep_33 ?_
    refine zcopyl (t0 := 1) (t1 := 1) hx hb (hml.trans hl.1.symm) hown (hts _ w_338) (hts _ w_340) (hts _ w_339) (hts _ w_10) B 15 18 (wa_15 κ σ) (wa_18 κ σ) rfl rfl 0 (b * (nA κ * 4)) (nA κ * 4) rfl rfl rfl (by omega) (zcp hlt) (by omega) (Nat.le_of_ble_eq_true rfl) (Nat.le_of_ble_eq_true rfl) (wf_18 κ σ _) d_Bo_keep_34 (fun H locs B => ?_)
    have B : BA κ A s.heap s (zfl σ 4 (va_cpy (σ.2 2) (σ.2 4) 0 (b * (nA κ * 4)) (nA κ * 4))) H locs := B
    refine lv_aload_n hx hb d_Bo_keep_37 rfl (lv_at hl 0 rfl) ?_
    refine va_get (D := κ.1) (ci := 4) (v := .ref (aA κ 17)) (C := "UnitThreads$Board") (T := T_Bo) (N := 6) hx hb hts in_Bo hown B.1 B.2.1 14 (wa_14 κ (zfl σ 4 (va_cpy (σ.2 2) (σ.2 4) 0 (b * (nA κ * 4)) (nA κ * 4)))) rfl 2 (by decide) (hts _ w_148) (fun _ h9 => h9) rfl d_Bo_keep_38 ?_
    refine lv_iconst (v := nI 0) hx hb d_Bo_keep_41 (by decide) ?_
    refine lv_aload_n hx hb d_Bo_keep_42 rfl (lv_at hl 0 rfl) ?_
    refine va_get (D := κ.1) (ci := 4) (v := .ref (aA κ 19)) (C := "UnitThreads$Board") (T := T_Bo) (N := 6) hx hb hts in_Bo hown B.1 B.2.1 14 (wa_14 κ (zfl σ 4 (va_cpy (σ.2 2) (σ.2 4) 0 (b * (nA κ * 4)) (nA κ * 4)))) rfl 4 (by decide) (hts _ w_151) (fun _ h9 => h9) rfl d_Bo_keep_43 ?_
    refine lv_aload_n hx hb d_Bo_keep_46 rfl (lv_at hl 0 rfl) ?_
    refine va_get (D := κ.1) (ci := 4) (v := .int ((zfl σ 4 (va_cpy (σ.2 2) (σ.2 4) 0 (b * (nA κ * 4)) (nA κ * 4))).1 21 0)) (C := "UnitThreads$Board") (T := T_Bo) (N := 6) hx hb hts in_Bo hown B.1 B.2.1 14 (wa_14 κ (zfl σ 4 (va_cpy (σ.2 2) (σ.2 4) 0 (b * (nA κ * 4)) (nA κ * 4)))) rfl 5 (by decide) (hts _ w_152) (fun _ h9 => h9) rfl d_Bo_keep_47 ?_
    refine zrwi (y := nI b) (hbs) ?_
    refine lv_bipush (v := nI 16) hx hb d_Bo_keep_50 (by decide) ?_
    refine lv_imul hx hb d_Bo_keep_52 ?_
    refine zrwi (y := nI (b * 16)) (pk_mul _ _) ?_
    refine lv_bipush (v := nI 16) hx hb d_Bo_keep_53 (by decide) ?_
    refine zcopyi (t0 := 0) (t1 := 0) hx hb (hml.trans hl.1.symm) hown (hts _ w_338) (hts _ w_340) (hts _ w_339) (hts _ w_10) B 17 19 (wa_17 κ (zfl σ 4 (va_cpy (σ.2 2) (σ.2 4) 0 (b * (nA κ * 4)) (nA κ * 4)))) (wa_19 κ (zfl σ 4 (va_cpy (σ.2 2) (σ.2 4) 0 (b * (nA κ * 4)) (nA κ * 4)))) rfl rfl 0 (b * 16) 16 rfl rfl rfl (by omega) (by omega) (by omega) (Nat.le_of_ble_eq_true rfl) (Nat.le_of_ble_eq_true rfl) (wf_19 κ _ _) d_Bo_keep_55 (fun H locs B => ?_)
    have B : BA κ A s.heap s (zfi (zfl σ 4 (va_cpy (σ.2 2) (σ.2 4) 0 (b * (nA κ * 4)) (nA κ * 4))) 20 (va_cpy ((zfl σ 4 (va_cpy (σ.2 2) (σ.2 4) 0 (b * (nA κ * 4)) (nA κ * 4))).1 19) ((zfl σ 4 (va_cpy (σ.2 2) (σ.2 4) 0 (b * (nA κ * 4)) (nA κ * 4))).1 20) 0 (b * 16) 16)) H locs := B
    refine lv_aload_n hx hb d_Bo_keep_58 rfl (lv_at hl 0 rfl) ?_
    refine lv_dup hx hb d_Bo_keep_59 rfl ?_
    refine va_get (D := κ.1) (ci := 4) (v := .int ((zfi (zfl σ 4 (va_cpy (σ.2 2) (σ.2 4) 0 (b * (nA κ * 4)) (nA κ * 4))) 20 (va_cpy ((zfl σ 4 (va_cpy (σ.2 2) (σ.2 4) 0 (b * (nA κ * 4)) (nA κ * 4))).1 19) ((zfl σ 4 (va_cpy (σ.2 2) (σ.2 4) 0 (b * (nA κ * 4)) (nA κ * 4))).1 20) 0 (b * 16) 16)).1 21 0)) (C := "UnitThreads$Board") (T := T_Bo) (N := 6) hx hb hts in_Bo hown B.1 B.2.1 14 (wa_14 κ (zfi (zfl σ 4 (va_cpy (σ.2 2) (σ.2 4) 0 (b * (nA κ * 4)) (nA κ * 4))) 20 (va_cpy ((zfl σ 4 (va_cpy (σ.2 2) (σ.2 4) 0 (b * (nA κ * 4)) (nA κ * 4))).1 19) ((zfl σ 4 (va_cpy (σ.2 2) (σ.2 4) 0 (b * (nA κ * 4)) (nA κ * 4))).1 20) 0 (b * 16) 16))) rfl 5 (by decide) (hts _ w_152) (fun _ h9 => h9) rfl d_Bo_keep_60 ?_
    refine zrwi (y := nI b) (hbs) ?_
    refine lv_iconst (v := 1) hx hb d_Bo_keep_63 (by decide) ?_
    refine lv_iadd hx hb d_Bo_keep_64 ?_
    refine zrwi (y := nI (b + 1)) (nI_1 _) ?_
    refine zput (ci := 4) (v := .int (nI (b + 1))) (ty := .int) (C := "UnitThreads$Board") (T := T_Bo) (N := 6) hx hb hts in_Bo ty_Bo tyok_Bo nm_Bo hown B 14 (wa_14 κ (zfi (zfl σ 4 (va_cpy (σ.2 2) (σ.2 4) 0 (b * (nA κ * 4)) (nA κ * 4))) 20 (va_cpy ((zfl σ 4 (va_cpy (σ.2 2) (σ.2 4) 0 (b * (nA κ * 4)) (nA κ * 4))).1 19) ((zfl σ 4 (va_cpy (σ.2 2) (σ.2 4) 0 (b * (nA κ * 4)) (nA κ * 4))).1 20) 0 (b * 16) 16))) rfl 5 (by decide) (hts _ w_152) (fun _ h9 => h9) rfl (by decide +kernel) rfl rfl (Nat.le_of_ble_eq_true rfl) (wp_14_5 κ (zfi (zfl σ 4 (va_cpy (σ.2 2) (σ.2 4) 0 (b * (nA κ * 4)) (nA κ * 4))) 20 (va_cpy ((zfl σ 4 (va_cpy (σ.2 2) (σ.2 4) 0 (b * (nA κ * 4)) (nA κ * 4))).1 19) ((zfl σ 4 (va_cpy (σ.2 2) (σ.2 4) 0 (b * (nA κ * 4)) (nA κ * 4))).1 20) 0 (b * 16) 16)) (nI (b + 1))) d_Bo_keep_65 (fun H locs B => ?_)
    have B : BA κ A s.heap s (zi (zfi (zfl σ 4 (va_cpy (σ.2 2) (σ.2 4) 0 (b * (nA κ * 4)) (nA κ * 4))) 20 (va_cpy ((zfl σ 4 (va_cpy (σ.2 2) (σ.2 4) 0 (b * (nA κ * 4)) (nA κ * 4))).1 19) ((zfl σ 4 (va_cpy (σ.2 2) (σ.2 4) 0 (b * (nA κ * 4)) (nA κ * 4))).1 20) 0 (b * 16) 16)) 21 0 (nI (b + 1))) H locs := B
    exact zret_v hx hb hr hlocks B (rfl) d_Bo_keep_68
  · have c_1 := (not_congr (nI_ltI (a := b) (b := 64) (by omega) (by omega))).mp c_1
    exact absurd c_1 (by omega)
set_option maxHeartbeats 4000000 in
set_option maxRecDepth 100000 in
theorem c_Bo_shut (l : Launch) (κ : KA) (σ : zS) (hn : nA κ ≤ 8) : zMv l y_Bo_shut (zws y_Bo_shut prog_2_method_10_code 1 none) ({ frames := 1, cells := 0, slots := 0, locals := 48 }) κ.1 vwCl (tysA κ) nwA (wA κ) σ [.ref (aA κ 14)] (fun σ' => σ' = fx_shut (nA κ) σ) := by
  refine zintro (cc := prog_2_method_10_code) (maxL := 1) (ret := none) (by decide) rfl (Nat.le_of_ble_eq_true rfl) ?_
  intro p e s m below meth c ls hx hb hr hml hts hown hlocks hl B
  have hl : lv_has ls 1 [(0, .ref (aA κ 14))] := hl
  have B : BA κ (va_A (wA κ σ) s.heap.size) s.heap s σ s.heap [] := B
  have hr : meth.sig.returnType = none := hr
  have hown : s.vm.findClass "UnitThreads$Board" = some m.cls := hown
  show W p l e (headSpec (zws y_Bo_shut prog_2_method_10_code 1 none) ({ frames := 1, cells := 0, slots := 0, locals := 48 })).room s m [.ref (aA κ 14)].toArray below meth c s.heap [] 0 0 (MQ below (va_Qv (fun σ' => σ' = fx_shut (nA κ) σ) (zQ κ.1 vwCl (tysA κ) (wA κ) (va_A (wA κ σ) s.heap.size)) (va_A (wA κ σ) s.heap.size)) [.ref (aA κ 14)].toArray s 0 0 (va_A (wA κ σ) s.heap.size)) (F0 m 0 ls [])
  generalize va_A (wA κ σ) s.heap.size = A at B ⊢
  have hts : ∀ w ∈ zW, w.before [.ref (aA κ 14)].toArray s = true := fun w h => hts w (List.mem_cons_of_mem _ h)
  refine lv_aload_n hx hb d_Bo_shut_0 rfl (lv_at hl 0 rfl) ?_
  refine va_get (D := κ.1) (ci := 4) (v := .ref (aA κ 16)) (C := "UnitThreads$Board") (T := T_Bo) (N := 6) hx hb hts in_Bo hown B.1 B.2.1 14 (wa_14 κ σ) rfl 1 (by decide) (hts _ w_146) (fun _ h9 => h9) rfl d_Bo_shut_1 ?_
  refine lv_iconst (v := nI 0) hx hb d_Bo_shut_4 (by decide) ?_
  refine lv_aload_n hx hb d_Bo_shut_5 rfl (lv_at hl 0 rfl) ?_
  refine va_get (D := κ.1) (ci := 4) (v := .ref (aA κ 15)) (C := "UnitThreads$Board") (T := T_Bo) (N := 6) hx hb hts in_Bo hown B.1 B.2.1 14 (wa_14 κ σ) rfl 0 (by decide) (hts _ w_144) (fun _ h9 => h9) rfl d_Bo_shut_6 ?_
  refine lv_iconst (v := nI 0) hx hb d_Bo_shut_9 (by decide) ?_
  refine lv_aload_n hx hb d_Bo_shut_10 rfl (lv_at hl 0 rfl) ?_
  refine va_get (D := κ.1) (ci := 4) (v := .ref (aA κ 15)) (C := "UnitThreads$Board") (T := T_Bo) (N := 6) hx hb hts in_Bo hown B.1 B.2.1 14 (wa_14 κ σ) rfl 0 (by decide) (hts _ w_144) (fun _ h9 => h9) rfl d_Bo_shut_11 ?_
  refine zalen hx hb B 15 1 (wa_15 κ σ) rfl d_Bo_shut_14 ?_
  refine zcopyl (t0 := 1) (t1 := 1) hx hb (hml.trans hl.1.symm) hown (hts _ w_338) (hts _ w_340) (hts _ w_339) (hts _ w_10) B 16 15 (wa_16 κ σ) (wa_15 κ σ) rfl rfl 0 0 (nA κ * 4) rfl rfl rfl (by omega) (by omega) (by omega) (Nat.le_of_ble_eq_true rfl) (Nat.le_of_ble_eq_true rfl) (wf_15 κ σ _) d_Bo_shut_15 (fun H locs B => ?_)
  have B : BA κ A s.heap s (zfl σ 2 (va_cpy (σ.2 3) (σ.2 2) 0 0 (nA κ * 4))) H locs := B
  refine lv_aload_n hx hb d_Bo_shut_18 rfl (lv_at hl 0 rfl) ?_
  refine va_get (D := κ.1) (ci := 4) (v := .ref (aA κ 17)) (C := "UnitThreads$Board") (T := T_Bo) (N := 6) hx hb hts in_Bo hown B.1 B.2.1 14 (wa_14 κ (zfl σ 2 (va_cpy (σ.2 3) (σ.2 2) 0 0 (nA κ * 4)))) rfl 2 (by decide) (hts _ w_148) (fun _ h9 => h9) rfl d_Bo_shut_19 ?_
  refine lv_iconst (v := (-1)) hx hb d_Bo_shut_22 (by decide) ?_
  refine zcS_v (As := [.ref (aA κ 17), .int ((-1))]) (rest := []) ⟨hx, hb, hml, hown, hts⟩ (c_Ar_fill l κ (zfl σ 2 (va_cpy (σ.2 3) (σ.2 2) 0 0 (nA κ * 4)))) (va_cwS 2 hts (zgoodT w_141 w_142 w_8 w_143) rfl rfl rfl (by decide +kernel) ⟨Nat.le_of_ble_eq_true rfl, Nat.le_of_ble_eq_true rfl⟩) B rfl hl.1 rfl (Nat.le_of_ble_eq_true rfl) d_Bo_shut_23 ⟨Nat.zero_le _, Nat.zero_le _⟩ (fun σ' H locs hp B => ?_)
  rw [hp] at B
  have B : BA κ A s.heap s (zit fx_fill1 16 0 (zfl σ 2 (va_cpy (σ.2 3) (σ.2 2) 0 0 (nA κ * 4)))) H locs := B
  exact zret_v hx hb hr hlocks B (rfl) d_Bo_shut_26
set_option maxHeartbeats 4000000 in
set_option maxRecDepth 100000 in
theorem c_Or_moveForward (l : Launch) (κ : KA) (σ : zS) (f t : Nat) (hf : f < nA κ) (ht : t ≤ f) (hn : nA κ ≤ 8) : zMv l y_Or_moveForward (zws y_Or_moveForward prog_4_method_4_code 5 none) ({ frames := 0, cells := 0, slots := 0, locals := 0 }) κ.1 vwCl (tysA κ) nwA (wA κ) σ [.ref (aA κ 8), .int (nI f), .int (nI t)] (fun σ' => σ' = fx_move σ f t) := by
  refine zintro (cc := prog_4_method_4_code) (maxL := 5) (ret := none) (by decide) rfl (Nat.le_of_ble_eq_true rfl) ?_
  intro p e s m below meth c ls hx hb hr hml hts hown hlocks hl B
  have hl : lv_has ls 5 [(0, .ref (aA κ 8)), (1, .int (nI f)), (2, .int (nI t))] := hl
  have B : BA κ (va_A (wA κ σ) s.heap.size) s.heap s σ s.heap [] := B
  have hr : meth.sig.returnType = none := hr
  have hown : s.vm.findClass "UnitThreads$Order" = some m.cls := hown
  show W p l e (headSpec (zws y_Or_moveForward prog_4_method_4_code 5 none) ({ frames := 0, cells := 0, slots := 0, locals := 0 })).room s m [.ref (aA κ 8), .int (nI f), .int (nI t)].toArray below meth c s.heap [] 0 0 (MQ below (va_Qv (fun σ' => σ' = fx_move σ f t) (zQ κ.1 vwCl (tysA κ) (wA κ) (va_A (wA κ σ) s.heap.size)) (va_A (wA κ σ) s.heap.size)) [.ref (aA κ 8), .int (nI f), .int (nI t)].toArray s 0 0 (va_A (wA κ σ) s.heap.size)) (F0 m 0 ls [])
  generalize va_A (wA κ σ) s.heap.size = A at B ⊢
  have hts : ∀ w ∈ zW, w.before [.ref (aA κ 8), .int (nI f), .int (nI t)].toArray s = true := fun w h => hts w (List.mem_cons_of_mem _ h)
  have L_10 : ∀ (j : Nat) (i : Nat) (τ : zS), i = t + j ∧ i ≤ f → (fx_move σ f t = zi (fx_shift j i τ) 13 t (σ.1 13 f)) → ∀ (H : Heap) (locs : List Loc), BA κ A s.heap s τ H locs → ∀ (ls : Array Slot), lv_has ls 5 [(0, .ref (aA κ 8)), (1, .int (nI f)), (2, .int (nI t)), (3, .int (σ.1 13 f)), (4, .int (nI i))] → W p l e (headSpec (zws y_Or_moveForward prog_4_method_4_code 5 none) ({ frames := 0, cells := 0, slots := 0, locals := 0 })).room s m [.ref (aA κ 8), .int (nI f), .int (nI t)].toArray below meth c H locs 0 0 (MQ below (va_Qv (fun σ' => σ' = fx_move σ f t) (zQ κ.1 vwCl (tysA κ) (wA κ) A) A) [.ref (aA κ 8), .int (nI f), .int (nI t)].toArray s 0 0 A) (F0 m 10 ls []) := by
    intro j
    induction j with
    | zero =>
      intro i τ hj hst H locs B ls hl
      refine lv_iload hx hb d_Or_moveForward_10 (lv_at hl 4 rfl) ?_
      refine lv_iload_n hx hb d_Or_moveForward_12 rfl (lv_at hl 2 rfl) ?_
      refine lv_icmp_le (tgt := 38) hx hb d_Or_moveForward_13 (by decide) (fun c_1 => ?_) (fun c_1 => ?_)
      · have c_1 := (nI_leI (a := i) (b := t) (by omega) (by omega)).mp c_1
        refine lv_aload_n hx hb d_Or_moveForward_38 rfl (lv_at hl 0 rfl) ?_
        refine va_get (D := κ.1) (ci := 2) (v := .ref (aA κ 9)) (C := "UnitThreads$Order") (T := T_Or) (N := 3) hx hb hts in_Or hown B.1 B.2.1 8 (wa_8 κ τ) rfl 0 (by decide) (hts _ w_102) (fun _ h9 => h9) rfl d_Or_moveForward_39 ?_
        refine lv_iload_n hx hb d_Or_moveForward_42 rfl (lv_at hl 2 rfl) ?_
        refine lv_iload_n hx hb d_Or_moveForward_43 rfl (lv_at hl 3 rfl) ?_
        refine ziast hx hb B 9 0 (wa_9 κ τ) rfl t rfl (by omega) (by omega) (ws_9 κ τ t (σ.1 13 f)) d_Or_moveForward_44 (fun H locs B => ?_)
        have B : BA κ A s.heap s (zi τ 13 t (σ.1 13 f)) H locs := B
        exact zret_v hx hb hr hlocks B (hst.symm) d_Or_moveForward_45
      · have c_1 := (not_congr (nI_leI (a := i) (b := t) (by omega) (by omega))).mp c_1
        exact absurd c_1 (by omega)
    | succ j ih =>
      intro i τ hj hst H locs B ls hl
      refine lv_iload hx hb d_Or_moveForward_10 (lv_at hl 4 rfl) ?_
      refine lv_iload_n hx hb d_Or_moveForward_12 rfl (lv_at hl 2 rfl) ?_
      refine lv_icmp_le (tgt := 38) hx hb d_Or_moveForward_13 (by decide) (fun c_2 => ?_) (fun c_2 => ?_)
      · have c_2 := (nI_leI (a := i) (b := t) (by omega) (by omega)).mp c_2
        exact absurd c_2 (by omega)
      · have c_2 := (not_congr (nI_leI (a := i) (b := t) (by omega) (by omega))).mp c_2
        refine lv_aload_n hx hb d_Or_moveForward_16 rfl (lv_at hl 0 rfl) ?_
        refine va_get (D := κ.1) (ci := 2) (v := .ref (aA κ 9)) (C := "UnitThreads$Order") (T := T_Or) (N := 3) hx hb hts in_Or hown B.1 B.2.1 8 (wa_8 κ τ) rfl 0 (by decide) (hts _ w_102) (fun _ h9 => h9) rfl d_Or_moveForward_17 ?_
        refine lv_iload hx hb d_Or_moveForward_20 (lv_at hl 4 rfl) ?_
        refine lv_aload_n hx hb d_Or_moveForward_22 rfl (lv_at hl 0 rfl) ?_
        refine va_get (D := κ.1) (ci := 2) (v := .ref (aA κ 9)) (C := "UnitThreads$Order") (T := T_Or) (N := 3) hx hb hts in_Or hown B.1 B.2.1 8 (wa_8 κ τ) rfl 0 (by decide) (hts _ w_102) (fun _ h9 => h9) rfl d_Or_moveForward_23 ?_
        refine lv_iload hx hb d_Or_moveForward_26 (lv_at hl 4 rfl) ?_
        refine lv_iconst (v := nI 1) hx hb d_Or_moveForward_28 (by decide) ?_
        refine lv_isub hx hb d_Or_moveForward_29 ?_
        refine zrwi (y := nI (i - 1)) (pk_sub (by omega)) ?_
        refine ziald hx hb B 9 0 (wa_9 κ τ) rfl (i - 1) rfl (by omega) (by omega) d_Or_moveForward_30 ?_
        refine ziast hx hb B 9 0 (wa_9 κ τ) rfl i rfl (by omega) (by omega) (ws_9 κ τ i (τ.1 13 (i - 1))) d_Or_moveForward_31 (fun H locs B => ?_)
        have B : BA κ A s.heap s (zi τ 13 i (τ.1 13 (i - 1))) H locs := B
        refine lv_iinc (v := nI (i - 1)) (lv' := [(4, .int (nI (i - 1))), (0, .ref (aA κ 8)), (1, .int (nI f)), (2, .int (nI t)), (3, .int (σ.1 13 f))]) hx hb d_Or_moveForward_32 hl (k := 4) rfl (sb_m1 (by omega)) (by decide) rfl (fun ls hl => ?_)
        refine lv_goto (tgt := 10) hx hb d_Or_moveForward_35 (by decide) ?_
        exact ih (i - 1) (zi τ 13 i (τ.1 13 (i - 1))) (by omega) hst _ _ B ls (lv_sub hl [1, 2, 3, 4, 0] rfl)
  refine lv_aload_n hx hb d_Or_moveForward_0 rfl (lv_at hl 0 rfl) ?_
  refine va_get (D := κ.1) (ci := 2) (v := .ref (aA κ 9)) (C := "UnitThreads$Order") (T := T_Or) (N := 3) hx hb hts in_Or hown B.1 B.2.1 8 (wa_8 κ σ) rfl 0 (by decide) (hts _ w_102) (fun _ h9 => h9) rfl d_Or_moveForward_1 ?_
  refine lv_iload_n hx hb d_Or_moveForward_4 rfl (lv_at hl 1 rfl) ?_
  refine ziald hx hb B 9 0 (wa_9 κ σ) rfl f rfl (by omega) (by omega) d_Or_moveForward_5 ?_
  refine lv_istore_n (lv' := [(3, .int (σ.1 13 f)), (0, .ref (aA κ 8)), (1, .int (nI f)), (2, .int (nI t))]) hx hb d_Or_moveForward_6 rfl hl (by decide) rfl (fun ls hl => ?_)
  refine lv_iload_n hx hb d_Or_moveForward_7 rfl (lv_at hl 2 rfl) ?_
  refine lv_istore (lv' := [(4, .int (nI f)), (3, .int (σ.1 13 f)), (0, .ref (aA κ 8)), (1, .int (nI f)), (2, .int (nI t))]) hx hb d_Or_moveForward_8 hl (by decide) rfl (fun ls hl => ?_)
  exact L_10 (f - t) f σ (by omega) rfl _ _ B ls (lv_sub hl [2, 3, 4, 1, 0] rfl)
set_option maxHeartbeats 4000000 in
set_option maxRecDepth 100000 in
theorem c_Or_draw (l : Launch) (κ : KA) (σ : zS) (hn : nA κ ≤ 8) (N : Nat) (hN : σ.1 14 0 = nI N) (hNn : N ≤ nA κ) : zMv l y_Or_draw (zws y_Or_draw prog_4_method_3_code 3 none) ({ frames := 1, cells := 0, slots := 0, locals := 24 }) κ.1 vwCl (tysA κ) nwA (wA κ) σ [.ref (aA κ 8)] (fun σ' => σ' = fx_draw N σ) := by
  refine zintro (cc := prog_4_method_3_code) (maxL := 3) (ret := none) (by decide) rfl (Nat.le_of_ble_eq_true rfl) ?_
  intro p e s m below meth c ls hx hb hr hml hts hown hlocks hl B
  have hl : lv_has ls 3 [(0, .ref (aA κ 8))] := hl
  have B : BA κ (va_A (wA κ σ) s.heap.size) s.heap s σ s.heap [] := B
  have hr : meth.sig.returnType = none := hr
  have hown : s.vm.findClass "UnitThreads$Order" = some m.cls := hown
  show W p l e (headSpec (zws y_Or_draw prog_4_method_3_code 3 none) ({ frames := 1, cells := 0, slots := 0, locals := 24 })).room s m [.ref (aA κ 8)].toArray below meth c s.heap [] 0 0 (MQ below (va_Qv (fun σ' => σ' = fx_draw N σ) (zQ κ.1 vwCl (tysA κ) (wA κ) (va_A (wA κ σ) s.heap.size)) (va_A (wA κ σ) s.heap.size)) [.ref (aA κ 8)].toArray s 0 0 (va_A (wA κ σ) s.heap.size)) (F0 m 0 ls [])
  generalize va_A (wA κ σ) s.heap.size = A at B ⊢
  have hts : ∀ w ∈ zW, w.before [.ref (aA κ 8)].toArray s = true := fun w h => hts w (List.mem_cons_of_mem _ h)
  have L_2 : ∀ (j : Nat) (k : Nat) (τ : zS), k + j = N → (fx_draw N σ = zit (fx_draw1 N) j k τ) → (τ.1 14 0 = nI N) → ∀ (H : Heap) (locs : List Loc), BA κ A s.heap s τ H locs → ∀ (ls : Array Slot), lv_has ls 3 [(0, .ref (aA κ 8)), (1, .int (nI k))] → W p l e (headSpec (zws y_Or_draw prog_4_method_3_code 3 none) ({ frames := 1, cells := 0, slots := 0, locals := 24 })).room s m [.ref (aA κ 8)].toArray below meth c H locs 0 0 (MQ below (va_Qv (fun σ' => σ' = fx_draw N σ) (zQ κ.1 vwCl (tysA κ) (wA κ) A) A) [.ref (aA κ 8)].toArray s 0 0 A) (F0 m 2 ls []) := by
    intro j
    induction j with
    | zero =>
      intro k τ hj hst hN H locs B ls hl
      refine lv_iload_n hx hb d_Or_draw_2 rfl (lv_at hl 1 rfl) ?_
      refine lv_aload_n hx hb d_Or_draw_3 rfl (lv_at hl 0 rfl) ?_
      refine va_get (D := κ.1) (ci := 2) (v := .int (τ.1 14 0)) (C := "UnitThreads$Order") (T := T_Or) (N := 3) hx hb hts in_Or hown B.1 B.2.1 8 (wa_8 κ τ) rfl 1 (by decide) (hts _ w_104) (fun _ h9 => h9) rfl d_Or_draw_4 ?_
      refine zrwi (y := nI N) (hN) ?_
      refine lv_icmp_ge (tgt := 57) hx hb d_Or_draw_7 (by decide) (fun c_1 => ?_) (fun c_1 => ?_)
      · have c_1 := (nI_leI (a := N) (b := k) (by omega) (by omega)).mp c_1
        exact zret_v hx hb hr hlocks B (hst.symm) d_Or_draw_57
      · have c_1 := (not_congr (nI_leI (a := N) (b := k) (by omega) (by omega))).mp c_1
        exact absurd c_1 (by omega)
    | succ j ih =>
      intro k τ hj hst hN H locs B ls hl
      refine lv_iload_n hx hb d_Or_draw_2 rfl (lv_at hl 1 rfl) ?_
      refine lv_aload_n hx hb d_Or_draw_3 rfl (lv_at hl 0 rfl) ?_
      refine va_get (D := κ.1) (ci := 2) (v := .int (τ.1 14 0)) (C := "UnitThreads$Order") (T := T_Or) (N := 3) hx hb hts in_Or hown B.1 B.2.1 8 (wa_8 κ τ) rfl 1 (by decide) (hts _ w_104) (fun _ h9 => h9) rfl d_Or_draw_4 ?_
      refine zrwi (y := nI N) (hN) ?_
      refine lv_icmp_ge (tgt := 57) hx hb d_Or_draw_7 (by decide) (fun c_2 => ?_) (fun c_2 => ?_)
      · have c_2 := (nI_leI (a := N) (b := k) (by omega) (by omega)).mp c_2
        exact absurd c_2 (by omega)
      · have c_2 := (not_congr (nI_leI (a := N) (b := k) (by omega) (by omega))).mp c_2
        refine lv_aload_n hx hb d_Or_draw_10 rfl (lv_at hl 0 rfl) ?_
        refine lv_aload_n hx hb d_Or_draw_11 rfl (lv_at hl 0 rfl) ?_
        refine va_get (D := κ.1) (ci := 2) (v := .long (τ.2 1 0)) (C := "UnitThreads$Order") (T := T_Or) (N := 3) hx hb hts in_Or hown B.1 B.2.1 8 (wa_8 κ τ) rfl 2 (by decide) (hts _ w_106) (fun _ h9 => h9) rfl d_Or_draw_12 ?_
        refine lv_ldc2 (v := 6364136223846793005) hx hb hown ((hts _ w_279)) d_Or_draw_15 ?_
        refine lv_lmul hx hb d_Or_draw_18 ?_
        refine lv_ldc2 (v := 1442695040888963407) hx hb hown ((hts _ w_280)) d_Or_draw_19 ?_
        refine lv_ladd hx hb d_Or_draw_22 ?_
        refine zput (ci := 2) (v := .long (((τ.2 1 0) * 6364136223846793005) + 1442695040888963407)) (ty := .long) (C := "UnitThreads$Order") (T := T_Or) (N := 3) hx hb hts in_Or ty_Or tyok_Or nm_Or hown B 8 (wa_8 κ τ) rfl 2 (by decide) (hts _ w_106) (fun _ h9 => h9) rfl (by decide +kernel) rfl rfl (Nat.le_of_ble_eq_true rfl) (wp_8_2 κ τ (((τ.2 1 0) * 6364136223846793005) + 1442695040888963407)) d_Or_draw_23 (fun H locs B => ?_)
        have B : BA κ A s.heap s (zl τ 1 0 (((τ.2 1 0) * 6364136223846793005) + 1442695040888963407)) H locs := B
        refine lv_aload_n hx hb d_Or_draw_26 rfl (lv_at hl 0 rfl) ?_
        refine va_get (D := κ.1) (ci := 2) (v := .long ((zl τ 1 0 (((τ.2 1 0) * 6364136223846793005) + 1442695040888963407)).2 1 0)) (C := "UnitThreads$Order") (T := T_Or) (N := 3) hx hb hts in_Or hown B.1 B.2.1 8 (wa_8 κ (zl τ 1 0 (((τ.2 1 0) * 6364136223846793005) + 1442695040888963407))) rfl 2 (by decide) (hts _ w_106) (fun _ h9 => h9) rfl d_Or_draw_27 ?_
        refine zrwl (y := ((τ.2 1 0) * 6364136223846793005) + 1442695040888963407) (by rw [zl_eq]) ?_
        refine lv_bipush (v := 33) hx hb d_Or_draw_30 (by decide) ?_
        refine lv_lushr (v := ((((τ.2 1 0) * 6364136223846793005) + 1442695040888963407).toUInt64 >>> ((Int32.toInt64 33).toUInt64 &&& Int64.toUInt64 63)).toInt64) hx hb d_Or_draw_32 rfl ?_
        refine lv_aload_n hx hb d_Or_draw_33 rfl (lv_at hl 0 rfl) ?_
        refine va_get (D := κ.1) (ci := 2) (v := .int ((zl τ 1 0 (((τ.2 1 0) * 6364136223846793005) + 1442695040888963407)).1 14 0)) (C := "UnitThreads$Order") (T := T_Or) (N := 3) hx hb hts in_Or hown B.1 B.2.1 8 (wa_8 κ (zl τ 1 0 (((τ.2 1 0) * 6364136223846793005) + 1442695040888963407))) rfl 1 (by decide) (hts _ w_104) (fun _ h9 => h9) rfl d_Or_draw_34 ?_
        refine zrwi (y := τ.1 14 0) (by rw [zl_1]) ?_
        refine zrwi (y := nI N) (hN) ?_
        refine lv_iload_n hx hb d_Or_draw_37 rfl (lv_at hl 1 rfl) ?_
        refine lv_isub hx hb d_Or_draw_38 ?_
        refine zrwi (y := nI (N - k)) (pk_sub (by omega)) ?_
        refine lv_i2l (v := Int32.toInt64 (nI (N - k))) hx hb d_Or_draw_39 rfl ?_
        refine lv_lrem hx hb d_Or_draw_40 (zr_ne (by omega) (by omega)) ?_
        refine lv_l2i (v := Int64.toInt32 ((((((τ.2 1 0) * 6364136223846793005) + 1442695040888963407).toUInt64 >>> ((Int32.toInt64 33).toUInt64 &&& Int64.toUInt64 63)).toInt64) - (((((τ.2 1 0) * 6364136223846793005) + 1442695040888963407).toUInt64 >>> ((Int32.toInt64 33).toUInt64 &&& Int64.toUInt64 63)).toInt64) / (Int32.toInt64 (nI (N - k))) * (Int32.toInt64 (nI (N - k))))) hx hb d_Or_draw_41 rfl ?_
        refine zrwi (y := fx_pick (fx_lcg (τ.2 1 0)) (N - k)) (rfl) ?_
        refine lv_istore_n (lv' := [(2, .int (fx_pick (fx_lcg (τ.2 1 0)) (N - k))), (0, .ref (aA κ 8)), (1, .int (nI k))]) hx hb d_Or_draw_42 rfl hl (by decide) rfl (fun ls hl => ?_)
        refine lv_aload_n hx hb d_Or_draw_43 rfl (lv_at hl 1 rfl) ?_
        refine lv_iload_n hx hb d_Or_draw_44 rfl (lv_at hl 2 rfl) ?_
        refine lv_iload_n hx hb d_Or_draw_45 rfl (lv_at hl 0 rfl) ?_
        refine lv_iadd hx hb d_Or_draw_46 ?_
        refine zrwi (y := nI (k + tn (fx_pick (fx_lcg (τ.2 1 0)) (N - k)))) (zaddp (fx_pick_in _ (by omega) (by omega)).1) ?_
        refine lv_iload_n hx hb d_Or_draw_47 rfl (lv_at hl 2 rfl) ?_
        refine zcV_v (As := [.int (nI (k + tn (fx_pick (fx_lcg (τ.2 1 0)) (N - k)))), .int (nI k)]) (rest := []) ⟨hx, hb, hml, hown, hts⟩ (c_Or_moveForward l κ (zl τ 1 0 (((τ.2 1 0) * 6364136223846793005) + 1442695040888963407)) (k + tn (fx_pick (fx_lcg (τ.2 1 0)) (N - k))) k (by have h := (fx_pick_in (fx_lcg (τ.2 1 0)) (r := N - k) (by omega) (by omega)).2; omega) (Nat.le_add_right _ _) hn) (cwV 2 hts (zgoodV w_281 w_283 s_6 w_5 w_284) rfl rfl rfl (by decide +kernel) ⟨Nat.le_of_ble_eq_true rfl, Nat.le_of_ble_eq_true rfl⟩) B (zrecv B (ci := 2) rfl (wa_8 κ (zl τ 1 0 (((τ.2 1 0) * 6364136223846793005) + 1442695040888963407)))) rfl hl.1 rfl (Nat.le_of_ble_eq_true rfl) d_Or_draw_48 ⟨Nat.zero_le _, Nat.zero_le _⟩ (fun σ' H locs hp B => ?_)
        rw [hp] at B
        have B : BA κ A s.heap s (fx_move (zl τ 1 0 (((τ.2 1 0) * 6364136223846793005) + 1442695040888963407)) (k + tn (fx_pick (fx_lcg (τ.2 1 0)) (N - k))) k) H locs := B
        refine lv_iinc (v := nI (k + 1)) (lv' := [(1, .int (nI (k + 1))), (2, .int (fx_pick (fx_lcg (τ.2 1 0)) (N - k))), (0, .ref (aA κ 8))]) hx hb d_Or_draw_51 hl (k := 2) rfl (zinc _) (by decide) rfl (fun ls hl => ?_)
        refine lv_goto (tgt := 2) hx hb d_Or_draw_54 (by decide) ?_
        exact ih (k + 1) (fx_move (zl τ 1 0 (((τ.2 1 0) * 6364136223846793005) + 1442695040888963407)) (k + tn (fx_pick (fx_lcg (τ.2 1 0)) (N - k))) k) (by omega) hst ((congrFun (fx_move_k1 (by decide) _ _ _) 0).trans hN) _ _ B ls (lv_sub hl [2, 0] rfl)
  refine lv_iconst (v := nI 0) hx hb d_Or_draw_0 (by decide) ?_
  refine lv_istore_n (lv' := [(1, .int (nI 0)), (0, .ref (aA κ 8))]) hx hb d_Or_draw_1 rfl hl (by decide) rfl (fun ls hl => ?_)
  exact L_2 N 0 σ (by omega) rfl hN _ _ B ls (lv_sub hl [1, 0] rfl)
set_option maxHeartbeats 4000000 in
set_option maxRecDepth 100000 in
theorem c_Or_gather (l : Launch) (κ : KA) (σ : zS) (hn : nA κ ≤ 8) : zMv l y_Or_gather (zws y_Or_gather prog_4_method_2_code 3 none) ({ frames := 2, cells := 0, slots := 0, locals := 40 }) κ.1 vwCl (tysA κ) nwA (wA κ) σ [.ref (aA κ 8), .ref (aA κ 1)] (fun σ' => σ' = fx_gather (nA κ) σ) := by
  refine zintro (cc := prog_4_method_2_code) (maxL := 3) (ret := none) (by decide) rfl (Nat.le_of_ble_eq_true rfl) ?_
  intro p e s m below meth c ls hx hb hr hml hts hown hlocks hl B
  have hl : lv_has ls 3 [(0, .ref (aA κ 8)), (1, .ref (aA κ 1))] := hl
  have B : BA κ (va_A (wA κ σ) s.heap.size) s.heap s σ s.heap [] := B
  have hr : meth.sig.returnType = none := hr
  have hown : s.vm.findClass "UnitThreads$Order" = some m.cls := hown
  show W p l e (headSpec (zws y_Or_gather prog_4_method_2_code 3 none) ({ frames := 2, cells := 0, slots := 0, locals := 40 })).room s m [.ref (aA κ 8), .ref (aA κ 1)].toArray below meth c s.heap [] 0 0 (MQ below (va_Qv (fun σ' => σ' = fx_gather (nA κ) σ) (zQ κ.1 vwCl (tysA κ) (wA κ) (va_A (wA κ σ) s.heap.size)) (va_A (wA κ σ) s.heap.size)) [.ref (aA κ 8), .ref (aA κ 1)].toArray s 0 0 (va_A (wA κ σ) s.heap.size)) (F0 m 0 ls [])
  generalize va_A (wA κ σ) s.heap.size = A at B ⊢
  have hts : ∀ w ∈ zW, w.before [.ref (aA κ 8), .ref (aA κ 1)].toArray s = true := fun w h => hts w (List.mem_cons_of_mem _ h)
  have L_7 : ∀ (j : Nat) (k : Nat) (o : Nat) (τ : zS), k + j = nA κ ∧ o ≤ k → (fx_gather (nA κ) σ = zit fx_gather1 j k τ) → (τ.1 14 0 = nI o) → ∀ (H : Heap) (locs : List Loc), BA κ A s.heap s τ H locs → ∀ (ls : Array Slot), lv_has ls 3 [(0, .ref (aA κ 8)), (1, .ref (aA κ 1)), (2, .int (nI k))] → W p l e (headSpec (zws y_Or_gather prog_4_method_2_code 3 none) ({ frames := 2, cells := 0, slots := 0, locals := 40 })).room s m [.ref (aA κ 8), .ref (aA κ 1)].toArray below meth c H locs 0 0 (MQ below (va_Qv (fun σ' => σ' = fx_gather (nA κ) σ) (zQ κ.1 vwCl (tysA κ) (wA κ) A) A) [.ref (aA κ 8), .ref (aA κ 1)].toArray s 0 0 A) (F0 m 7 ls []) := by
    intro j
    induction j with
    | zero =>
      intro k o τ hj hst ho H locs B ls hl
      refine lv_iload_n hx hb d_Or_gather_7 rfl (lv_at hl 2 rfl) ?_
      refine lv_aload_n hx hb d_Or_gather_8 rfl (lv_at hl 1 rfl) ?_
      refine zalen hx hb B 1 2 (wa_1 κ τ) rfl d_Or_gather_9 ?_
      refine lv_icmp_ge (tgt := 60) hx hb d_Or_gather_10 (by decide) (fun c_1 => ?_) (fun c_1 => ?_)
      · have c_1 := (nI_leI (a := nA κ) (b := k) (by omega) (by omega)).mp c_1
        exact zret_v hx hb hr hlocks B (hst.symm) d_Or_gather_60
      · have c_1 := (not_congr (nI_leI (a := nA κ) (b := k) (by omega) (by omega))).mp c_1
        exact absurd c_1 (by omega)
    | succ j ih =>
      intro k o τ hj hst ho H locs B ls hl
      refine lv_iload_n hx hb d_Or_gather_7 rfl (lv_at hl 2 rfl) ?_
      refine lv_aload_n hx hb d_Or_gather_8 rfl (lv_at hl 1 rfl) ?_
      refine zalen hx hb B 1 2 (wa_1 κ τ) rfl d_Or_gather_9 ?_
      refine lv_icmp_ge (tgt := 60) hx hb d_Or_gather_10 (by decide) (fun c_2 => ?_) (fun c_2 => ?_)
      · have c_2 := (nI_leI (a := nA κ) (b := k) (by omega) (by omega)).mp c_2
        exact absurd c_2 (by omega)
      · have c_2 := (not_congr (nI_leI (a := nA κ) (b := k) (by omega) (by omega))).mp c_2
        refine lv_aload_n hx hb d_Or_gather_13 rfl (lv_at hl 0 rfl) ?_
        refine va_get (D := κ.1) (ci := 2) (v := .int (τ.1 14 0)) (C := "UnitThreads$Order") (T := T_Or) (N := 3) hx hb hts in_Or hown B.1 B.2.1 8 (wa_8 κ τ) rfl 1 (by decide) (hts _ w_104) (fun _ h9 => h9) rfl d_Or_gather_14 ?_
        refine zrwi (y := nI o) (ho) ?_
        refine lv_aload_n hx hb d_Or_gather_17 rfl (lv_at hl 0 rfl) ?_
        refine va_get (D := κ.1) (ci := 2) (v := .ref (aA κ 9)) (C := "UnitThreads$Order") (T := T_Or) (N := 3) hx hb hts in_Or hown B.1 B.2.1 8 (wa_8 κ τ) rfl 0 (by decide) (hts _ w_102) (fun _ h9 => h9) rfl d_Or_gather_18 ?_
        refine zalen hx hb B 9 0 (wa_9 κ τ) rfl d_Or_gather_21 ?_
        refine lv_icmp_ge (tgt := 60) hx hb d_Or_gather_22 (by decide) (fun c_3 => ?_) (fun c_3 => ?_)
        · have c_3 := (nI_leI (a := nA κ) (b := o) (by omega) (by omega)).mp c_3
          exact absurd c_3 (by omega)
        · have c_3 := (not_congr (nI_leI (a := nA κ) (b := o) (by omega) (by omega))).mp c_3
          refine lv_aload_n hx hb d_Or_gather_25 rfl (lv_at hl 1 rfl) ?_
          refine lv_iload_n hx hb d_Or_gather_26 rfl (lv_at hl 2 rfl) ?_
          have hu_4 : k < nA κ := (by omega)
          refine zaald hx hb B 1 2 (wa_1 κ τ) rfl k rfl hu_4 (by omega) rfl d_Or_gather_27 ?_
          refine zcV_i (As := []) (rest := []) ⟨hx, hb, hml, hown, hts⟩ (c_Un_acts l κ τ k hu_4 ) (cwV 0 hts (zgoodV w_270 w_271 w_272 w_3 w_273) rfl rfl rfl (by decide +kernel) ⟨Nat.le_of_ble_eq_true rfl, Nat.le_of_ble_eq_true rfl⟩) B (zrecv B (ci := 0) rfl (wa_u κ τ hu_4)) rfl hl.1 rfl (Nat.le_of_ble_eq_true rfl) d_Or_gather_28 ⟨Nat.zero_le _, Nat.zero_le _⟩ (fun r σ' H locs hp B => ?_)
          obtain ⟨rfl, hp⟩ := hp
          rw [hp] at B
          have B : BA κ A s.heap s τ H locs := B
          refine lv_if_eq (tgt := 54) hx hb d_Or_gather_31 (by decide) (fun c_5 => ?_) (fun c_5 => ?_)
          · have c_5 := zb_eq0.mp c_5
            refine lv_iinc (v := nI (k + 1)) (lv' := [(2, .int (nI (k + 1))), (0, .ref (aA κ 8)), (1, .ref (aA κ 1))]) hx hb d_Or_gather_54 hl (k := 2) rfl (zinc _) (by decide) rfl (fun ls hl => ?_)
            refine lv_goto (tgt := 7) hx hb d_Or_gather_57 (by decide) ?_
            exact ih (k + 1) o τ (by omega) (by rw [hst]; simp [zit, fx_gather1, ho, tn_nI (show o < 2 ^ 31 by omega), nI_1, c_2, c_3, c_5]) ho _ _ B ls (lv_sub hl [1, 2, 0] rfl)
          · have c_5 := zb_ne0.mp c_5
            refine lv_aload_n hx hb d_Or_gather_34 rfl (lv_at hl 0 rfl) ?_
            refine va_get (D := κ.1) (ci := 2) (v := .ref (aA κ 9)) (C := "UnitThreads$Order") (T := T_Or) (N := 3) hx hb hts in_Or hown B.1 B.2.1 8 (wa_8 κ τ) rfl 0 (by decide) (hts _ w_102) (fun _ h9 => h9) rfl d_Or_gather_35 ?_
            refine lv_aload_n hx hb d_Or_gather_38 rfl (lv_at hl 0 rfl) ?_
            refine va_get (D := κ.1) (ci := 2) (v := .int (τ.1 14 0)) (C := "UnitThreads$Order") (T := T_Or) (N := 3) hx hb hts in_Or hown B.1 B.2.1 8 (wa_8 κ τ) rfl 1 (by decide) (hts _ w_104) (fun _ h9 => h9) rfl d_Or_gather_39 ?_
            refine zrwi (y := nI o) (ho) ?_
            refine lv_iload_n hx hb d_Or_gather_42 rfl (lv_at hl 2 rfl) ?_
            refine ziast hx hb B 9 0 (wa_9 κ τ) rfl o rfl (by omega) (by omega) (ws_9 κ τ o (nI k)) d_Or_gather_43 (fun H locs B => ?_)
            have B : BA κ A s.heap s (zi τ 13 o (nI k)) H locs := B
            refine lv_aload_n hx hb d_Or_gather_44 rfl (lv_at hl 0 rfl) ?_
            refine lv_dup hx hb d_Or_gather_45 rfl ?_
            refine va_get (D := κ.1) (ci := 2) (v := .int ((zi τ 13 o (nI k)).1 14 0)) (C := "UnitThreads$Order") (T := T_Or) (N := 3) hx hb hts in_Or hown B.1 B.2.1 8 (wa_8 κ (zi τ 13 o (nI k))) rfl 1 (by decide) (hts _ w_104) (fun _ h9 => h9) rfl d_Or_gather_46 ?_
            refine zrwi (y := τ.1 14 0) (by rw [zi_nf _ _ (by decide : 14 ≠ 13)]) ?_
            refine zrwi (y := nI o) (ho) ?_
            refine lv_iconst (v := 1) hx hb d_Or_gather_49 (by decide) ?_
            refine lv_iadd hx hb d_Or_gather_50 ?_
            refine zrwi (y := nI (o + 1)) (nI_1 _) ?_
            refine zput (ci := 2) (v := .int (nI (o + 1))) (ty := .int) (C := "UnitThreads$Order") (T := T_Or) (N := 3) hx hb hts in_Or ty_Or tyok_Or nm_Or hown B 8 (wa_8 κ (zi τ 13 o (nI k))) rfl 1 (by decide) (hts _ w_104) (fun _ h9 => h9) rfl (by decide +kernel) rfl rfl (Nat.le_of_ble_eq_true rfl) (wp_8_1 κ (zi τ 13 o (nI k)) (nI (o + 1))) d_Or_gather_51 (fun H locs B => ?_)
            have B : BA κ A s.heap s (zi (zi τ 13 o (nI k)) 14 0 (nI (o + 1))) H locs := B
            refine lv_iinc (v := nI (k + 1)) (lv' := [(2, .int (nI (k + 1))), (0, .ref (aA κ 8)), (1, .ref (aA κ 1))]) hx hb d_Or_gather_54 hl (k := 2) rfl (zinc _) (by decide) rfl (fun ls hl => ?_)
            refine lv_goto (tgt := 7) hx hb d_Or_gather_57 (by decide) ?_
            exact ih (k + 1) (o + 1) (zi (zi τ 13 o (nI k)) 14 0 (nI (o + 1))) (by omega) (by rw [hst]; simp [zit, fx_gather1, ho, tn_nI (show o < 2 ^ 31 by omega), nI_1, c_2, c_3, c_5]) (zi_eq _ _ _ _) _ _ B ls (lv_sub hl [1, 2, 0] rfl)
  refine lv_aload_n hx hb d_Or_gather_0 rfl (lv_at hl 0 rfl) ?_
  refine lv_iconst (v := 0) hx hb d_Or_gather_1 (by decide) ?_
  refine zput (ci := 2) (v := .int (0)) (ty := .int) (C := "UnitThreads$Order") (T := T_Or) (N := 3) hx hb hts in_Or ty_Or tyok_Or nm_Or hown B 8 (wa_8 κ σ) rfl 1 (by decide) (hts _ w_104) (fun _ h9 => h9) rfl (by decide +kernel) rfl rfl (Nat.le_of_ble_eq_true rfl) (wp_8_1 κ σ 0) d_Or_gather_2 (fun H locs B => ?_)
  have B : BA κ A s.heap s (zi σ 14 0 0) H locs := B
  refine lv_iconst (v := nI 0) hx hb d_Or_gather_5 (by decide) ?_
  refine lv_istore_n (lv' := [(2, .int (nI 0)), (0, .ref (aA κ 8)), (1, .ref (aA κ 1))]) hx hb d_Or_gather_6 rfl hl (by decide) rfl (fun ls hl => ?_)
  exact L_7 (nA κ) 0 0 (zi σ 14 0 0) (by omega) rfl rfl _ _ B ls (lv_sub hl [1, 2, 0] rfl)
end
section
/-! further functions of the class, and what they leave as it was -/
theorem fx_takes_in {n : Nat} {σ : zS} {u x : Int32} (h : fx_takes n σ u x = true) (hn : n ≤ 8) : u = nI (tn u) ∧ tn u < n := fx_isUnit_in (of_decide_eq_true h).1 hn
theorem fx_takes_lt {n E : Nat} {σ : zS} {u x : Int32} (h : fx_takes n σ u x = true) (hE : σ.1 12 0 = nI E) (hE3 : E ≤ 300) : E < 300 := by
  have h2 := (of_decide_eq_true h).2.2.2.2.2
  rw [hE] at h2
  rcases Nat.lt_or_ge E 300 with q | q
  · exact q
  · exact absurd (show (300 : Int32) ≤ nI E from nI_le (a := 300) q (by omega)) h2
def fx_stepB (n : Nat) (σ : zS) (a b c : Int32) : Bool := fx_takes n σ a b && fx_isOut a c
def fx_stepS (n E : Nat) (σ : zS) (a b c : Int32) (v : Int64) : zS := if fx_stepB n σ a b c = true then fx_tell σ E 0 (tn a) b c v else σ
def fx_asksB (n E : Nat) (σ : zS) (a b c : Int32) : Bool := fx_takes n σ a b && (fx_isWay c && decide (fx_find σ 1 a b c E 0 = -1))
def fx_asksS (n E : Nat) (σ : zS) (a b c : Int32) : zS := if fx_asksB n E σ a b c = true then fx_tell σ E 1 (tn a) b c 0 else σ
def fx_throwB (n E : Nat) (σ : zS) (a b : Int32) : Bool := fx_takes n σ a b && decide (fx_find σ 2 a b 0 E 0 = -1)
def fx_throwS (n E : Nat) (σ : zS) (a b : Int32) : zS := if fx_throwB n E σ a b = true then fx_tell σ E 2 (tn a) b 0 0 else σ
def fx_safeB (n : Nat) (σ : zS) (a : Int32) : Bool := fx_hasOut n a && decide (σ.1 23 0 = 0)
def fx_safeS (n : Nat) (σ : zS) (a : Int32) (v : Int64) : zS := if fx_safeB n σ a = true then zl σ 3 (tn a) v else σ
def fx_barB (σ : zS) (a b : Int32) : Bool := decide (fx_isWay a = true ∧ ¬ b < 0 ∧ ¬ 64 ≤ b ∧ σ.1 23 0 = 0 ∧ ¬ b < σ.1 21 0 ∧ fx_hasWay (σ.1 22 (tn b)) a = false)
def fx_barS (σ : zS) (a b : Int32) : zS := if fx_barB σ a b = true then zi σ 22 (tn b) (σ.1 22 (tn b) ||| ((1 : Int32) <<< (a &&& 31))) else σ
def fx_state (n : Nat) (σ : zS) (a : Int32) : Int32 := if fx_isUnit n a = true then fx_mode σ (tn a) else -1
def fx_restB (n : Nat) (σ : zS) (a : Int32) : Bool := fx_isUnit n a && decide (fx_mode σ (tn a) = 2)
def fx_restS (n : Nat) (σ : zS) (a : Int32) : zS := if fx_restB n σ a = true then zi σ 2 (tn a) 0 else σ
def fx_held (n : Nat) (σ : zS) (a : Int32) : Int32 := if fx_isUnit n a = true ∧ fx_mode σ (tn a) = 2 then σ.1 3 (tn a) else -1
def fx_count (n : Nat) (σ : zS) (a : Int32) : Int32 :=
  if a = 0 then σ.1 21 0 else if a = 1 then σ.1 18 0 else if a = 2 then σ.1 12 0 else if a = 3 then fx_acting σ n 0 0
  else if ¬ a < 4 ∧ fx_isUnit n (a - 4) = true then σ.1 0 (tn (a - 4)) else -1
def fx_closeN (σ : zS) : Nat → Nat → Int32 → Int32
  | 0, _, r => r
  | c + 1, k, r => fx_closeN σ c (k + 1) (if fx_mode σ k = 3 then r else r + 1)
def fx_closeR (n : Nat) (σ : zS) : Int32 := if σ.1 23 0 = 0 then fx_closeN σ n 0 0 else 0
def fx_closeS (n : Nat) (σ : zS) : zS := if σ.1 23 0 = 0 then zi (fx_shut n σ) 23 0 1 else σ
def fx_log1 (x : Int32) (i : Nat) (σ : zS) : zS := fx_turn σ (tn (σ.1 18 0)) x (σ.1 13 i) (σ.1 7 (tn (σ.1 13 i)))
def fx_S2 (n E : Nat) (σ : zS) : zS := fx_gather n (fx_brief n E σ)
def fx_N (n E : Nat) (σ : zS) : Nat := tn ((fx_S2 n E σ).1 14 0)
def fx_S4 (n E : Nat) (σ : zS) : zS := fx_takeTurns n (fx_N n E σ) (fx_draw (fx_N n E σ) (fx_S2 n E σ))
def fx_S5 (n E b : Nat) (σ : zS) : zS := fx_hold n (nI b) (fx_S4 n E σ)
def fx_S8 (n E b : Nat) (σ : zS) : zS := fx_keep n b (fx_settle n E (fx_grant n (σ.1 22 b) (fx_S5 n E b σ)))
def fx_pass (n E b : Nat) (σ : zS) : zS := zit (fx_log1 (nI b)) (fx_N n E σ) 0 (fx_S8 n E b σ)
def fx_play (n E : Nat) : Nat → Nat → Nat → zS → Nat × zS
  | 0, _, k, σ => (k, σ)
  | c + 1, b, k, σ => if ¬ 64 ≤ b ∧ ¬ fx_acting σ n 0 0 ≤ 0 then fx_play n E c (b + 1) (k + 1) (fx_pass n E b σ) else (k, σ)
-- what is left as it was
theorem fx_makeSafe_1 (σ : zS) (u : Nat) : (fx_makeSafe σ u).1 = σ.1 := funext fun g => zit_k1 (fun _ _ => rfl) 4 (u * 4) σ
theorem kp_brief {g : Nat} (h : g ∉ [4, 5, 6]) (n E : Nat) (σ : zS) : (fx_brief n E σ).1 g = σ.1 g := by
  simp only [List.mem_cons, List.not_mem_nil, or_false, not_or] at h
  refine (zit_k1 (fun k τ => ?_) _ _ _).trans (zit_k1 (fun k τ => ?_) _ _ _)
  · unfold fx_brief1
    split
    · exact zi_nf _ _ h.1
    · split
      · exact zi_nf _ _ h.2.1
      · split
        · exact zi_nf _ _ h.2.2
        · rfl
  · unfold fx_brief0
    rw [zi_nf _ _ h.2.2, zi_nf _ _ h.2.1, zi_nf _ _ h.1]
theorem kp_gather {g : Nat} (h : g ∉ [13, 14]) (n : Nat) (σ : zS) : (fx_gather n σ).1 g = σ.1 g := by
  simp only [List.mem_cons, List.not_mem_nil, or_false, not_or] at h
  refine (zit_k1 (fun k τ => ?_) _ _ _).trans (zi_nf _ _ h.2)
  unfold fx_gather1
  split
  · rw [zi_nf _ _ h.2, zi_nf _ _ h.1]
  · rfl
theorem kp_draw {g : Nat} (h : g ≠ 13) (N : Nat) (σ : zS) : (fx_draw N σ).1 g = σ.1 g :=
  zit_k1 (step := fx_draw1 N) (fun k τ => fx_move_k1 h _ _ _) N 0 σ
theorem kp_turns {g : Nat} (h : g ≠ 7) (n N : Nat) (σ : zS) : (fx_takeTurns n N σ).1 g = σ.1 g :=
  (zit_k1 (fun k τ => zi_nf _ _ h) _ _ _).trans (zit_k1 (fun k τ => zi_nf _ _ h) _ _ _)
theorem kp_hold {g : Nat} (h : g ∉ [8, 2, 3]) (n : Nat) (x : Int32) (σ : zS) : (fx_hold n x σ).1 g = σ.1 g := by
  simp only [List.mem_cons, List.not_mem_nil, or_false, not_or] at h
  refine zit_k1 (fun k τ => ?_) _ _ _
  unfold fx_hold1
  split
  · rw [fx_makeSafe_1, zi_nf _ _ h.2.2, zi_nf _ _ h.2.1, zi_nf _ _ h.1]
  · rfl
theorem kp_grant {g : Nat} (h : g ≠ 19) (n : Nat) (b : Int32) (σ : zS) : (fx_grant n b σ).1 g = σ.1 g := by
  unfold fx_grant
  refine zit_k1 (step := fx_grant1 n b) (fun k τ => ?_) 16 0 σ
  unfold fx_grant1
  split
  · exact zi_nf _ _ h
  · rfl
theorem kp_give {g : Nat} (h : g ≠ 19) (σ : zS) (u b : Int32) : (fx_giveBack σ u b).1 g = σ.1 g := by
  unfold fx_giveBack
  refine zit_k1 (step := fx_give1 u b) (fun k τ => ?_) 16 0 σ
  unfold fx_give1
  split
  · exact zi_nf _ _ h
  · rfl
theorem kp_steps (E : Nat) (σ : zS) : (fx_doSteps E σ).1 = σ.1 := funext fun g => zit_k1 (fun k τ => by unfold fx_steps1; split <;> rfl) _ _ _
theorem kp_set1 {g : Nat} (h : g ≠ 7) (c k : Nat) (σ : zS) : (zit fx_set1 c k σ).1 g = σ.1 g := by
  refine zit_k1 (fun k τ => ?_) _ _ _
  unfold fx_set1
  split
  · exact zi_nf _ _ h
  · rfl
theorem kp_set2 {g : Nat} (h : g ∉ [19, 0, 2]) (c k : Nat) (σ : zS) : (zit fx_set2 c k σ).1 g = σ.1 g := by
  simp only [List.mem_cons, List.not_mem_nil, or_false, not_or] at h
  refine zit_k1 (fun k τ => ?_) _ _ _
  unfold fx_set2
  split
  · rw [zi_nf _ _ h.2.2, zi_nf _ _ h.2.1, kp_give h.1]
  · split
    · exact zi_nf _ _ h.2.2
    · rfl
theorem kp_settle {g : Nat} (h : g ∉ [7, 19, 0, 2]) (n E : Nat) (σ : zS) : (fx_settle n E σ).1 g = σ.1 g := by
  simp only [List.mem_cons, List.not_mem_nil, or_false, not_or] at h
  refine (kp_set2 (by simp only [List.mem_cons, List.not_mem_nil, or_false, not_or]; exact h.2) _ _ _).trans ?_
  rw [kp_steps]
  exact kp_set1 h.1 _ _ _
theorem kp_keep {g : Nat} (h : g ∉ [20, 21]) (n b : Nat) (σ : zS) : (fx_keep n b σ).1 g = σ.1 g := by
  simp only [List.mem_cons, List.not_mem_nil, or_false, not_or] at h
  unfold fx_keep
  rw [zi_nf _ _ h.2]
  funext j
  exact if_neg h.1
theorem kp_log {g : Nat} (h : g ∉ [15, 16, 17, 18]) (x : Int32) (c k : Nat) (σ : zS) : (zit (fx_log1 x) c k σ).1 g = σ.1 g := by
  simp only [List.mem_cons, List.not_mem_nil, or_false, not_or] at h
  refine zit_k1 (fun k τ => ?_) _ _ _
  unfold fx_log1 fx_turn
  rw [zi_nf _ _ h.2.2.2, zi_nf _ _ h.2.2.1, zi_nf _ _ h.2.1, zi_nf _ _ h.1]
end
section
set_option maxHeartbeats 4000000 in
set_option maxRecDepth 100000 in
theorem c_Ut_modeOf (l : Launch) (κ : KA) (σ : zS) (u : Nat) (hu : u < nA κ) (hn : nA κ ≤ 8) : zMi l y_Ut_modeOf (zws y_Ut_modeOf prog_1_method_22_code 2 (some .int)) ({ frames := 1, cells := 0, slots := 0, locals := 20 }) κ.1 vwCl (tysA κ) nwA (wA κ) σ [.ref (aA κ 0), .int (nI u)] (fun r σ' => r = fx_mode σ u ∧ σ' = σ) := by
  refine zintro (cc := prog_1_method_22_code) (maxL := 2) (ret := (some .int)) (by decide) rfl (Nat.le_of_ble_eq_true rfl) ?_
  intro p e s m below meth c ls hx hb hr hml hts hown hlocks hl B
  have hl : lv_has ls 2 [(0, .ref (aA κ 0)), (1, .int (nI u))] := hl
  have B : BA κ (va_A (wA κ σ) s.heap.size) s.heap s σ s.heap [] := B
  have hr : meth.sig.returnType = (some .int) := hr
  have hown : s.vm.findClass "UnitThreads" = some m.cls := hown
  show W p l e (headSpec (zws y_Ut_modeOf prog_1_method_22_code 2 (some .int)) ({ frames := 1, cells := 0, slots := 0, locals := 20 })).room s m [.ref (aA κ 0), .int (nI u)].toArray below meth c s.heap [] 0 0 (MQ below (va_Qi (fun r σ' => r = fx_mode σ u ∧ σ' = σ) (zQ κ.1 vwCl (tysA κ) (wA κ) (va_A (wA κ σ) s.heap.size)) (va_A (wA κ σ) s.heap.size)) [.ref (aA κ 0), .int (nI u)].toArray s 0 0 (va_A (wA κ σ) s.heap.size)) (F0 m 0 ls [])
  generalize va_A (wA κ σ) s.heap.size = A at B ⊢
  have hts : ∀ w ∈ zW, w.before [.ref (aA κ 0), .int (nI u)].toArray s = true := fun w h => hts w (List.mem_cons_of_mem _ h)
  refine lv_aload_n hx hb d_Ut_modeOf_0 rfl (lv_at hl 0 rfl) ?_
  refine va_get (D := κ.1) (ci := 5) (v := .int (σ.1 23 0)) (C := "UnitThreads") (T := T_Ut) (N := 7) hx hb hts in_Ut hown B.1 B.2.1 0 (wa_0 κ σ) rfl 6 (by decide) (hts _ w_173) (fun _ h9 => h9) rfl d_Ut_modeOf_1 ?_
  refine lv_if_eq (tgt := 9) hx hb d_Ut_modeOf_4 (by decide) (fun c_1 => ?_) (fun c_1 => ?_)
  · refine lv_aload_n hx hb d_Ut_modeOf_9 rfl (lv_at hl 0 rfl) ?_
    refine va_get (D := κ.1) (ci := 5) (v := .ref (aA κ 1)) (C := "UnitThreads") (T := T_Ut) (N := 7) hx hb hts in_Ut hown B.1 B.2.1 0 (wa_0 κ σ) rfl 0 (by decide) (hts _ w_167) (fun _ h9 => h9) rfl d_Ut_modeOf_10 ?_
    refine lv_iload_n hx hb d_Ut_modeOf_13 rfl (lv_at hl 1 rfl) ?_
    have hu_2 : u < nA κ := (by omega)
    refine zaald hx hb B 1 2 (wa_1 κ σ) rfl u rfl hu_2 (by omega) rfl d_Ut_modeOf_14 ?_
    refine zcV_i (As := []) (rest := []) ⟨hx, hb, hml, hown, hts⟩ (c_Un_hasEnded l κ σ u hu_2 ) (cwV 0 hts (zgoodV w_254 w_255 w_256 w_3 w_257) rfl rfl rfl (by decide +kernel) ⟨Nat.le_of_ble_eq_true rfl, Nat.le_of_ble_eq_true rfl⟩) B (zrecv B (ci := 0) rfl (wa_u κ σ hu_2)) rfl hl.1 rfl (Nat.le_of_ble_eq_true rfl) d_Ut_modeOf_15 ⟨Nat.zero_le _, Nat.zero_le _⟩ (fun r σ' H locs hp B => ?_)
    obtain ⟨rfl, hp⟩ := hp
    rw [hp] at B
    have B : BA κ A s.heap s σ H locs := B
    refine lv_if_eq (tgt := 25) hx hb d_Ut_modeOf_18 (by decide) (fun c_3 => ?_) (fun c_3 => ?_)
    · have c_3 := zb_eq0.mp c_3
      refine lv_aload_n hx hb d_Ut_modeOf_25 rfl (lv_at hl 0 rfl) ?_
      refine va_get (D := κ.1) (ci := 5) (v := .ref (aA κ 1)) (C := "UnitThreads") (T := T_Ut) (N := 7) hx hb hts in_Ut hown B.1 B.2.1 0 (wa_0 κ σ) rfl 0 (by decide) (hts _ w_167) (fun _ h9 => h9) rfl d_Ut_modeOf_26 ?_
      refine lv_iload_n hx hb d_Ut_modeOf_29 rfl (lv_at hl 1 rfl) ?_
      have hu_4 : u < nA κ := (by omega)
      refine zaald hx hb B 1 2 (wa_1 κ σ) rfl u rfl hu_4 (by omega) rfl d_Ut_modeOf_30 ?_
      refine va_get (D := κ.1) (ci := 0) (v := .int (σ.1 2 u)) (C := "UnitThreads$Unit") (T := T_Un) (N := 8) hx hb hts in_Un hown B.1 B.2.1 (43 + u) (wa_u κ σ hu_4) rfl 2 (by decide) (hts _ w_38) (fun _ h9 => h9) rfl d_Ut_modeOf_31 ?_
      exact zret_i hx hb hr hlocks B (⟨by simp [zb, fx_mode, c_1, c_3], rfl⟩) d_Ut_modeOf_34
    · have c_3 := zb_ne0.mp c_3
      refine lv_iconst (v := 3) hx hb d_Ut_modeOf_21 (by decide) ?_
      refine lv_goto (tgt := 34) hx hb d_Ut_modeOf_22 (by decide) ?_
      exact zret_i hx hb hr hlocks B (⟨by simp [zb, fx_mode, c_1, c_3], rfl⟩) d_Ut_modeOf_34
  · refine lv_iconst (v := 4) hx hb d_Ut_modeOf_7 (by decide) ?_
    exact zret_i hx hb hr hlocks B (⟨by simp [zb, fx_mode, c_1], rfl⟩) d_Ut_modeOf_8
set_option maxHeartbeats 4000000 in
set_option maxRecDepth 100000 in
theorem c_Ut_acting (l : Launch) (κ : KA) (σ : zS) (hn : nA κ ≤ 8) : zMi l y_Ut_acting (zws y_Ut_acting prog_1_method_23_code 4 (some .int)) ({ frames := 2, cells := 0, slots := 0, locals := 41 }) κ.1 vwCl (tysA κ) nwA (wA κ) σ [.ref (aA κ 0)] (fun r σ' => r = fx_acting σ (nA κ) 0 0 ∧ σ' = σ) := by
  refine zintro (cc := prog_1_method_23_code) (maxL := 4) (ret := (some .int)) (by decide) rfl (Nat.le_of_ble_eq_true rfl) ?_
  intro p e s m below meth c ls hx hb hr hml hts hown hlocks hl B
  have hl : lv_has ls 4 [(0, .ref (aA κ 0))] := hl
  have B : BA κ (va_A (wA κ σ) s.heap.size) s.heap s σ s.heap [] := B
  have hr : meth.sig.returnType = (some .int) := hr
  have hown : s.vm.findClass "UnitThreads" = some m.cls := hown
  show W p l e (headSpec (zws y_Ut_acting prog_1_method_23_code 4 (some .int)) ({ frames := 2, cells := 0, slots := 0, locals := 41 })).room s m [.ref (aA κ 0)].toArray below meth c s.heap [] 0 0 (MQ below (va_Qi (fun r σ' => r = fx_acting σ (nA κ) 0 0 ∧ σ' = σ) (zQ κ.1 vwCl (tysA κ) (wA κ) (va_A (wA κ σ) s.heap.size)) (va_A (wA κ σ) s.heap.size)) [.ref (aA κ 0)].toArray s 0 0 (va_A (wA κ σ) s.heap.size)) (F0 m 0 ls [])
  generalize va_A (wA κ σ) s.heap.size = A at B ⊢
  have hts : ∀ w ∈ zW, w.before [.ref (aA κ 0)].toArray s = true := fun w h => hts w (List.mem_cons_of_mem _ h)
  have L_4 : ∀ (j : Nat) (k : Nat) (r : Int32), k + j = nA κ → (fx_acting σ (nA κ) 0 0 = fx_acting σ j k r) → ∀ (H : Heap) (locs : List Loc), BA κ A s.heap s σ H locs → ∀ (ls : Array Slot), lv_has ls 4 [(0, .ref (aA κ 0)), (1, .int (r)), (2, .int (nI k))] → W p l e (headSpec (zws y_Ut_acting prog_1_method_23_code 4 (some .int)) ({ frames := 2, cells := 0, slots := 0, locals := 41 })).room s m [.ref (aA κ 0)].toArray below meth c H locs 0 0 (MQ below (va_Qi (fun r σ' => r = fx_acting σ (nA κ) 0 0 ∧ σ' = σ) (zQ κ.1 vwCl (tysA κ) (wA κ) A) A) [.ref (aA κ 0)].toArray s 0 0 A) (F0 m 4 ls []) := by
    intro j
    induction j with
    | zero =>
      intro k r hj hst H locs B ls hl
      refine lv_iload_n hx hb d_Ut_acting_4 rfl (lv_at hl 2 rfl) ?_
      refine lv_aload_n hx hb d_Ut_acting_5 rfl (lv_at hl 0 rfl) ?_
      refine va_get (D := κ.1) (ci := 5) (v := .ref (aA κ 1)) (C := "UnitThreads") (T := T_Ut) (N := 7) hx hb hts in_Ut hown B.1 B.2.1 0 (wa_0 κ σ) rfl 0 (by decide) (hts _ w_167) (fun _ h9 => h9) rfl d_Ut_acting_6 ?_
      refine zalen hx hb B 1 2 (wa_1 κ σ) rfl d_Ut_acting_9 ?_
      refine lv_icmp_ge (tgt := 37) hx hb d_Ut_acting_10 (by decide) (fun c_1 => ?_) (fun c_1 => ?_)
      · have c_1 := (nI_leI (a := nA κ) (b := k) (by omega) (by omega)).mp c_1
        refine lv_iload_n hx hb d_Ut_acting_37 rfl (lv_at hl 1 rfl) ?_
        exact zret_i hx hb hr hlocks B (⟨hst.symm, rfl⟩) d_Ut_acting_38
      · have c_1 := (not_congr (nI_leI (a := nA κ) (b := k) (by omega) (by omega))).mp c_1
        exact absurd c_1 (by omega)
    | succ j ih =>
      intro k r hj hst H locs B ls hl
      refine lv_iload_n hx hb d_Ut_acting_4 rfl (lv_at hl 2 rfl) ?_
      refine lv_aload_n hx hb d_Ut_acting_5 rfl (lv_at hl 0 rfl) ?_
      refine va_get (D := κ.1) (ci := 5) (v := .ref (aA κ 1)) (C := "UnitThreads") (T := T_Ut) (N := 7) hx hb hts in_Ut hown B.1 B.2.1 0 (wa_0 κ σ) rfl 0 (by decide) (hts _ w_167) (fun _ h9 => h9) rfl d_Ut_acting_6 ?_
      refine zalen hx hb B 1 2 (wa_1 κ σ) rfl d_Ut_acting_9 ?_
      refine lv_icmp_ge (tgt := 37) hx hb d_Ut_acting_10 (by decide) (fun c_2 => ?_) (fun c_2 => ?_)
      · have c_2 := (nI_leI (a := nA κ) (b := k) (by omega) (by omega)).mp c_2
        exact absurd c_2 (by omega)
      · have c_2 := (not_congr (nI_leI (a := nA κ) (b := k) (by omega) (by omega))).mp c_2
        refine lv_aload_n hx hb d_Ut_acting_13 rfl (lv_at hl 0 rfl) ?_
        refine lv_iload_n hx hb d_Ut_acting_14 rfl (lv_at hl 2 rfl) ?_
        refine zcV_i (As := [.int (nI k)]) (rest := []) ⟨hx, hb, hml, hown, hts⟩ (c_Ut_modeOf l κ σ k (by omega) hn) (cwV 1 hts (zgoodV w_250 w_252 s_4 w_1 w_253) rfl rfl rfl (by decide +kernel) ⟨Nat.le_of_ble_eq_true rfl, Nat.le_of_ble_eq_true rfl⟩) B (zrecv B (ci := 5) rfl (wa_0 κ σ)) rfl hl.1 rfl (Nat.le_of_ble_eq_true rfl) d_Ut_acting_15 ⟨Nat.zero_le _, Nat.zero_le _⟩ (fun r σ' H locs hp B => ?_)
        obtain ⟨rfl, hp⟩ := hp
        rw [hp] at B
        have B : BA κ A s.heap s σ H locs := B
        refine lv_istore_n (lv' := [(3, .int (fx_mode σ k)), (0, .ref (aA κ 0)), (1, .int (r)), (2, .int (nI k))]) hx hb d_Ut_acting_18 rfl hl (by decide) rfl (fun ls hl => ?_)
        refine lv_iload_n hx hb d_Ut_acting_19 rfl (lv_at hl 0 rfl) ?_
        refine lv_if_eq (tgt := 28) hx hb d_Ut_acting_20 (by decide) (fun c_3 => ?_) (fun c_3 => ?_)
        · refine lv_iinc (v := r + 1) (lv' := [(1, .int (r + 1)), (3, .int (fx_mode σ k)), (0, .ref (aA κ 0)), (2, .int (nI k))]) hx hb d_Ut_acting_28 hl (k := 2) rfl (rfl) (by decide) rfl (fun ls hl => ?_)
          refine lv_iinc (v := nI (k + 1)) (lv' := [(2, .int (nI (k + 1))), (1, .int (r + 1)), (3, .int (fx_mode σ k)), (0, .ref (aA κ 0))]) hx hb d_Ut_acting_31 hl (k := 3) rfl (zinc _) (by decide) rfl (fun ls hl => ?_)
          refine lv_goto (tgt := 4) hx hb d_Ut_acting_34 (by decide) ?_
          exact ih (k + 1) (r + 1) (by omega) (by rw [hst]; simp [fx_acting, c_2, c_3]) _ _ B ls (lv_sub hl [3, 1, 0] rfl)
        · refine lv_iload_n hx hb d_Ut_acting_23 rfl (lv_at hl 0 rfl) ?_
          refine lv_iconst (v := 1) hx hb d_Ut_acting_24 (by decide) ?_
          refine lv_icmp_ne (tgt := 31) hx hb d_Ut_acting_25 (by decide) (fun c_4 => ?_) (fun c_4 => ?_)
          · refine lv_iinc (v := nI (k + 1)) (lv' := [(2, .int (nI (k + 1))), (3, .int (fx_mode σ k)), (0, .ref (aA κ 0)), (1, .int (r))]) hx hb d_Ut_acting_31 hl (k := 3) rfl (zinc _) (by decide) rfl (fun ls hl => ?_)
            refine lv_goto (tgt := 4) hx hb d_Ut_acting_34 (by decide) ?_
            exact ih (k + 1) r (by omega) (by rw [hst]; simp [fx_acting, c_2, c_3, c_4]) _ _ B ls (lv_sub hl [2, 3, 0] rfl)
          · refine lv_iinc (v := r + 1) (lv' := [(1, .int (r + 1)), (3, .int (fx_mode σ k)), (0, .ref (aA κ 0)), (2, .int (nI k))]) hx hb d_Ut_acting_28 hl (k := 2) rfl (rfl) (by decide) rfl (fun ls hl => ?_)
            refine lv_iinc (v := nI (k + 1)) (lv' := [(2, .int (nI (k + 1))), (1, .int (r + 1)), (3, .int (fx_mode σ k)), (0, .ref (aA κ 0))]) hx hb d_Ut_acting_31 hl (k := 3) rfl (zinc _) (by decide) rfl (fun ls hl => ?_)
            refine lv_goto (tgt := 4) hx hb d_Ut_acting_34 (by decide) ?_
            exact ih (k + 1) (r + 1) (by omega) (by rw [hst]; simp [fx_acting, c_2, c_3, c_4]) _ _ B ls (lv_sub hl [3, 1, 0] rfl)
  refine lv_iconst (v := 0) hx hb d_Ut_acting_0 (by decide) ?_
  refine lv_istore_n (lv' := [(1, .int (0)), (0, .ref (aA κ 0))]) hx hb d_Ut_acting_1 rfl hl (by decide) rfl (fun ls hl => ?_)
  refine lv_iconst (v := nI 0) hx hb d_Ut_acting_2 (by decide) ?_
  refine lv_istore_n (lv' := [(2, .int (nI 0)), (1, .int (0)), (0, .ref (aA κ 0))]) hx hb d_Ut_acting_3 rfl hl (by decide) rfl (fun ls hl => ?_)
  exact L_4 (nA κ) 0 0 (by omega) rfl _ _ B ls (lv_sub hl [2, 1, 0] rfl)
set_option maxHeartbeats 4000000 in
set_option maxRecDepth 100000 in
theorem c_Ut_takesEntry (l : Launch) (κ : KA) (σ : zS) (p1 p2 : Int32) (hn : nA κ ≤ 8) : zMi l y_Ut_takesEntry (zws y_Ut_takesEntry prog_1_method_20_code 3 (some .boolean)) ({ frames := 1, cells := 0, slots := 0, locals := 21 }) κ.1 vwCl (tysA κ) nwA (wA κ) σ [.ref (aA κ 0), .int (p1), .int (p2)] (fun r σ' => r = zb (fx_takes (nA κ) σ p1 p2) ∧ σ' = σ) := by
  refine zintro (cc := prog_1_method_20_code) (maxL := 3) (ret := (some .boolean)) (by decide) rfl (Nat.le_of_ble_eq_true rfl) ?_
  intro p e s m below meth c ls hx hb hr hml hts hown hlocks hl B
  have hl : lv_has ls 3 [(0, .ref (aA κ 0)), (1, .int (p1)), (2, .int (p2))] := hl
  have B : BA κ (va_A (wA κ σ) s.heap.size) s.heap s σ s.heap [] := B
  have hr : meth.sig.returnType = (some .boolean) := hr
  have hown : s.vm.findClass "UnitThreads" = some m.cls := hown
  show W p l e (headSpec (zws y_Ut_takesEntry prog_1_method_20_code 3 (some .boolean)) ({ frames := 1, cells := 0, slots := 0, locals := 21 })).room s m [.ref (aA κ 0), .int (p1), .int (p2)].toArray below meth c s.heap [] 0 0 (MQ below (va_Qi (fun r σ' => r = zb (fx_takes (nA κ) σ p1 p2) ∧ σ' = σ) (zQ κ.1 vwCl (tysA κ) (wA κ) (va_A (wA κ σ) s.heap.size)) (va_A (wA κ σ) s.heap.size)) [.ref (aA κ 0), .int (p1), .int (p2)].toArray s 0 0 (va_A (wA κ σ) s.heap.size)) (F0 m 0 ls [])
  generalize va_A (wA κ σ) s.heap.size = A at B ⊢
  have hts : ∀ w ∈ zW, w.before [.ref (aA κ 0), .int (p1), .int (p2)].toArray s = true := fun w h => hts w (List.mem_cons_of_mem _ h)
  refine lv_aload_n hx hb d_Ut_takesEntry_0 rfl (lv_at hl 0 rfl) ?_
  refine lv_iload_n hx hb d_Ut_takesEntry_1 rfl (lv_at hl 1 rfl) ?_
  refine zcV_i (As := [.int (p1)]) (rest := []) ⟨hx, hb, hml, hown, hts⟩ (c_Ut_isUnit l κ σ p1 ) (cwV 1 hts (zgoodV w_197 w_199 s_1 w_1 w_200) rfl rfl rfl (by decide +kernel) ⟨Nat.le_of_ble_eq_true rfl, Nat.le_of_ble_eq_true rfl⟩) B (zrecv B (ci := 5) rfl (wa_0 κ σ)) rfl hl.1 rfl (Nat.le_of_ble_eq_true rfl) d_Ut_takesEntry_2 ⟨Nat.zero_le _, Nat.zero_le _⟩ (fun r σ' H locs hp B => ?_)
  obtain ⟨rfl, hp⟩ := hp
  rw [hp] at B
  have B : BA κ A s.heap s σ H locs := B
  refine lv_if_eq (tgt := 56) hx hb d_Ut_takesEntry_5 (by decide) (fun c_1 => ?_) (fun c_1 => ?_)
  · have c_1 := zb_eq0.mp c_1
    refine lv_iconst (v := 0) hx hb d_Ut_takesEntry_56 (by decide) ?_
    exact zret_z hx hb hr rfl hlocks B (⟨by simp [zb, fx_takes, c_1], rfl⟩) d_Ut_takesEntry_57
  · have c_1 := zb_ne0.mp c_1
    refine lv_iload_n hx hb d_Ut_takesEntry_8 rfl (lv_at hl 2 rfl) ?_
    refine lv_if_lt (tgt := 56) hx hb d_Ut_takesEntry_9 (by decide) (fun c_2 => ?_) (fun c_2 => ?_)
    · refine lv_iconst (v := 0) hx hb d_Ut_takesEntry_56 (by decide) ?_
      exact zret_z hx hb hr rfl hlocks B (⟨by simp [zb, fx_takes, c_1, c_2], rfl⟩) d_Ut_takesEntry_57
    · refine lv_iload_n hx hb d_Ut_takesEntry_12 rfl (lv_at hl 2 rfl) ?_
      refine lv_sipush (v := 200) hx hb d_Ut_takesEntry_13 (by decide) ?_
      refine lv_icmp_gt (tgt := 56) hx hb d_Ut_takesEntry_16 (by decide) (fun c_3 => ?_) (fun c_3 => ?_)
      · refine lv_iconst (v := 0) hx hb d_Ut_takesEntry_56 (by decide) ?_
        exact zret_z hx hb hr rfl hlocks B (⟨by simp [zb, fx_takes, c_1, c_2, c_3], rfl⟩) d_Ut_takesEntry_57
      · refine lv_aload_n hx hb d_Ut_takesEntry_19 rfl (lv_at hl 0 rfl) ?_
        refine va_get (D := κ.1) (ci := 5) (v := .int (σ.1 23 0)) (C := "UnitThreads") (T := T_Ut) (N := 7) hx hb hts in_Ut hown B.1 B.2.1 0 (wa_0 κ σ) rfl 6 (by decide) (hts _ w_173) (fun _ h9 => h9) rfl d_Ut_takesEntry_20 ?_
        refine lv_if_ne (tgt := 56) hx hb d_Ut_takesEntry_23 (by decide) (fun c_4 => ?_) (fun c_4 => ?_)
        · refine lv_iconst (v := 0) hx hb d_Ut_takesEntry_56 (by decide) ?_
          exact zret_z hx hb hr rfl hlocks B (⟨by simp [zb, fx_takes, c_1, c_2, c_3, c_4], rfl⟩) d_Ut_takesEntry_57
        · refine lv_iload_n hx hb d_Ut_takesEntry_26 rfl (lv_at hl 2 rfl) ?_
          refine lv_aload_n hx hb d_Ut_takesEntry_27 rfl (lv_at hl 0 rfl) ?_
          refine va_get (D := κ.1) (ci := 5) (v := .ref (aA κ 1)) (C := "UnitThreads") (T := T_Ut) (N := 7) hx hb hts in_Ut hown B.1 B.2.1 0 (wa_0 κ σ) rfl 0 (by decide) (hts _ w_167) (fun _ h9 => h9) rfl d_Ut_takesEntry_28 ?_
          refine lv_iload_n hx hb d_Ut_takesEntry_31 rfl (lv_at hl 1 rfl) ?_
          have hu_5 : tn p1 < nA κ := (fx_isUnit_in c_1 hn).2
          refine zaald hx hb B 1 2 (wa_1 κ σ) rfl (tn p1) ((fx_isUnit_in c_1 hn).1) hu_5 (by omega) rfl d_Ut_takesEntry_32 ?_
          refine va_get (D := κ.1) (ci := 0) (v := .int (σ.1 0 (tn p1))) (C := "UnitThreads$Unit") (T := T_Un) (N := 8) hx hb hts in_Un hown B.1 B.2.1 (43 + (tn p1)) (wa_u κ σ hu_5) rfl 0 (by decide) (hts _ w_34) (fun _ h9 => h9) rfl d_Ut_takesEntry_33 ?_
          refine lv_icmp_lt (tgt := 56) hx hb d_Ut_takesEntry_36 (by decide) (fun c_6 => ?_) (fun c_6 => ?_)
          · refine lv_iconst (v := 0) hx hb d_Ut_takesEntry_56 (by decide) ?_
            exact zret_z hx hb hr rfl hlocks B (⟨by simp [zb, fx_takes, c_1, c_2, c_3, c_4, c_6], rfl⟩) d_Ut_takesEntry_57
          · refine lv_aload_n hx hb d_Ut_takesEntry_39 rfl (lv_at hl 0 rfl) ?_
            refine va_get (D := κ.1) (ci := 5) (v := .ref (aA κ 2)) (C := "UnitThreads") (T := T_Ut) (N := 7) hx hb hts in_Ut hown B.1 B.2.1 0 (wa_0 κ σ) rfl 1 (by decide) (hts _ w_168) (fun _ h9 => h9) rfl d_Ut_takesEntry_40 ?_
            refine va_get (D := κ.1) (ci := 1) (v := .int (σ.1 12 0)) (C := "UnitThreads$Entries") (T := T_En) (N := 6) hx hb hts in_En hown B.1 B.2.1 2 (wa_2 κ σ) rfl 5 (by decide) (hts _ w_80) (fun _ h9 => h9) rfl d_Ut_takesEntry_43 ?_
            refine lv_sipush (v := 300) hx hb d_Ut_takesEntry_46 (by decide) ?_
            refine lv_icmp_ge (tgt := 56) hx hb d_Ut_takesEntry_49 (by decide) (fun c_7 => ?_) (fun c_7 => ?_)
            · refine lv_iconst (v := 0) hx hb d_Ut_takesEntry_56 (by decide) ?_
              exact zret_z hx hb hr rfl hlocks B (⟨by simp [zb, fx_takes, c_1, c_2, c_3, c_4, c_6, c_7], rfl⟩) d_Ut_takesEntry_57
            · refine lv_iconst (v := 1) hx hb d_Ut_takesEntry_52 (by decide) ?_
              refine lv_goto (tgt := 57) hx hb d_Ut_takesEntry_53 (by decide) ?_
              exact zret_z hx hb hr rfl hlocks B (⟨by simp [zb, fx_takes, c_1, c_2, c_3, c_4, c_6, c_7], rfl⟩) d_Ut_takesEntry_57
set_option maxHeartbeats 4000000 in
set_option maxRecDepth 100000 in
theorem c_Ut_tell (l : Launch) (κ : KA) (σ : zS) (p1 : Int32) (u : Nat) (hu : u < nA κ) (p3 p4 : Int32) (v : Int64) (hn : nA κ ≤ 8) (E : Nat) (hE : σ.1 12 0 = nI E) (hlt : E < 300) : zMv l y_Ut_tell (zws y_Ut_tell prog_1_method_21_code 7 none) ({ frames := 1, cells := 0, slots := 0, locals := 26 }) κ.1 vwCl (tysA κ) nwA (wA κ) σ [.ref (aA κ 0), .int (p1), .int (nI u), .int (p3), .int (p4), .long (v)] (fun σ' => σ' = fx_tell σ E p1 u p3 p4 v) := by
  refine zintro (cc := prog_1_method_21_code) (maxL := 7) (ret := none) (by decide) rfl (Nat.le_of_ble_eq_true rfl) ?_
  intro p e s m below meth c ls hx hb hr hml hts hown hlocks hl B
  have hl : lv_has ls 7 [(0, .ref (aA κ 0)), (1, .int (p1)), (2, .int (nI u)), (3, .int (p3)), (4, .int (p4)), (5, .long (v))] := hl
  have B : BA κ (va_A (wA κ σ) s.heap.size) s.heap s σ s.heap [] := B
  have hr : meth.sig.returnType = none := hr
  have hown : s.vm.findClass "UnitThreads" = some m.cls := hown
  show W p l e (headSpec (zws y_Ut_tell prog_1_method_21_code 7 none) ({ frames := 1, cells := 0, slots := 0, locals := 26 })).room s m [.ref (aA κ 0), .int (p1), .int (nI u), .int (p3), .int (p4), .long (v)].toArray below meth c s.heap [] 0 0 (MQ below (va_Qv (fun σ' => σ' = fx_tell σ E p1 u p3 p4 v) (zQ κ.1 vwCl (tysA κ) (wA κ) (va_A (wA κ σ) s.heap.size)) (va_A (wA κ σ) s.heap.size)) [.ref (aA κ 0), .int (p1), .int (nI u), .int (p3), .int (p4), .long (v)].toArray s 0 0 (va_A (wA κ σ) s.heap.size)) (F0 m 0 ls [])
  generalize va_A (wA κ σ) s.heap.size = A at B ⊢
  have hts : ∀ w ∈ zW, w.before [.ref (aA κ 0), .int (p1), .int (nI u), .int (p3), .int (p4), .long (v)].toArray s = true := fun w h => hts w (List.mem_cons_of_mem _ h)
  refine lv_aload_n hx hb d_Ut_tell_0 rfl (lv_at hl 0 rfl) ?_
  refine va_get (D := κ.1) (ci := 5) (v := .ref (aA κ 2)) (C := "UnitThreads") (T := T_Ut) (N := 7) hx hb hts in_Ut hown B.1 B.2.1 0 (wa_0 κ σ) rfl 1 (by decide) (hts _ w_168) (fun _ h9 => h9) rfl d_Ut_tell_1 ?_
  refine lv_iload_n hx hb d_Ut_tell_4 rfl (lv_at hl 1 rfl) ?_
  refine lv_iload_n hx hb d_Ut_tell_5 rfl (lv_at hl 2 rfl) ?_
  refine lv_iload_n hx hb d_Ut_tell_6 rfl (lv_at hl 3 rfl) ?_
  refine lv_iload hx hb d_Ut_tell_7 (lv_at hl 4 rfl) ?_
  refine lv_lload hx hb d_Ut_tell_9 (lv_at hl 5 rfl) ?_
  refine zcV_v (As := [.int (p1), .int (nI u), .int (p3), .int (p4), .long (v)]) (rest := []) ⟨hx, hb, hml, hown, hts⟩ (c_En_add l κ σ p1 (nI u) p3 p4 v E hE hlt) (cwV 5 hts (zgoodV w_208 w_209 w_210 w_4 w_211) rfl rfl rfl (by decide +kernel) ⟨Nat.le_of_ble_eq_true rfl, Nat.le_of_ble_eq_true rfl⟩) B (zrecv B (ci := 1) rfl (wa_2 κ σ)) rfl hl.1 rfl (Nat.le_of_ble_eq_true rfl) d_Ut_tell_11 ⟨Nat.zero_le _, Nat.zero_le _⟩ (fun σ' H locs hp B => ?_)
  rw [hp] at B
  have B : BA κ A s.heap s (fx_add σ E p1 (nI u) p3 p4 v) H locs := B
  refine lv_aload_n hx hb d_Ut_tell_14 rfl (lv_at hl 0 rfl) ?_
  refine va_get (D := κ.1) (ci := 5) (v := .ref (aA κ 1)) (C := "UnitThreads") (T := T_Ut) (N := 7) hx hb hts in_Ut hown B.1 B.2.1 0 (wa_0 κ (fx_add σ E p1 (nI u) p3 p4 v)) rfl 0 (by decide) (hts _ w_167) (fun _ h9 => h9) rfl d_Ut_tell_15 ?_
  refine lv_iload_n hx hb d_Ut_tell_18 rfl (lv_at hl 2 rfl) ?_
  have hu_1 : u < nA κ := (by omega)
  refine zaald hx hb B 1 2 (wa_1 κ (fx_add σ E p1 (nI u) p3 p4 v)) rfl u rfl hu_1 (by omega) rfl d_Ut_tell_19 ?_
  refine lv_aload_n hx hb d_Ut_tell_20 rfl (lv_at hl 0 rfl) ?_
  refine va_get (D := κ.1) (ci := 5) (v := .ref (aA κ 1)) (C := "UnitThreads") (T := T_Ut) (N := 7) hx hb hts in_Ut hown B.1 B.2.1 0 (wa_0 κ (fx_add σ E p1 (nI u) p3 p4 v)) rfl 0 (by decide) (hts _ w_167) (fun _ h9 => h9) rfl d_Ut_tell_21 ?_
  refine lv_iload_n hx hb d_Ut_tell_24 rfl (lv_at hl 2 rfl) ?_
  have hu_2 : u < nA κ := (by omega)
  refine zaald hx hb B 1 2 (wa_1 κ (fx_add σ E p1 (nI u) p3 p4 v)) rfl u rfl hu_2 (by omega) rfl d_Ut_tell_25 ?_
  refine va_get (D := κ.1) (ci := 0) (v := .int ((fx_add σ E p1 (nI u) p3 p4 v).1 1 u)) (C := "UnitThreads$Unit") (T := T_Un) (N := 8) hx hb hts in_Un hown B.1 B.2.1 (43 + u) (wa_u κ (fx_add σ E p1 (nI u) p3 p4 v) hu_2) rfl 1 (by decide) (hts _ w_36) (fun _ h9 => h9) rfl d_Ut_tell_26 ?_
  refine zrwi (y := σ.1 1 u) (rfl) ?_
  refine lv_iload_n hx hb d_Ut_tell_29 rfl (lv_at hl 3 rfl) ?_
  refine va_mmax hx hb (hml.trans hl.1.symm) hown (hts _ w_22) (hts _ w_23) (hts _ w_2) (hts _ w_24) (Nat.le_of_ble_eq_true rfl) (Nat.le_of_ble_eq_true rfl) (Nat.zero_le _) (Nat.zero_le _) d_Ut_tell_30 ?_
  refine zput (ci := 0) (v := .int (if σ.1 1 u < p3 then p3 else σ.1 1 u)) (ty := .int) (C := "UnitThreads$Unit") (T := T_Un) (N := 8) hx hb hts in_Un ty_Un tyok_Un nm_Un hown B (43 + u) (wa_u κ (fx_add σ E p1 (nI u) p3 p4 v) hu_1) rfl 1 (by decide) (hts _ w_36) (fun _ h9 => h9) rfl (by decide +kernel) rfl rfl (Nat.le_of_ble_eq_true rfl) (wq_1 κ (fx_add σ E p1 (nI u) p3 p4 v) hu_1 (if σ.1 1 u < p3 then p3 else σ.1 1 u)) d_Ut_tell_33 (fun H locs B => ?_)
  have B : BA κ A s.heap s (zi (fx_add σ E p1 (nI u) p3 p4 v) 1 u (if σ.1 1 u < p3 then p3 else σ.1 1 u)) H locs := B
  exact zret_v hx hb hr hlocks B (rfl) d_Ut_tell_36
set_option maxHeartbeats 4000000 in
set_option maxRecDepth 100000 in
theorem c_Ut_step (l : Launch) (κ : KA) (σ : zS) (p1 p2 p3 : Int32) (v : Int64) (hn : nA κ ≤ 8) (E : Nat) (hE : σ.1 12 0 = nI E) (hE3 : E ≤ 300) : zMi l y_Ut_step (zws y_Ut_step prog_1_method_2_code 6 (some .boolean)) ({ frames := 2, cells := 0, slots := 0, locals := 52 }) κ.1 vwCl (tysA κ) nwA (wA κ) σ [.ref (aA κ 0), .int (p1), .int (p2), .int (p3), .long (v)] (fun r σ' => r = zb (fx_stepB (nA κ) σ p1 p2 p3) ∧ σ' = fx_stepS (nA κ) E σ p1 p2 p3 v) := by
  refine zintro (cc := prog_1_method_2_code) (maxL := 6) (ret := (some .boolean)) (by decide) rfl (Nat.le_of_ble_eq_true rfl) ?_
  intro p e s m below meth c ls hx hb hr hml hts hown hlocks hl B
  have hl : lv_has ls 6 [(0, .ref (aA κ 0)), (1, .int (p1)), (2, .int (p2)), (3, .int (p3)), (4, .long (v))] := hl
  have B : BA κ (va_A (wA κ σ) s.heap.size) s.heap s σ s.heap [] := B
  have hr : meth.sig.returnType = (some .boolean) := hr
  have hown : s.vm.findClass "UnitThreads" = some m.cls := hown
  show W p l e (headSpec (zws y_Ut_step prog_1_method_2_code 6 (some .boolean)) ({ frames := 2, cells := 0, slots := 0, locals := 52 })).room s m [.ref (aA κ 0), .int (p1), .int (p2), .int (p3), .long (v)].toArray below meth c s.heap [] 0 0 (MQ below (va_Qi (fun r σ' => r = zb (fx_stepB (nA κ) σ p1 p2 p3) ∧ σ' = fx_stepS (nA κ) E σ p1 p2 p3 v) (zQ κ.1 vwCl (tysA κ) (wA κ) (va_A (wA κ σ) s.heap.size)) (va_A (wA κ σ) s.heap.size)) [.ref (aA κ 0), .int (p1), .int (p2), .int (p3), .long (v)].toArray s 0 0 (va_A (wA κ σ) s.heap.size)) (F0 m 0 ls [])
  generalize va_A (wA κ σ) s.heap.size = A at B ⊢
  have hts : ∀ w ∈ zW, w.before [.ref (aA κ 0), .int (p1), .int (p2), .int (p3), .long (v)].toArray s = true := fun w h => hts w (List.mem_cons_of_mem _ h)
  refine lv_aload_n hx hb d_Ut_step_0 rfl (lv_at hl 0 rfl) ?_
  refine lv_iload_n hx hb d_Ut_step_1 rfl (lv_at hl 1 rfl) ?_
  refine lv_iload_n hx hb d_Ut_step_2 rfl (lv_at hl 2 rfl) ?_
  refine zcV_i (As := [.int (p1), .int (p2)]) (rest := []) ⟨hx, hb, hml, hown, hts⟩ (c_Ut_takesEntry l κ σ p1 p2 hn) (cwV 2 hts (zgoodV w_193 w_195 s_0 w_1 w_196) rfl rfl rfl (by decide +kernel) ⟨Nat.le_of_ble_eq_true rfl, Nat.le_of_ble_eq_true rfl⟩) B (zrecv B (ci := 5) rfl (wa_0 κ σ)) rfl hl.1 rfl (Nat.le_of_ble_eq_true rfl) d_Ut_step_3 ⟨Nat.zero_le _, Nat.zero_le _⟩ (fun r σ' H locs hp B => ?_)
  obtain ⟨rfl, hp⟩ := hp
  rw [hp] at B
  have B : BA κ A s.heap s σ H locs := B
  refine lv_if_eq (tgt := 17) hx hb d_Ut_step_6 (by decide) (fun c_1 => ?_) (fun c_1 => ?_)
  · have c_1 := zb_eq0.mp c_1
    refine lv_iconst (v := 0) hx hb d_Ut_step_17 (by decide) ?_
    exact zret_z hx hb hr rfl hlocks B (⟨by simp [zb, fx_stepS, fx_stepB, c_1], by simp [zb, fx_stepS, fx_stepB, c_1]⟩) d_Ut_step_18
  · have c_1 := zb_ne0.mp c_1
    refine lv_iload_n hx hb d_Ut_step_9 rfl (lv_at hl 1 rfl) ?_
    refine lv_iload_n hx hb d_Ut_step_10 rfl (lv_at hl 3 rfl) ?_
    refine zcS_i (As := [.int (p1), .int (p3)]) (rest := []) ⟨hx, hb, hml, hown, hts⟩ (c_Ut_isOutputOf l κ σ p1 p3 ) (cwS 2 hts (zgoodS w_201 w_202 w_1 w_203) rfl rfl rfl (by decide +kernel) ⟨Nat.le_of_ble_eq_true rfl, Nat.le_of_ble_eq_true rfl⟩) B rfl hl.1 rfl (Nat.le_of_ble_eq_true rfl) d_Ut_step_11 ⟨Nat.zero_le _, Nat.zero_le _⟩ (fun r σ' H locs hp B => ?_)
    obtain ⟨rfl, hp⟩ := hp
    rw [hp] at B
    have B : BA κ A s.heap s σ H locs := B
    refine lv_if_ne (tgt := 19) hx hb d_Ut_step_14 (by decide) (fun c_2 => ?_) (fun c_2 => ?_)
    · have c_2 := zb_ne0.mp c_2
      refine lv_aload_n hx hb d_Ut_step_19 rfl (lv_at hl 0 rfl) ?_
      refine lv_iconst (v := 0) hx hb d_Ut_step_20 (by decide) ?_
      refine lv_iload_n hx hb d_Ut_step_21 rfl (lv_at hl 1 rfl) ?_
      refine zrwi (y := nI (tn p1)) ((fx_takes_in c_1 hn).1) ?_
      refine lv_iload_n hx hb d_Ut_step_22 rfl (lv_at hl 2 rfl) ?_
      refine lv_iload_n hx hb d_Ut_step_23 rfl (lv_at hl 3 rfl) ?_
      refine lv_lload hx hb d_Ut_step_24 (lv_at hl 4 rfl) ?_
      refine zcV_v (As := [.int (0), .int (nI (tn p1)), .int (p2), .int (p3), .long (v)]) (rest := []) ⟨hx, hb, hml, hown, hts⟩ (c_Ut_tell l κ σ 0 (tn p1) (fx_takes_in c_1 hn).2 p2 p3 v hn E hE (fx_takes_lt c_1 hE hE3)) (cwV 5 hts (zgoodV w_204 w_206 s_2 w_1 w_207) rfl rfl rfl (by decide +kernel) ⟨Nat.le_of_ble_eq_true rfl, Nat.le_of_ble_eq_true rfl⟩) B (zrecv B (ci := 5) rfl (wa_0 κ σ)) rfl hl.1 rfl (Nat.le_of_ble_eq_true rfl) d_Ut_step_26 ⟨Nat.zero_le _, Nat.zero_le _⟩ (fun σ' H locs hp B => ?_)
      rw [hp] at B
      have B : BA κ A s.heap s (fx_tell σ E 0 (tn p1) p2 p3 v) H locs := B
      refine lv_iconst (v := 1) hx hb d_Ut_step_29 (by decide) ?_
      exact zret_z hx hb hr rfl hlocks B (⟨by simp [zb, fx_stepS, fx_stepB, c_1, c_2], by simp [zb, fx_stepS, fx_stepB, c_1, c_2]⟩) d_Ut_step_30
    · have c_2 := zb_eq0.mp c_2
      refine lv_iconst (v := 0) hx hb d_Ut_step_17 (by decide) ?_
      exact zret_z hx hb hr rfl hlocks B (⟨by simp [zb, fx_stepS, fx_stepB, c_1, c_2], by simp [zb, fx_stepS, fx_stepB, c_1, c_2]⟩) d_Ut_step_18
set_option maxHeartbeats 4000000 in
set_option maxRecDepth 100000 in
theorem c_Ut_asks (l : Launch) (κ : KA) (σ : zS) (p1 p2 p3 : Int32) (hn : nA κ ≤ 8) (E : Nat) (hE : σ.1 12 0 = nI E) (hE3 : E ≤ 300) : zMi l y_Ut_asks (zws y_Ut_asks prog_1_method_3_code 4 (some .boolean)) ({ frames := 2, cells := 0, slots := 0, locals := 52 }) κ.1 vwCl (tysA κ) nwA (wA κ) σ [.ref (aA κ 0), .int (p1), .int (p2), .int (p3)] (fun r σ' => r = zb (fx_asksB (nA κ) E σ p1 p2 p3) ∧ σ' = fx_asksS (nA κ) E σ p1 p2 p3) := by
  refine zintro (cc := prog_1_method_3_code) (maxL := 4) (ret := (some .boolean)) (by decide) rfl (Nat.le_of_ble_eq_true rfl) ?_
  intro p e s m below meth c ls hx hb hr hml hts hown hlocks hl B
  have hl : lv_has ls 4 [(0, .ref (aA κ 0)), (1, .int (p1)), (2, .int (p2)), (3, .int (p3))] := hl
  have B : BA κ (va_A (wA κ σ) s.heap.size) s.heap s σ s.heap [] := B
  have hr : meth.sig.returnType = (some .boolean) := hr
  have hown : s.vm.findClass "UnitThreads" = some m.cls := hown
  show W p l e (headSpec (zws y_Ut_asks prog_1_method_3_code 4 (some .boolean)) ({ frames := 2, cells := 0, slots := 0, locals := 52 })).room s m [.ref (aA κ 0), .int (p1), .int (p2), .int (p3)].toArray below meth c s.heap [] 0 0 (MQ below (va_Qi (fun r σ' => r = zb (fx_asksB (nA κ) E σ p1 p2 p3) ∧ σ' = fx_asksS (nA κ) E σ p1 p2 p3) (zQ κ.1 vwCl (tysA κ) (wA κ) (va_A (wA κ σ) s.heap.size)) (va_A (wA κ σ) s.heap.size)) [.ref (aA κ 0), .int (p1), .int (p2), .int (p3)].toArray s 0 0 (va_A (wA κ σ) s.heap.size)) (F0 m 0 ls [])
  generalize va_A (wA κ σ) s.heap.size = A at B ⊢
  have hts : ∀ w ∈ zW, w.before [.ref (aA κ 0), .int (p1), .int (p2), .int (p3)].toArray s = true := fun w h => hts w (List.mem_cons_of_mem _ h)
  refine lv_aload_n hx hb d_Ut_asks_0 rfl (lv_at hl 0 rfl) ?_
  refine lv_iload_n hx hb d_Ut_asks_1 rfl (lv_at hl 1 rfl) ?_
  refine lv_iload_n hx hb d_Ut_asks_2 rfl (lv_at hl 2 rfl) ?_
  refine zcV_i (As := [.int (p1), .int (p2)]) (rest := []) ⟨hx, hb, hml, hown, hts⟩ (c_Ut_takesEntry l κ σ p1 p2 hn) (cwV 2 hts (zgoodV w_193 w_195 s_0 w_1 w_196) rfl rfl rfl (by decide +kernel) ⟨Nat.le_of_ble_eq_true rfl, Nat.le_of_ble_eq_true rfl⟩) B (zrecv B (ci := 5) rfl (wa_0 κ σ)) rfl hl.1 rfl (Nat.le_of_ble_eq_true rfl) d_Ut_asks_3 ⟨Nat.zero_le _, Nat.zero_le _⟩ (fun r σ' H locs hp B => ?_)
  obtain ⟨rfl, hp⟩ := hp
  rw [hp] at B
  have B : BA κ A s.heap s σ H locs := B
  refine lv_if_eq (tgt := 31) hx hb d_Ut_asks_6 (by decide) (fun c_1 => ?_) (fun c_1 => ?_)
  · have c_1 := zb_eq0.mp c_1
    refine lv_iconst (v := 0) hx hb d_Ut_asks_31 (by decide) ?_
    exact zret_z hx hb hr rfl hlocks B (⟨by simp [zb, fx_asksS, fx_asksB, c_1], by simp [zb, fx_asksS, fx_asksB, c_1]⟩) d_Ut_asks_32
  · have c_1 := zb_ne0.mp c_1
    refine lv_iload_n hx hb d_Ut_asks_9 rfl (lv_at hl 3 rfl) ?_
    refine zcS_i (As := [.int (p3)]) (rest := []) ⟨hx, hb, hml, hown, hts⟩ (c_Ut_isWay l κ σ p3 ) (cwS 1 hts (zgoodS w_216 w_217 w_1 w_218) rfl rfl rfl (by decide +kernel) ⟨Nat.le_of_ble_eq_true rfl, Nat.le_of_ble_eq_true rfl⟩) B rfl hl.1 rfl (Nat.le_of_ble_eq_true rfl) d_Ut_asks_10 ⟨Nat.zero_le _, Nat.zero_le _⟩ (fun r σ' H locs hp B => ?_)
    obtain ⟨rfl, hp⟩ := hp
    rw [hp] at B
    have B : BA κ A s.heap s σ H locs := B
    refine lv_if_eq (tgt := 31) hx hb d_Ut_asks_13 (by decide) (fun c_2 => ?_) (fun c_2 => ?_)
    · have c_2 := zb_eq0.mp c_2
      refine lv_iconst (v := 0) hx hb d_Ut_asks_31 (by decide) ?_
      exact zret_z hx hb hr rfl hlocks B (⟨by simp [zb, fx_asksS, fx_asksB, c_1, c_2], by simp [zb, fx_asksS, fx_asksB, c_1, c_2]⟩) d_Ut_asks_32
    · have c_2 := zb_ne0.mp c_2
      refine lv_aload_n hx hb d_Ut_asks_16 rfl (lv_at hl 0 rfl) ?_
      refine va_get (D := κ.1) (ci := 5) (v := .ref (aA κ 2)) (C := "UnitThreads") (T := T_Ut) (N := 7) hx hb hts in_Ut hown B.1 B.2.1 0 (wa_0 κ σ) rfl 1 (by decide) (hts _ w_168) (fun _ h9 => h9) rfl d_Ut_asks_17 ?_
      refine lv_iconst (v := 1) hx hb d_Ut_asks_20 (by decide) ?_
      refine lv_iload_n hx hb d_Ut_asks_21 rfl (lv_at hl 1 rfl) ?_
      refine lv_iload_n hx hb d_Ut_asks_22 rfl (lv_at hl 2 rfl) ?_
      refine lv_iload_n hx hb d_Ut_asks_23 rfl (lv_at hl 3 rfl) ?_
      refine zcV_i (As := [.int (1), .int (p1), .int (p2), .int (p3)]) (rest := []) ⟨hx, hb, hml, hown, hts⟩ (c_En_find l κ σ 1 p1 p2 p3 E hE hE3) (cwV 4 hts (zgoodV w_219 w_220 w_221 w_4 w_222) rfl rfl rfl (by decide +kernel) ⟨Nat.le_of_ble_eq_true rfl, Nat.le_of_ble_eq_true rfl⟩) B (zrecv B (ci := 1) rfl (wa_2 κ σ)) rfl hl.1 rfl (Nat.le_of_ble_eq_true rfl) d_Ut_asks_24 ⟨Nat.zero_le _, Nat.zero_le _⟩ (fun r σ' H locs hp B => ?_)
      obtain ⟨rfl, hp⟩ := hp
      rw [hp] at B
      have B : BA κ A s.heap s σ H locs := B
      refine lv_iconst (v := (-1)) hx hb d_Ut_asks_27 (by decide) ?_
      refine lv_icmp_eq (tgt := 33) hx hb d_Ut_asks_28 (by decide) (fun c_3 => ?_) (fun c_3 => ?_)
      · refine lv_aload_n hx hb d_Ut_asks_33 rfl (lv_at hl 0 rfl) ?_
        refine lv_iconst (v := 1) hx hb d_Ut_asks_34 (by decide) ?_
        refine lv_iload_n hx hb d_Ut_asks_35 rfl (lv_at hl 1 rfl) ?_
        refine zrwi (y := nI (tn p1)) ((fx_takes_in c_1 hn).1) ?_
        refine lv_iload_n hx hb d_Ut_asks_36 rfl (lv_at hl 2 rfl) ?_
        refine lv_iload_n hx hb d_Ut_asks_37 rfl (lv_at hl 3 rfl) ?_
        refine lv_lconst (v := 0) hx hb d_Ut_asks_38 (by decide) ?_
        refine zcV_v (As := [.int (1), .int (nI (tn p1)), .int (p2), .int (p3), .long (0)]) (rest := []) ⟨hx, hb, hml, hown, hts⟩ (c_Ut_tell l κ σ 1 (tn p1) (fx_takes_in c_1 hn).2 p2 p3 0 hn E hE (fx_takes_lt c_1 hE hE3)) (cwV 5 hts (zgoodV w_204 w_206 s_2 w_1 w_207) rfl rfl rfl (by decide +kernel) ⟨Nat.le_of_ble_eq_true rfl, Nat.le_of_ble_eq_true rfl⟩) B (zrecv B (ci := 5) rfl (wa_0 κ σ)) rfl hl.1 rfl (Nat.le_of_ble_eq_true rfl) d_Ut_asks_39 ⟨Nat.zero_le _, Nat.zero_le _⟩ (fun σ' H locs hp B => ?_)
        rw [hp] at B
        have B : BA κ A s.heap s (fx_tell σ E 1 (tn p1) p2 p3 0) H locs := B
        refine lv_iconst (v := 1) hx hb d_Ut_asks_42 (by decide) ?_
        exact zret_z hx hb hr rfl hlocks B (⟨by simp [zb, fx_asksS, fx_asksB, c_1, c_2, c_3], by simp [zb, fx_asksS, fx_asksB, c_1, c_2, c_3]⟩) d_Ut_asks_43
      · refine lv_iconst (v := 0) hx hb d_Ut_asks_31 (by decide) ?_
        exact zret_z hx hb hr rfl hlocks B (⟨by simp [zb, fx_asksS, fx_asksB, c_1, c_2, c_3], by simp [zb, fx_asksS, fx_asksB, c_1, c_2, c_3]⟩) d_Ut_asks_32
set_option maxHeartbeats 4000000 in
set_option maxRecDepth 100000 in
theorem c_Ut_throwsAt (l : Launch) (κ : KA) (σ : zS) (p1 p2 : Int32) (hn : nA κ ≤ 8) (E : Nat) (hE : σ.1 12 0 = nI E) (hE3 : E ≤ 300) : zMi l y_Ut_throwsAt (zws y_Ut_throwsAt prog_1_method_4_code 3 (some .boolean)) ({ frames := 2, cells := 0, slots := 0, locals := 52 }) κ.1 vwCl (tysA κ) nwA (wA κ) σ [.ref (aA κ 0), .int (p1), .int (p2)] (fun r σ' => r = zb (fx_throwB (nA κ) E σ p1 p2) ∧ σ' = fx_throwS (nA κ) E σ p1 p2) := by
  refine zintro (cc := prog_1_method_4_code) (maxL := 3) (ret := (some .boolean)) (by decide) rfl (Nat.le_of_ble_eq_true rfl) ?_
  intro p e s m below meth c ls hx hb hr hml hts hown hlocks hl B
  have hl : lv_has ls 3 [(0, .ref (aA κ 0)), (1, .int (p1)), (2, .int (p2))] := hl
  have B : BA κ (va_A (wA κ σ) s.heap.size) s.heap s σ s.heap [] := B
  have hr : meth.sig.returnType = (some .boolean) := hr
  have hown : s.vm.findClass "UnitThreads" = some m.cls := hown
  show W p l e (headSpec (zws y_Ut_throwsAt prog_1_method_4_code 3 (some .boolean)) ({ frames := 2, cells := 0, slots := 0, locals := 52 })).room s m [.ref (aA κ 0), .int (p1), .int (p2)].toArray below meth c s.heap [] 0 0 (MQ below (va_Qi (fun r σ' => r = zb (fx_throwB (nA κ) E σ p1 p2) ∧ σ' = fx_throwS (nA κ) E σ p1 p2) (zQ κ.1 vwCl (tysA κ) (wA κ) (va_A (wA κ σ) s.heap.size)) (va_A (wA κ σ) s.heap.size)) [.ref (aA κ 0), .int (p1), .int (p2)].toArray s 0 0 (va_A (wA κ σ) s.heap.size)) (F0 m 0 ls [])
  generalize va_A (wA κ σ) s.heap.size = A at B ⊢
  have hts : ∀ w ∈ zW, w.before [.ref (aA κ 0), .int (p1), .int (p2)].toArray s = true := fun w h => hts w (List.mem_cons_of_mem _ h)
  refine lv_aload_n hx hb d_Ut_throwsAt_0 rfl (lv_at hl 0 rfl) ?_
  refine lv_iload_n hx hb d_Ut_throwsAt_1 rfl (lv_at hl 1 rfl) ?_
  refine lv_iload_n hx hb d_Ut_throwsAt_2 rfl (lv_at hl 2 rfl) ?_
  refine zcV_i (As := [.int (p1), .int (p2)]) (rest := []) ⟨hx, hb, hml, hown, hts⟩ (c_Ut_takesEntry l κ σ p1 p2 hn) (cwV 2 hts (zgoodV w_193 w_195 s_0 w_1 w_196) rfl rfl rfl (by decide +kernel) ⟨Nat.le_of_ble_eq_true rfl, Nat.le_of_ble_eq_true rfl⟩) B (zrecv B (ci := 5) rfl (wa_0 κ σ)) rfl hl.1 rfl (Nat.le_of_ble_eq_true rfl) d_Ut_throwsAt_3 ⟨Nat.zero_le _, Nat.zero_le _⟩ (fun r σ' H locs hp B => ?_)
  obtain ⟨rfl, hp⟩ := hp
  rw [hp] at B
  have B : BA κ A s.heap s σ H locs := B
  refine lv_if_eq (tgt := 24) hx hb d_Ut_throwsAt_6 (by decide) (fun c_1 => ?_) (fun c_1 => ?_)
  · have c_1 := zb_eq0.mp c_1
    refine lv_iconst (v := 0) hx hb d_Ut_throwsAt_24 (by decide) ?_
    exact zret_z hx hb hr rfl hlocks B (⟨by simp [zb, fx_throwS, fx_throwB, c_1], by simp [zb, fx_throwS, fx_throwB, c_1]⟩) d_Ut_throwsAt_25
  · have c_1 := zb_ne0.mp c_1
    refine lv_aload_n hx hb d_Ut_throwsAt_9 rfl (lv_at hl 0 rfl) ?_
    refine va_get (D := κ.1) (ci := 5) (v := .ref (aA κ 2)) (C := "UnitThreads") (T := T_Ut) (N := 7) hx hb hts in_Ut hown B.1 B.2.1 0 (wa_0 κ σ) rfl 1 (by decide) (hts _ w_168) (fun _ h9 => h9) rfl d_Ut_throwsAt_10 ?_
    refine lv_iconst (v := 2) hx hb d_Ut_throwsAt_13 (by decide) ?_
    refine lv_iload_n hx hb d_Ut_throwsAt_14 rfl (lv_at hl 1 rfl) ?_
    refine lv_iload_n hx hb d_Ut_throwsAt_15 rfl (lv_at hl 2 rfl) ?_
    refine lv_iconst (v := 0) hx hb d_Ut_throwsAt_16 (by decide) ?_
    refine zcV_i (As := [.int (2), .int (p1), .int (p2), .int (0)]) (rest := []) ⟨hx, hb, hml, hown, hts⟩ (c_En_find l κ σ 2 p1 p2 0 E hE hE3) (cwV 4 hts (zgoodV w_219 w_220 w_221 w_4 w_222) rfl rfl rfl (by decide +kernel) ⟨Nat.le_of_ble_eq_true rfl, Nat.le_of_ble_eq_true rfl⟩) B (zrecv B (ci := 1) rfl (wa_2 κ σ)) rfl hl.1 rfl (Nat.le_of_ble_eq_true rfl) d_Ut_throwsAt_17 ⟨Nat.zero_le _, Nat.zero_le _⟩ (fun r σ' H locs hp B => ?_)
    obtain ⟨rfl, hp⟩ := hp
    rw [hp] at B
    have B : BA κ A s.heap s σ H locs := B
    refine lv_iconst (v := (-1)) hx hb d_Ut_throwsAt_20 (by decide) ?_
    refine lv_icmp_eq (tgt := 26) hx hb d_Ut_throwsAt_21 (by decide) (fun c_2 => ?_) (fun c_2 => ?_)
    · refine lv_aload_n hx hb d_Ut_throwsAt_26 rfl (lv_at hl 0 rfl) ?_
      refine lv_iconst (v := 2) hx hb d_Ut_throwsAt_27 (by decide) ?_
      refine lv_iload_n hx hb d_Ut_throwsAt_28 rfl (lv_at hl 1 rfl) ?_
      refine zrwi (y := nI (tn p1)) ((fx_takes_in c_1 hn).1) ?_
      refine lv_iload_n hx hb d_Ut_throwsAt_29 rfl (lv_at hl 2 rfl) ?_
      refine lv_iconst (v := 0) hx hb d_Ut_throwsAt_30 (by decide) ?_
      refine lv_lconst (v := 0) hx hb d_Ut_throwsAt_31 (by decide) ?_
      refine zcV_v (As := [.int (2), .int (nI (tn p1)), .int (p2), .int (0), .long (0)]) (rest := []) ⟨hx, hb, hml, hown, hts⟩ (c_Ut_tell l κ σ 2 (tn p1) (fx_takes_in c_1 hn).2 p2 0 0 hn E hE (fx_takes_lt c_1 hE hE3)) (cwV 5 hts (zgoodV w_204 w_206 s_2 w_1 w_207) rfl rfl rfl (by decide +kernel) ⟨Nat.le_of_ble_eq_true rfl, Nat.le_of_ble_eq_true rfl⟩) B (zrecv B (ci := 5) rfl (wa_0 κ σ)) rfl hl.1 rfl (Nat.le_of_ble_eq_true rfl) d_Ut_throwsAt_32 ⟨Nat.zero_le _, Nat.zero_le _⟩ (fun σ' H locs hp B => ?_)
      rw [hp] at B
      have B : BA κ A s.heap s (fx_tell σ E 2 (tn p1) p2 0 0) H locs := B
      refine lv_iconst (v := 1) hx hb d_Ut_throwsAt_35 (by decide) ?_
      exact zret_z hx hb hr rfl hlocks B (⟨by simp [zb, fx_throwS, fx_throwB, c_1, c_2], by simp [zb, fx_throwS, fx_throwB, c_1, c_2]⟩) d_Ut_throwsAt_36
    · refine lv_iconst (v := 0) hx hb d_Ut_throwsAt_24 (by decide) ?_
      exact zret_z hx hb hr rfl hlocks B (⟨by simp [zb, fx_throwS, fx_throwB, c_1, c_2], by simp [zb, fx_throwS, fx_throwB, c_1, c_2]⟩) d_Ut_throwsAt_25
set_option maxHeartbeats 4000000 in
set_option maxRecDepth 100000 in
theorem c_Ut_safe (l : Launch) (κ : KA) (σ : zS) (p1 : Int32) (v : Int64) (hn : nA κ ≤ 8) : zMi l y_Ut_safe (zws y_Ut_safe prog_1_method_5_code 4 (some .boolean)) ({ frames := 1, cells := 0, slots := 0, locals := 21 }) κ.1 vwCl (tysA κ) nwA (wA κ) σ [.ref (aA κ 0), .int (p1), .long (v)] (fun r σ' => r = zb (fx_safeB (nA κ) σ p1) ∧ σ' = fx_safeS (nA κ) σ p1 v) := by
  refine zintro (cc := prog_1_method_5_code) (maxL := 4) (ret := (some .boolean)) (by decide) rfl (Nat.le_of_ble_eq_true rfl) ?_
  intro p e s m below meth c ls hx hb hr hml hts hown hlocks hl B
  have hl : lv_has ls 4 [(0, .ref (aA κ 0)), (1, .int (p1)), (2, .long (v))] := hl
  have B : BA κ (va_A (wA κ σ) s.heap.size) s.heap s σ s.heap [] := B
  have hr : meth.sig.returnType = (some .boolean) := hr
  have hown : s.vm.findClass "UnitThreads" = some m.cls := hown
  show W p l e (headSpec (zws y_Ut_safe prog_1_method_5_code 4 (some .boolean)) ({ frames := 1, cells := 0, slots := 0, locals := 21 })).room s m [.ref (aA κ 0), .int (p1), .long (v)].toArray below meth c s.heap [] 0 0 (MQ below (va_Qi (fun r σ' => r = zb (fx_safeB (nA κ) σ p1) ∧ σ' = fx_safeS (nA κ) σ p1 v) (zQ κ.1 vwCl (tysA κ) (wA κ) (va_A (wA κ σ) s.heap.size)) (va_A (wA κ σ) s.heap.size)) [.ref (aA κ 0), .int (p1), .long (v)].toArray s 0 0 (va_A (wA κ σ) s.heap.size)) (F0 m 0 ls [])
  generalize va_A (wA κ σ) s.heap.size = A at B ⊢
  have hts : ∀ w ∈ zW, w.before [.ref (aA κ 0), .int (p1), .long (v)].toArray s = true := fun w h => hts w (List.mem_cons_of_mem _ h)
  refine lv_aload_n hx hb d_Ut_safe_0 rfl (lv_at hl 0 rfl) ?_
  refine va_get (D := κ.1) (ci := 5) (v := .ref (aA κ 14)) (C := "UnitThreads") (T := T_Ut) (N := 7) hx hb hts in_Ut hown B.1 B.2.1 0 (wa_0 κ σ) rfl 4 (by decide) (hts _ w_171) (fun _ h9 => h9) rfl d_Ut_safe_1 ?_
  refine lv_iload_n hx hb d_Ut_safe_4 rfl (lv_at hl 1 rfl) ?_
  refine zcV_i (As := [.int (p1)]) (rest := []) ⟨hx, hb, hml, hown, hts⟩ (c_Bo_hasOutput l κ σ p1 ) (cwV 1 hts (zgoodV w_231 w_232 w_233 w_7 w_234) rfl rfl rfl (by decide +kernel) ⟨Nat.le_of_ble_eq_true rfl, Nat.le_of_ble_eq_true rfl⟩) B (zrecv B (ci := 4) rfl (wa_14 κ σ)) rfl hl.1 rfl (Nat.le_of_ble_eq_true rfl) d_Ut_safe_5 ⟨Nat.zero_le _, Nat.zero_le _⟩ (fun r σ' H locs hp B => ?_)
  obtain ⟨rfl, hp⟩ := hp
  rw [hp] at B
  have B : BA κ A s.heap s σ H locs := B
  refine lv_if_eq (tgt := 18) hx hb d_Ut_safe_8 (by decide) (fun c_1 => ?_) (fun c_1 => ?_)
  · have c_1 := zb_eq0.mp c_1
    refine lv_iconst (v := 0) hx hb d_Ut_safe_18 (by decide) ?_
    exact zret_z hx hb hr rfl hlocks B (⟨by simp [zb, fx_safeS, fx_safeB, c_1], by simp [zb, fx_safeS, fx_safeB, c_1]⟩) d_Ut_safe_19
  · have c_1 := zb_ne0.mp c_1
    refine lv_aload_n hx hb d_Ut_safe_11 rfl (lv_at hl 0 rfl) ?_
    refine va_get (D := κ.1) (ci := 5) (v := .int (σ.1 23 0)) (C := "UnitThreads") (T := T_Ut) (N := 7) hx hb hts in_Ut hown B.1 B.2.1 0 (wa_0 κ σ) rfl 6 (by decide) (hts _ w_173) (fun _ h9 => h9) rfl d_Ut_safe_12 ?_
    refine lv_if_eq (tgt := 20) hx hb d_Ut_safe_15 (by decide) (fun c_2 => ?_) (fun c_2 => ?_)
    · refine lv_aload_n hx hb d_Ut_safe_20 rfl (lv_at hl 0 rfl) ?_
      refine va_get (D := κ.1) (ci := 5) (v := .ref (aA κ 14)) (C := "UnitThreads") (T := T_Ut) (N := 7) hx hb hts in_Ut hown B.1 B.2.1 0 (wa_0 κ σ) rfl 4 (by decide) (hts _ w_171) (fun _ h9 => h9) rfl d_Ut_safe_21 ?_
      refine va_get (D := κ.1) (ci := 4) (v := .ref (aA κ 16)) (C := "UnitThreads$Board") (T := T_Bo) (N := 6) hx hb hts in_Bo hown B.1 B.2.1 14 (wa_14 κ σ) rfl 1 (by decide) (hts _ w_147) (fun _ h9 => h9) rfl d_Ut_safe_24 ?_
      refine lv_iload_n hx hb d_Ut_safe_27 rfl (lv_at hl 1 rfl) ?_
      refine lv_lload_n hx hb d_Ut_safe_28 rfl (lv_at hl 2 rfl) ?_
      refine zlast hx hb B 16 1 (wa_16 κ σ) rfl (tn p1) ((fx_hasOut_in c_1 hn).1) ((fx_hasOut_in c_1 hn).2) (by omega) (ws_16 κ σ (tn p1) v) d_Ut_safe_29 (fun H locs B => ?_)
      have B : BA κ A s.heap s (zl σ 3 (tn p1) v) H locs := B
      refine lv_iconst (v := 1) hx hb d_Ut_safe_30 (by decide) ?_
      exact zret_z hx hb hr rfl hlocks B (⟨by simp [zb, fx_safeS, fx_safeB, c_1, c_2], by simp [zb, fx_safeS, fx_safeB, c_1, c_2]⟩) d_Ut_safe_31
    · refine lv_iconst (v := 0) hx hb d_Ut_safe_18 (by decide) ?_
      exact zret_z hx hb hr rfl hlocks B (⟨by simp [zb, fx_safeS, fx_safeB, c_1, c_2], by simp [zb, fx_safeS, fx_safeB, c_1, c_2]⟩) d_Ut_safe_19
set_option maxHeartbeats 4000000 in
set_option maxRecDepth 100000 in
theorem c_Ut_bar (l : Launch) (κ : KA) (σ : zS) (p1 p2 : Int32) : zMi l y_Ut_bar (zws y_Ut_bar prog_1_method_6_code 3 (some .boolean)) ({ frames := 1, cells := 0, slots := 0, locals := 21 }) κ.1 vwCl (tysA κ) nwA (wA κ) σ [.ref (aA κ 0), .int (p1), .int (p2)] (fun r σ' => r = zb (fx_barB σ p1 p2) ∧ σ' = fx_barS σ p1 p2) := by
  refine zintro (cc := prog_1_method_6_code) (maxL := 3) (ret := (some .boolean)) (by decide) rfl (Nat.le_of_ble_eq_true rfl) ?_
  intro p e s m below meth c ls hx hb hr hml hts hown hlocks hl B
  have hl : lv_has ls 3 [(0, .ref (aA κ 0)), (1, .int (p1)), (2, .int (p2))] := hl
  have B : BA κ (va_A (wA κ σ) s.heap.size) s.heap s σ s.heap [] := B
  have hr : meth.sig.returnType = (some .boolean) := hr
  have hown : s.vm.findClass "UnitThreads" = some m.cls := hown
  show W p l e (headSpec (zws y_Ut_bar prog_1_method_6_code 3 (some .boolean)) ({ frames := 1, cells := 0, slots := 0, locals := 21 })).room s m [.ref (aA κ 0), .int (p1), .int (p2)].toArray below meth c s.heap [] 0 0 (MQ below (va_Qi (fun r σ' => r = zb (fx_barB σ p1 p2) ∧ σ' = fx_barS σ p1 p2) (zQ κ.1 vwCl (tysA κ) (wA κ) (va_A (wA κ σ) s.heap.size)) (va_A (wA κ σ) s.heap.size)) [.ref (aA κ 0), .int (p1), .int (p2)].toArray s 0 0 (va_A (wA κ σ) s.heap.size)) (F0 m 0 ls [])
  generalize va_A (wA κ σ) s.heap.size = A at B ⊢
  have hts : ∀ w ∈ zW, w.before [.ref (aA κ 0), .int (p1), .int (p2)].toArray s = true := fun w h => hts w (List.mem_cons_of_mem _ h)
  refine lv_iload_n hx hb d_Ut_bar_0 rfl (lv_at hl 1 rfl) ?_
  refine zcS_i (As := [.int (p1)]) (rest := []) ⟨hx, hb, hml, hown, hts⟩ (c_Ut_isWay l κ σ p1 ) (cwS 1 hts (zgoodS w_216 w_217 w_1 w_218) rfl rfl rfl (by decide +kernel) ⟨Nat.le_of_ble_eq_true rfl, Nat.le_of_ble_eq_true rfl⟩) B rfl hl.1 rfl (Nat.le_of_ble_eq_true rfl) d_Ut_bar_1 ⟨Nat.zero_le _, Nat.zero_le _⟩ (fun r σ' H locs hp B => ?_)
  obtain ⟨rfl, hp⟩ := hp
  rw [hp] at B
  have B : BA κ A s.heap s σ H locs := B
  refine lv_if_eq (tgt := 24) hx hb d_Ut_bar_4 (by decide) (fun c_1 => ?_) (fun c_1 => ?_)
  · have c_1 := zb_eq0.mp c_1
    refine lv_iconst (v := 0) hx hb d_Ut_bar_24 (by decide) ?_
    exact zret_z hx hb hr rfl hlocks B (⟨by simp [zb, fx_barS, fx_barB, c_1], by simp [zb, fx_barS, fx_barB, c_1]⟩) d_Ut_bar_25
  · have c_1 := zb_ne0.mp c_1
    refine lv_iload_n hx hb d_Ut_bar_7 rfl (lv_at hl 2 rfl) ?_
    refine lv_if_lt (tgt := 24) hx hb d_Ut_bar_8 (by decide) (fun c_2 => ?_) (fun c_2 => ?_)
    · refine lv_iconst (v := 0) hx hb d_Ut_bar_24 (by decide) ?_
      exact zret_z hx hb hr rfl hlocks B (⟨by simp [zb, fx_barS, fx_barB, c_1, c_2], by simp [zb, fx_barS, fx_barB, c_1, c_2]⟩) d_Ut_bar_25
    · refine lv_iload_n hx hb d_Ut_bar_11 rfl (lv_at hl 2 rfl) ?_
      refine lv_bipush (v := 64) hx hb d_Ut_bar_12 (by decide) ?_
      refine lv_icmp_ge (tgt := 24) hx hb d_Ut_bar_14 (by decide) (fun c_3 => ?_) (fun c_3 => ?_)
      · refine lv_iconst (v := 0) hx hb d_Ut_bar_24 (by decide) ?_
        exact zret_z hx hb hr rfl hlocks B (⟨by simp [zb, fx_barS, fx_barB, c_1, c_2, c_3], by simp [zb, fx_barS, fx_barB, c_1, c_2, c_3]⟩) d_Ut_bar_25
      · refine lv_aload_n hx hb d_Ut_bar_17 rfl (lv_at hl 0 rfl) ?_
        refine va_get (D := κ.1) (ci := 5) (v := .int (σ.1 23 0)) (C := "UnitThreads") (T := T_Ut) (N := 7) hx hb hts in_Ut hown B.1 B.2.1 0 (wa_0 κ σ) rfl 6 (by decide) (hts _ w_173) (fun _ h9 => h9) rfl d_Ut_bar_18 ?_
        refine lv_if_eq (tgt := 26) hx hb d_Ut_bar_21 (by decide) (fun c_4 => ?_) (fun c_4 => ?_)
        · refine lv_iload_n hx hb d_Ut_bar_26 rfl (lv_at hl 2 rfl) ?_
          refine lv_aload_n hx hb d_Ut_bar_27 rfl (lv_at hl 0 rfl) ?_
          refine va_get (D := κ.1) (ci := 5) (v := .ref (aA κ 14)) (C := "UnitThreads") (T := T_Ut) (N := 7) hx hb hts in_Ut hown B.1 B.2.1 0 (wa_0 κ σ) rfl 4 (by decide) (hts _ w_171) (fun _ h9 => h9) rfl d_Ut_bar_28 ?_
          refine va_get (D := κ.1) (ci := 4) (v := .int (σ.1 21 0)) (C := "UnitThreads$Board") (T := T_Bo) (N := 6) hx hb hts in_Bo hown B.1 B.2.1 14 (wa_14 κ σ) rfl 5 (by decide) (hts _ w_153) (fun _ h9 => h9) rfl d_Ut_bar_31 ?_
          refine lv_icmp_lt (tgt := 50) hx hb d_Ut_bar_34 (by decide) (fun c_5 => ?_) (fun c_5 => ?_)
          · refine lv_iconst (v := 0) hx hb d_Ut_bar_50 (by decide) ?_
            exact zret_z hx hb hr rfl hlocks B (⟨by simp [zb, fx_barS, fx_barB, c_1, c_2, c_3, c_4, c_5], by simp [zb, fx_barS, fx_barB, c_1, c_2, c_3, c_4, c_5]⟩) d_Ut_bar_51
          · refine lv_aload_n hx hb d_Ut_bar_37 rfl (lv_at hl 0 rfl) ?_
            refine va_get (D := κ.1) (ci := 5) (v := .ref (aA κ 20)) (C := "UnitThreads") (T := T_Ut) (N := 7) hx hb hts in_Ut hown B.1 B.2.1 0 (wa_0 κ σ) rfl 5 (by decide) (hts _ w_172) (fun _ h9 => h9) rfl d_Ut_bar_38 ?_
            refine lv_iload_n hx hb d_Ut_bar_41 rfl (lv_at hl 2 rfl) ?_
            refine ziald hx hb B 20 0 (wa_20 κ σ) rfl (tn p2) (zix c_2) (zixlt (n := 64) c_2 c_3 (by omega)) (by decide) d_Ut_bar_42 ?_
            refine lv_iload_n hx hb d_Ut_bar_43 rfl (lv_at hl 1 rfl) ?_
            refine zcS_i (As := [.int (σ.1 22 (tn p2)), .int (p1)]) (rest := []) ⟨hx, hb, hml, hown, hts⟩ (c_Ut_hasWay l κ σ (σ.1 22 (tn p2)) p1 ) (cwS 2 hts (zgoodS w_239 w_240 w_1 w_241) rfl rfl rfl (by decide +kernel) ⟨Nat.le_of_ble_eq_true rfl, Nat.le_of_ble_eq_true rfl⟩) B rfl hl.1 rfl (Nat.le_of_ble_eq_true rfl) d_Ut_bar_44 ⟨Nat.zero_le _, Nat.zero_le _⟩ (fun r σ' H locs hp B => ?_)
            obtain ⟨rfl, hp⟩ := hp
            rw [hp] at B
            have B : BA κ A s.heap s σ H locs := B
            refine lv_if_eq (tgt := 52) hx hb d_Ut_bar_47 (by decide) (fun c_6 => ?_) (fun c_6 => ?_)
            · have c_6 := zb_eq0.mp c_6
              refine lv_aload_n hx hb d_Ut_bar_52 rfl (lv_at hl 0 rfl) ?_
              refine va_get (D := κ.1) (ci := 5) (v := .ref (aA κ 20)) (C := "UnitThreads") (T := T_Ut) (N := 7) hx hb hts in_Ut hown B.1 B.2.1 0 (wa_0 κ σ) rfl 5 (by decide) (hts _ w_172) (fun _ h9 => h9) rfl d_Ut_bar_53 ?_
              refine lv_iload_n hx hb d_Ut_bar_56 rfl (lv_at hl 2 rfl) ?_
              refine lv_dup2_11 hx hb d_Ut_bar_57 rfl rfl ?_
              refine ziald hx hb B 20 0 (wa_20 κ σ) rfl (tn p2) (zix c_2) (zixlt (n := 64) c_2 c_3 (by omega)) (by decide) d_Ut_bar_58 ?_
              refine lv_iconst (v := 1) hx hb d_Ut_bar_59 (by decide) ?_
              refine lv_iload_n hx hb d_Ut_bar_60 rfl (lv_at hl 1 rfl) ?_
              refine lv_ishl hx hb d_Ut_bar_61 ?_
              refine lv_ior hx hb d_Ut_bar_62 ?_
              refine ziast hx hb B 20 0 (wa_20 κ σ) rfl (tn p2) (zix c_2) (zixlt (n := 64) c_2 c_3 (by omega)) (by decide) (ws_20 κ σ (tn p2) ((σ.1 22 (tn p2)) ||| (1 <<< (p1 &&& 31)))) d_Ut_bar_63 (fun H locs B => ?_)
              have B : BA κ A s.heap s (zi σ 22 (tn p2) ((σ.1 22 (tn p2)) ||| (1 <<< (p1 &&& 31)))) H locs := B
              refine lv_iconst (v := 1) hx hb d_Ut_bar_64 (by decide) ?_
              exact zret_z hx hb hr rfl hlocks B (⟨by simp [zb, fx_barS, fx_barB, c_1, c_2, c_3, c_4, c_5, c_6], by simp [zb, fx_barS, fx_barB, c_1, c_2, c_3, c_4, c_5, c_6]⟩) d_Ut_bar_65
            · have c_6 := zb_ne0.mp c_6
              refine lv_iconst (v := 0) hx hb d_Ut_bar_50 (by decide) ?_
              exact zret_z hx hb hr rfl hlocks B (⟨by simp [zb, fx_barS, fx_barB, c_1, c_2, c_3, c_4, c_5, c_6], by simp [zb, fx_barS, fx_barB, c_1, c_2, c_3, c_4, c_5, c_6]⟩) d_Ut_bar_51
        · refine lv_iconst (v := 0) hx hb d_Ut_bar_24 (by decide) ?_
          exact zret_z hx hb hr rfl hlocks B (⟨by simp [zb, fx_barS, fx_barB, c_1, c_2, c_3, c_4], by simp [zb, fx_barS, fx_barB, c_1, c_2, c_3, c_4]⟩) d_Ut_bar_25
set_option maxHeartbeats 4000000 in
set_option maxRecDepth 100000 in
theorem c_Ut_output (l : Launch) (κ : KA) (σ : zS) (p1 p2 : Int32) (hn : nA κ ≤ 8) (b : Nat) (hbs : σ.1 21 0 = nI b) (hb64 : b ≤ 64) : zMl l y_Ut_output (zws y_Ut_output prog_1_method_8_code 3 (some .long)) ({ frames := 2, cells := 0, slots := 0, locals := 43 }) κ.1 vwCl (tysA κ) nwA (wA κ) σ [.ref (aA κ 0), .int (p1), .int (p2)] (fun r σ' => r = fx_valueAt (nA κ) σ p1 p2 ∧ σ' = σ) := by
  refine zintro (cc := prog_1_method_8_code) (maxL := 3) (ret := (some .long)) (by decide) rfl (Nat.le_of_ble_eq_true rfl) ?_
  intro p e s m below meth c ls hx hb hr hml hts hown hlocks hl B
  have hl : lv_has ls 3 [(0, .ref (aA κ 0)), (1, .int (p1)), (2, .int (p2))] := hl
  have B : BA κ (va_A (wA κ σ) s.heap.size) s.heap s σ s.heap [] := B
  have hr : meth.sig.returnType = (some .long) := hr
  have hown : s.vm.findClass "UnitThreads" = some m.cls := hown
  show W p l e (headSpec (zws y_Ut_output prog_1_method_8_code 3 (some .long)) ({ frames := 2, cells := 0, slots := 0, locals := 43 })).room s m [.ref (aA κ 0), .int (p1), .int (p2)].toArray below meth c s.heap [] 0 0 (MQ below (va_Ql (fun r σ' => r = fx_valueAt (nA κ) σ p1 p2 ∧ σ' = σ) (zQ κ.1 vwCl (tysA κ) (wA κ) (va_A (wA κ σ) s.heap.size)) (va_A (wA κ σ) s.heap.size)) [.ref (aA κ 0), .int (p1), .int (p2)].toArray s 0 0 (va_A (wA κ σ) s.heap.size)) (F0 m 0 ls [])
  generalize va_A (wA κ σ) s.heap.size = A at B ⊢
  have hts : ∀ w ∈ zW, w.before [.ref (aA κ 0), .int (p1), .int (p2)].toArray s = true := fun w h => hts w (List.mem_cons_of_mem _ h)
  refine lv_aload_n hx hb d_Ut_output_0 rfl (lv_at hl 0 rfl) ?_
  refine va_get (D := κ.1) (ci := 5) (v := .ref (aA κ 14)) (C := "UnitThreads") (T := T_Ut) (N := 7) hx hb hts in_Ut hown B.1 B.2.1 0 (wa_0 κ σ) rfl 4 (by decide) (hts _ w_171) (fun _ h9 => h9) rfl d_Ut_output_1 ?_
  refine lv_iload_n hx hb d_Ut_output_4 rfl (lv_at hl 1 rfl) ?_
  refine lv_iload_n hx hb d_Ut_output_5 rfl (lv_at hl 2 rfl) ?_
  refine zcV_l (As := [.int (p1), .int (p2)]) (rest := []) ⟨hx, hb, hml, hown, hts⟩ (c_Bo_valueAt l κ σ p1 p2 hn b hbs hb64) (cwV 2 hts (zgoodV w_349 w_350 w_351 w_7 w_352) rfl rfl rfl (by decide +kernel) ⟨Nat.le_of_ble_eq_true rfl, Nat.le_of_ble_eq_true rfl⟩) B (zrecv B (ci := 4) rfl (wa_14 κ σ)) rfl hl.1 rfl (Nat.le_of_ble_eq_true rfl) d_Ut_output_6 ⟨Nat.zero_le _, Nat.zero_le _⟩ (fun r σ' H locs hp B => ?_)
  obtain ⟨rfl, hp⟩ := hp
  rw [hp] at B
  have B : BA κ A s.heap s σ H locs := B
  exact zret_l hx hb hr hlocks B (⟨rfl, rfl⟩) d_Ut_output_9
set_option maxHeartbeats 4000000 in
set_option maxRecDepth 100000 in
theorem c_Ut_owner (l : Launch) (κ : KA) (σ : zS) (p1 p2 : Int32) (b : Nat) (hbs : σ.1 21 0 = nI b) (hb64 : b ≤ 64) : zMi l y_Ut_owner (zws y_Ut_owner prog_1_method_9_code 3 (some .int)) ({ frames := 2, cells := 0, slots := 0, locals := 43 }) κ.1 vwCl (tysA κ) nwA (wA κ) σ [.ref (aA κ 0), .int (p1), .int (p2)] (fun r σ' => r = fx_ownerAt σ p1 p2 ∧ σ' = σ) := by
  refine zintro (cc := prog_1_method_9_code) (maxL := 3) (ret := (some .int)) (by decide) rfl (Nat.le_of_ble_eq_true rfl) ?_
  intro p e s m below meth c ls hx hb hr hml hts hown hlocks hl B
  have hl : lv_has ls 3 [(0, .ref (aA κ 0)), (1, .int (p1)), (2, .int (p2))] := hl
  have B : BA κ (va_A (wA κ σ) s.heap.size) s.heap s σ s.heap [] := B
  have hr : meth.sig.returnType = (some .int) := hr
  have hown : s.vm.findClass "UnitThreads" = some m.cls := hown
  show W p l e (headSpec (zws y_Ut_owner prog_1_method_9_code 3 (some .int)) ({ frames := 2, cells := 0, slots := 0, locals := 43 })).room s m [.ref (aA κ 0), .int (p1), .int (p2)].toArray below meth c s.heap [] 0 0 (MQ below (va_Qi (fun r σ' => r = fx_ownerAt σ p1 p2 ∧ σ' = σ) (zQ κ.1 vwCl (tysA κ) (wA κ) (va_A (wA κ σ) s.heap.size)) (va_A (wA κ σ) s.heap.size)) [.ref (aA κ 0), .int (p1), .int (p2)].toArray s 0 0 (va_A (wA κ σ) s.heap.size)) (F0 m 0 ls [])
  generalize va_A (wA κ σ) s.heap.size = A at B ⊢
  have hts : ∀ w ∈ zW, w.before [.ref (aA κ 0), .int (p1), .int (p2)].toArray s = true := fun w h => hts w (List.mem_cons_of_mem _ h)
  refine lv_aload_n hx hb d_Ut_owner_0 rfl (lv_at hl 0 rfl) ?_
  refine va_get (D := κ.1) (ci := 5) (v := .ref (aA κ 14)) (C := "UnitThreads") (T := T_Ut) (N := 7) hx hb hts in_Ut hown B.1 B.2.1 0 (wa_0 κ σ) rfl 4 (by decide) (hts _ w_171) (fun _ h9 => h9) rfl d_Ut_owner_1 ?_
  refine lv_iload_n hx hb d_Ut_owner_4 rfl (lv_at hl 1 rfl) ?_
  refine lv_iload_n hx hb d_Ut_owner_5 rfl (lv_at hl 2 rfl) ?_
  refine zcV_i (As := [.int (p1), .int (p2)]) (rest := []) ⟨hx, hb, hml, hown, hts⟩ (c_Bo_ownerAt l κ σ p1 p2 b hbs hb64) (cwV 2 hts (zgoodV w_362 w_363 w_364 w_7 w_365) rfl rfl rfl (by decide +kernel) ⟨Nat.le_of_ble_eq_true rfl, Nat.le_of_ble_eq_true rfl⟩) B (zrecv B (ci := 4) rfl (wa_14 κ σ)) rfl hl.1 rfl (Nat.le_of_ble_eq_true rfl) d_Ut_owner_6 ⟨Nat.zero_le _, Nat.zero_le _⟩ (fun r σ' H locs hp B => ?_)
  obtain ⟨rfl, hp⟩ := hp
  rw [hp] at B
  have B : BA κ A s.heap s σ H locs := B
  exact zret_i hx hb hr hlocks B (⟨rfl, rfl⟩) d_Ut_owner_9
set_option maxHeartbeats 4000000 in
set_option maxRecDepth 100000 in
theorem c_Ut_state (l : Launch) (κ : KA) (σ : zS) (p1 : Int32) (hn : nA κ ≤ 8) : zMi l y_Ut_state (zws y_Ut_state prog_1_method_10_code 2 (some .int)) ({ frames := 2, cells := 0, slots := 0, locals := 41 }) κ.1 vwCl (tysA κ) nwA (wA κ) σ [.ref (aA κ 0), .int (p1)] (fun r σ' => r = fx_state (nA κ) σ p1 ∧ σ' = σ) := by
  refine zintro (cc := prog_1_method_10_code) (maxL := 2) (ret := (some .int)) (by decide) rfl (Nat.le_of_ble_eq_true rfl) ?_
  intro p e s m below meth c ls hx hb hr hml hts hown hlocks hl B
  have hl : lv_has ls 2 [(0, .ref (aA κ 0)), (1, .int (p1))] := hl
  have B : BA κ (va_A (wA κ σ) s.heap.size) s.heap s σ s.heap [] := B
  have hr : meth.sig.returnType = (some .int) := hr
  have hown : s.vm.findClass "UnitThreads" = some m.cls := hown
  show W p l e (headSpec (zws y_Ut_state prog_1_method_10_code 2 (some .int)) ({ frames := 2, cells := 0, slots := 0, locals := 41 })).room s m [.ref (aA κ 0), .int (p1)].toArray below meth c s.heap [] 0 0 (MQ below (va_Qi (fun r σ' => r = fx_state (nA κ) σ p1 ∧ σ' = σ) (zQ κ.1 vwCl (tysA κ) (wA κ) (va_A (wA κ σ) s.heap.size)) (va_A (wA κ σ) s.heap.size)) [.ref (aA κ 0), .int (p1)].toArray s 0 0 (va_A (wA κ σ) s.heap.size)) (F0 m 0 ls [])
  generalize va_A (wA κ σ) s.heap.size = A at B ⊢
  have hts : ∀ w ∈ zW, w.before [.ref (aA κ 0), .int (p1)].toArray s = true := fun w h => hts w (List.mem_cons_of_mem _ h)
  refine lv_aload_n hx hb d_Ut_state_0 rfl (lv_at hl 0 rfl) ?_
  refine lv_iload_n hx hb d_Ut_state_1 rfl (lv_at hl 1 rfl) ?_
  refine zcV_i (As := [.int (p1)]) (rest := []) ⟨hx, hb, hml, hown, hts⟩ (c_Ut_isUnit l κ σ p1 ) (cwV 1 hts (zgoodV w_197 w_199 s_1 w_1 w_200) rfl rfl rfl (by decide +kernel) ⟨Nat.le_of_ble_eq_true rfl, Nat.le_of_ble_eq_true rfl⟩) B (zrecv B (ci := 5) rfl (wa_0 κ σ)) rfl hl.1 rfl (Nat.le_of_ble_eq_true rfl) d_Ut_state_2 ⟨Nat.zero_le _, Nat.zero_le _⟩ (fun r σ' H locs hp B => ?_)
  obtain ⟨rfl, hp⟩ := hp
  rw [hp] at B
  have B : BA κ A s.heap s σ H locs := B
  refine lv_if_eq (tgt := 16) hx hb d_Ut_state_5 (by decide) (fun c_1 => ?_) (fun c_1 => ?_)
  · have c_1 := zb_eq0.mp c_1
    refine lv_iconst (v := (-1)) hx hb d_Ut_state_16 (by decide) ?_
    exact zret_i hx hb hr hlocks B (⟨by simp [zb, fx_state, c_1], rfl⟩) d_Ut_state_17
  · have c_1 := zb_ne0.mp c_1
    refine lv_aload_n hx hb d_Ut_state_8 rfl (lv_at hl 0 rfl) ?_
    refine lv_iload_n hx hb d_Ut_state_9 rfl (lv_at hl 1 rfl) ?_
    refine zrwi (y := nI (tn p1)) ((fx_isUnit_in c_1 hn).1) ?_
    refine zcV_i (As := [.int (nI (tn p1))]) (rest := []) ⟨hx, hb, hml, hown, hts⟩ (c_Ut_modeOf l κ σ (tn p1) ((fx_isUnit_in c_1 hn).2) hn) (cwV 1 hts (zgoodV w_250 w_252 s_4 w_1 w_253) rfl rfl rfl (by decide +kernel) ⟨Nat.le_of_ble_eq_true rfl, Nat.le_of_ble_eq_true rfl⟩) B (zrecv B (ci := 5) rfl (wa_0 κ σ)) rfl hl.1 rfl (Nat.le_of_ble_eq_true rfl) d_Ut_state_10 ⟨Nat.zero_le _, Nat.zero_le _⟩ (fun r σ' H locs hp B => ?_)
    obtain ⟨rfl, hp⟩ := hp
    rw [hp] at B
    have B : BA κ A s.heap s σ H locs := B
    refine lv_goto (tgt := 17) hx hb d_Ut_state_13 (by decide) ?_
    exact zret_i hx hb hr hlocks B (⟨by simp [zb, fx_state, c_1], rfl⟩) d_Ut_state_17
set_option maxHeartbeats 4000000 in
set_option maxRecDepth 100000 in
theorem c_Ut_restart (l : Launch) (κ : KA) (σ : zS) (p1 : Int32) (hn : nA κ ≤ 8) : zMi l y_Ut_restart (zws y_Ut_restart prog_1_method_11_code 2 (some .boolean)) ({ frames := 2, cells := 0, slots := 0, locals := 41 }) κ.1 vwCl (tysA κ) nwA (wA κ) σ [.ref (aA κ 0), .int (p1)] (fun r σ' => r = zb (fx_restB (nA κ) σ p1) ∧ σ' = fx_restS (nA κ) σ p1) := by
  refine zintro (cc := prog_1_method_11_code) (maxL := 2) (ret := (some .boolean)) (by decide) rfl (Nat.le_of_ble_eq_true rfl) ?_
  intro p e s m below meth c ls hx hb hr hml hts hown hlocks hl B
  have hl : lv_has ls 2 [(0, .ref (aA κ 0)), (1, .int (p1))] := hl
  have B : BA κ (va_A (wA κ σ) s.heap.size) s.heap s σ s.heap [] := B
  have hr : meth.sig.returnType = (some .boolean) := hr
  have hown : s.vm.findClass "UnitThreads" = some m.cls := hown
  show W p l e (headSpec (zws y_Ut_restart prog_1_method_11_code 2 (some .boolean)) ({ frames := 2, cells := 0, slots := 0, locals := 41 })).room s m [.ref (aA κ 0), .int (p1)].toArray below meth c s.heap [] 0 0 (MQ below (va_Qi (fun r σ' => r = zb (fx_restB (nA κ) σ p1) ∧ σ' = fx_restS (nA κ) σ p1) (zQ κ.1 vwCl (tysA κ) (wA κ) (va_A (wA κ σ) s.heap.size)) (va_A (wA κ σ) s.heap.size)) [.ref (aA κ 0), .int (p1)].toArray s 0 0 (va_A (wA κ σ) s.heap.size)) (F0 m 0 ls [])
  generalize va_A (wA κ σ) s.heap.size = A at B ⊢
  have hts : ∀ w ∈ zW, w.before [.ref (aA κ 0), .int (p1)].toArray s = true := fun w h => hts w (List.mem_cons_of_mem _ h)
  refine lv_aload_n hx hb d_Ut_restart_0 rfl (lv_at hl 0 rfl) ?_
  refine lv_iload_n hx hb d_Ut_restart_1 rfl (lv_at hl 1 rfl) ?_
  refine zcV_i (As := [.int (p1)]) (rest := []) ⟨hx, hb, hml, hown, hts⟩ (c_Ut_isUnit l κ σ p1 ) (cwV 1 hts (zgoodV w_197 w_199 s_1 w_1 w_200) rfl rfl rfl (by decide +kernel) ⟨Nat.le_of_ble_eq_true rfl, Nat.le_of_ble_eq_true rfl⟩) B (zrecv B (ci := 5) rfl (wa_0 κ σ)) rfl hl.1 rfl (Nat.le_of_ble_eq_true rfl) d_Ut_restart_2 ⟨Nat.zero_le _, Nat.zero_le _⟩ (fun r σ' H locs hp B => ?_)
  obtain ⟨rfl, hp⟩ := hp
  rw [hp] at B
  have B : BA κ A s.heap s σ H locs := B
  refine lv_if_eq (tgt := 17) hx hb d_Ut_restart_5 (by decide) (fun c_1 => ?_) (fun c_1 => ?_)
  · have c_1 := zb_eq0.mp c_1
    refine lv_iconst (v := 0) hx hb d_Ut_restart_17 (by decide) ?_
    exact zret_z hx hb hr rfl hlocks B (⟨by simp [zb, fx_restS, fx_restB, c_1], by simp [zb, fx_restS, fx_restB, c_1]⟩) d_Ut_restart_18
  · have c_1 := zb_ne0.mp c_1
    refine lv_aload_n hx hb d_Ut_restart_8 rfl (lv_at hl 0 rfl) ?_
    refine lv_iload_n hx hb d_Ut_restart_9 rfl (lv_at hl 1 rfl) ?_
    refine zrwi (y := nI (tn p1)) ((fx_isUnit_in c_1 hn).1) ?_
    refine zcV_i (As := [.int (nI (tn p1))]) (rest := []) ⟨hx, hb, hml, hown, hts⟩ (c_Ut_modeOf l κ σ (tn p1) ((fx_isUnit_in c_1 hn).2) hn) (cwV 1 hts (zgoodV w_250 w_252 s_4 w_1 w_253) rfl rfl rfl (by decide +kernel) ⟨Nat.le_of_ble_eq_true rfl, Nat.le_of_ble_eq_true rfl⟩) B (zrecv B (ci := 5) rfl (wa_0 κ σ)) rfl hl.1 rfl (Nat.le_of_ble_eq_true rfl) d_Ut_restart_10 ⟨Nat.zero_le _, Nat.zero_le _⟩ (fun r σ' H locs hp B => ?_)
    obtain ⟨rfl, hp⟩ := hp
    rw [hp] at B
    have B : BA κ A s.heap s σ H locs := B
    refine lv_iconst (v := 2) hx hb d_Ut_restart_13 (by decide) ?_
    refine lv_icmp_eq (tgt := 19) hx hb d_Ut_restart_14 (by decide) (fun c_2 => ?_) (fun c_2 => ?_)
    · refine lv_aload_n hx hb d_Ut_restart_19 rfl (lv_at hl 0 rfl) ?_
      refine va_get (D := κ.1) (ci := 5) (v := .ref (aA κ 1)) (C := "UnitThreads") (T := T_Ut) (N := 7) hx hb hts in_Ut hown B.1 B.2.1 0 (wa_0 κ σ) rfl 0 (by decide) (hts _ w_167) (fun _ h9 => h9) rfl d_Ut_restart_20 ?_
      refine lv_iload_n hx hb d_Ut_restart_23 rfl (lv_at hl 1 rfl) ?_
      have hu_3 : tn p1 < nA κ := (fx_isUnit_in c_1 hn).2
      refine zaald hx hb B 1 2 (wa_1 κ σ) rfl (tn p1) ((fx_isUnit_in c_1 hn).1) hu_3 (by omega) rfl d_Ut_restart_24 ?_
      refine lv_iconst (v := 0) hx hb d_Ut_restart_25 (by decide) ?_
      refine zput (ci := 0) (v := .int (0)) (ty := .int) (C := "UnitThreads$Unit") (T := T_Un) (N := 8) hx hb hts in_Un ty_Un tyok_Un nm_Un hown B (43 + (tn p1)) (wa_u κ σ hu_3) rfl 2 (by decide) (hts _ w_38) (fun _ h9 => h9) rfl (by decide +kernel) rfl rfl (Nat.le_of_ble_eq_true rfl) (wq_2 κ σ hu_3 0) d_Ut_restart_26 (fun H locs B => ?_)
      have B : BA κ A s.heap s (zi σ 2 (tn p1) 0) H locs := B
      refine lv_iconst (v := 1) hx hb d_Ut_restart_29 (by decide) ?_
      exact zret_z hx hb hr rfl hlocks B (⟨by simp [zb, fx_restS, fx_restB, c_1, c_2], by simp [zb, fx_restS, fx_restB, c_1, c_2]⟩) d_Ut_restart_30
    · refine lv_iconst (v := 0) hx hb d_Ut_restart_17 (by decide) ?_
      exact zret_z hx hb hr rfl hlocks B (⟨by simp [zb, fx_restS, fx_restB, c_1, c_2], by simp [zb, fx_restS, fx_restB, c_1, c_2]⟩) d_Ut_restart_18
set_option maxHeartbeats 4000000 in
set_option maxRecDepth 100000 in
theorem c_Ut_held (l : Launch) (κ : KA) (σ : zS) (p1 : Int32) (hn : nA κ ≤ 8) : zMi l y_Ut_held (zws y_Ut_held prog_1_method_12_code 2 (some .int)) ({ frames := 2, cells := 0, slots := 0, locals := 41 }) κ.1 vwCl (tysA κ) nwA (wA κ) σ [.ref (aA κ 0), .int (p1)] (fun r σ' => r = fx_held (nA κ) σ p1 ∧ σ' = σ) := by
  refine zintro (cc := prog_1_method_12_code) (maxL := 2) (ret := (some .int)) (by decide) rfl (Nat.le_of_ble_eq_true rfl) ?_
  intro p e s m below meth c ls hx hb hr hml hts hown hlocks hl B
  have hl : lv_has ls 2 [(0, .ref (aA κ 0)), (1, .int (p1))] := hl
  have B : BA κ (va_A (wA κ σ) s.heap.size) s.heap s σ s.heap [] := B
  have hr : meth.sig.returnType = (some .int) := hr
  have hown : s.vm.findClass "UnitThreads" = some m.cls := hown
  show W p l e (headSpec (zws y_Ut_held prog_1_method_12_code 2 (some .int)) ({ frames := 2, cells := 0, slots := 0, locals := 41 })).room s m [.ref (aA κ 0), .int (p1)].toArray below meth c s.heap [] 0 0 (MQ below (va_Qi (fun r σ' => r = fx_held (nA κ) σ p1 ∧ σ' = σ) (zQ κ.1 vwCl (tysA κ) (wA κ) (va_A (wA κ σ) s.heap.size)) (va_A (wA κ σ) s.heap.size)) [.ref (aA κ 0), .int (p1)].toArray s 0 0 (va_A (wA κ σ) s.heap.size)) (F0 m 0 ls [])
  generalize va_A (wA κ σ) s.heap.size = A at B ⊢
  have hts : ∀ w ∈ zW, w.before [.ref (aA κ 0), .int (p1)].toArray s = true := fun w h => hts w (List.mem_cons_of_mem _ h)
  refine lv_aload_n hx hb d_Ut_held_0 rfl (lv_at hl 0 rfl) ?_
  refine lv_iload_n hx hb d_Ut_held_1 rfl (lv_at hl 1 rfl) ?_
  refine zcV_i (As := [.int (p1)]) (rest := []) ⟨hx, hb, hml, hown, hts⟩ (c_Ut_isUnit l κ σ p1 ) (cwV 1 hts (zgoodV w_197 w_199 s_1 w_1 w_200) rfl rfl rfl (by decide +kernel) ⟨Nat.le_of_ble_eq_true rfl, Nat.le_of_ble_eq_true rfl⟩) B (zrecv B (ci := 5) rfl (wa_0 κ σ)) rfl hl.1 rfl (Nat.le_of_ble_eq_true rfl) d_Ut_held_2 ⟨Nat.zero_le _, Nat.zero_le _⟩ (fun r σ' H locs hp B => ?_)
  obtain ⟨rfl, hp⟩ := hp
  rw [hp] at B
  have B : BA κ A s.heap s σ H locs := B
  refine lv_if_eq (tgt := 29) hx hb d_Ut_held_5 (by decide) (fun c_1 => ?_) (fun c_1 => ?_)
  · have c_1 := zb_eq0.mp c_1
    refine lv_iconst (v := (-1)) hx hb d_Ut_held_29 (by decide) ?_
    exact zret_i hx hb hr hlocks B (⟨by simp [zb, fx_held, c_1], rfl⟩) d_Ut_held_30
  · have c_1 := zb_ne0.mp c_1
    refine lv_aload_n hx hb d_Ut_held_8 rfl (lv_at hl 0 rfl) ?_
    refine lv_iload_n hx hb d_Ut_held_9 rfl (lv_at hl 1 rfl) ?_
    refine zrwi (y := nI (tn p1)) ((fx_isUnit_in c_1 hn).1) ?_
    refine zcV_i (As := [.int (nI (tn p1))]) (rest := []) ⟨hx, hb, hml, hown, hts⟩ (c_Ut_modeOf l κ σ (tn p1) ((fx_isUnit_in c_1 hn).2) hn) (cwV 1 hts (zgoodV w_250 w_252 s_4 w_1 w_253) rfl rfl rfl (by decide +kernel) ⟨Nat.le_of_ble_eq_true rfl, Nat.le_of_ble_eq_true rfl⟩) B (zrecv B (ci := 5) rfl (wa_0 κ σ)) rfl hl.1 rfl (Nat.le_of_ble_eq_true rfl) d_Ut_held_10 ⟨Nat.zero_le _, Nat.zero_le _⟩ (fun r σ' H locs hp B => ?_)
    obtain ⟨rfl, hp⟩ := hp
    rw [hp] at B
    have B : BA κ A s.heap s σ H locs := B
    refine lv_iconst (v := 2) hx hb d_Ut_held_13 (by decide) ?_
    refine lv_icmp_ne (tgt := 29) hx hb d_Ut_held_14 (by decide) (fun c_2 => ?_) (fun c_2 => ?_)
    · refine lv_iconst (v := (-1)) hx hb d_Ut_held_29 (by decide) ?_
      exact zret_i hx hb hr hlocks B (⟨by simp [zb, fx_held, c_1, c_2], rfl⟩) d_Ut_held_30
    · refine lv_aload_n hx hb d_Ut_held_17 rfl (lv_at hl 0 rfl) ?_
      refine va_get (D := κ.1) (ci := 5) (v := .ref (aA κ 1)) (C := "UnitThreads") (T := T_Ut) (N := 7) hx hb hts in_Ut hown B.1 B.2.1 0 (wa_0 κ σ) rfl 0 (by decide) (hts _ w_167) (fun _ h9 => h9) rfl d_Ut_held_18 ?_
      refine lv_iload_n hx hb d_Ut_held_21 rfl (lv_at hl 1 rfl) ?_
      have hu_3 : tn p1 < nA κ := (fx_isUnit_in c_1 hn).2
      refine zaald hx hb B 1 2 (wa_1 κ σ) rfl (tn p1) ((fx_isUnit_in c_1 hn).1) hu_3 (by omega) rfl d_Ut_held_22 ?_
      refine va_get (D := κ.1) (ci := 0) (v := .int (σ.1 3 (tn p1))) (C := "UnitThreads$Unit") (T := T_Un) (N := 8) hx hb hts in_Un hown B.1 B.2.1 (43 + (tn p1)) (wa_u κ σ hu_3) rfl 3 (by decide) (hts _ w_40) (fun _ h9 => h9) rfl d_Ut_held_23 ?_
      refine lv_goto (tgt := 30) hx hb d_Ut_held_26 (by decide) ?_
      exact zret_i hx hb hr hlocks B (⟨by simp [zb, fx_held, c_1, c_2], rfl⟩) d_Ut_held_30
set_option maxHeartbeats 4000000 in
set_option maxRecDepth 100000 in
theorem c_Ut_log (l : Launch) (κ : KA) (σ : zS) (p1 p2 : Int32) (hn : nA κ ≤ 8) (t : Nat) (ht : σ.1 18 0 = nI t) (htm : t ≤ nA κ * 64) : zMi l y_Ut_log (zws y_Ut_log prog_1_method_13_code 3 (some .int)) ({ frames := 1, cells := 0, slots := 0, locals := 22 }) κ.1 vwCl (tysA κ) nwA (wA κ) σ [.ref (aA κ 0), .int (p1), .int (p2)] (fun r σ' => r = fx_look σ p1 p2 ∧ σ' = σ) := by
  refine zintro (cc := prog_1_method_13_code) (maxL := 3) (ret := (some .int)) (by decide) rfl (Nat.le_of_ble_eq_true rfl) ?_
  intro p e s m below meth c ls hx hb hr hml hts hown hlocks hl B
  have hl : lv_has ls 3 [(0, .ref (aA κ 0)), (1, .int (p1)), (2, .int (p2))] := hl
  have B : BA κ (va_A (wA κ σ) s.heap.size) s.heap s σ s.heap [] := B
  have hr : meth.sig.returnType = (some .int) := hr
  have hown : s.vm.findClass "UnitThreads" = some m.cls := hown
  show W p l e (headSpec (zws y_Ut_log prog_1_method_13_code 3 (some .int)) ({ frames := 1, cells := 0, slots := 0, locals := 22 })).room s m [.ref (aA κ 0), .int (p1), .int (p2)].toArray below meth c s.heap [] 0 0 (MQ below (va_Qi (fun r σ' => r = fx_look σ p1 p2 ∧ σ' = σ) (zQ κ.1 vwCl (tysA κ) (wA κ) (va_A (wA κ σ) s.heap.size)) (va_A (wA κ σ) s.heap.size)) [.ref (aA κ 0), .int (p1), .int (p2)].toArray s 0 0 (va_A (wA κ σ) s.heap.size)) (F0 m 0 ls [])
  generalize va_A (wA κ σ) s.heap.size = A at B ⊢
  have hts : ∀ w ∈ zW, w.before [.ref (aA κ 0), .int (p1), .int (p2)].toArray s = true := fun w h => hts w (List.mem_cons_of_mem _ h)
  refine lv_aload_n hx hb d_Ut_log_0 rfl (lv_at hl 0 rfl) ?_
  refine va_get (D := κ.1) (ci := 5) (v := .ref (aA κ 10)) (C := "UnitThreads") (T := T_Ut) (N := 7) hx hb hts in_Ut hown B.1 B.2.1 0 (wa_0 κ σ) rfl 3 (by decide) (hts _ w_170) (fun _ h9 => h9) rfl d_Ut_log_1 ?_
  refine lv_iload_n hx hb d_Ut_log_4 rfl (lv_at hl 1 rfl) ?_
  refine lv_iload_n hx hb d_Ut_log_5 rfl (lv_at hl 2 rfl) ?_
  refine zcV_i (As := [.int (p1), .int (p2)]) (rest := []) ⟨hx, hb, hml, hown, hts⟩ (c_Tu_look l κ σ p1 p2 hn t ht htm) (cwV 2 hts (zgoodV w_383 w_384 w_385 w_6 w_386) rfl rfl rfl (by decide +kernel) ⟨Nat.le_of_ble_eq_true rfl, Nat.le_of_ble_eq_true rfl⟩) B (zrecv B (ci := 3) rfl (wa_10 κ σ)) rfl hl.1 rfl (Nat.le_of_ble_eq_true rfl) d_Ut_log_6 ⟨Nat.zero_le _, Nat.zero_le _⟩ (fun r σ' H locs hp B => ?_)
  obtain ⟨rfl, hp⟩ := hp
  rw [hp] at B
  have B : BA κ A s.heap s σ H locs := B
  exact zret_i hx hb hr hlocks B (⟨rfl, rfl⟩) d_Ut_log_9
set_option maxHeartbeats 4000000 in
set_option maxRecDepth 100000 in
theorem c_Ut_count (l : Launch) (κ : KA) (σ : zS) (p1 : Int32) (hn : nA κ ≤ 8) : zMi l y_Ut_count (zws y_Ut_count prog_1_method_14_code 2 (some .int)) ({ frames := 3, cells := 0, slots := 0, locals := 64 }) κ.1 vwCl (tysA κ) nwA (wA κ) σ [.ref (aA κ 0), .int (p1)] (fun r σ' => r = fx_count (nA κ) σ p1 ∧ σ' = σ) := by
  refine zintro (cc := prog_1_method_14_code) (maxL := 2) (ret := (some .int)) (by decide) rfl (Nat.le_of_ble_eq_true rfl) ?_
  intro p e s m below meth c ls hx hb hr hml hts hown hlocks hl B
  have hl : lv_has ls 2 [(0, .ref (aA κ 0)), (1, .int (p1))] := hl
  have B : BA κ (va_A (wA κ σ) s.heap.size) s.heap s σ s.heap [] := B
  have hr : meth.sig.returnType = (some .int) := hr
  have hown : s.vm.findClass "UnitThreads" = some m.cls := hown
  show W p l e (headSpec (zws y_Ut_count prog_1_method_14_code 2 (some .int)) ({ frames := 3, cells := 0, slots := 0, locals := 64 })).room s m [.ref (aA κ 0), .int (p1)].toArray below meth c s.heap [] 0 0 (MQ below (va_Qi (fun r σ' => r = fx_count (nA κ) σ p1 ∧ σ' = σ) (zQ κ.1 vwCl (tysA κ) (wA κ) (va_A (wA κ σ) s.heap.size)) (va_A (wA κ σ) s.heap.size)) [.ref (aA κ 0), .int (p1)].toArray s 0 0 (va_A (wA κ σ) s.heap.size)) (F0 m 0 ls [])
  generalize va_A (wA κ σ) s.heap.size = A at B ⊢
  have hts : ∀ w ∈ zW, w.before [.ref (aA κ 0), .int (p1)].toArray s = true := fun w h => hts w (List.mem_cons_of_mem _ h)
  refine lv_iload_n hx hb d_Ut_count_0 rfl (lv_at hl 1 rfl) ?_
  by_cases c_1 : p1 = 0
  · refine lv_tableIn (off := 31) (tgt := 32) hx hb d_Ut_count_1 (by rw [c_1]; decide) (by rw [c_1]; decide) (by rw [c_1]; decide) (by decide) ?_
    refine lv_aload_n hx hb d_Ut_count_32 rfl (lv_at hl 0 rfl) ?_
    refine va_get (D := κ.1) (ci := 5) (v := .ref (aA κ 14)) (C := "UnitThreads") (T := T_Ut) (N := 7) hx hb hts in_Ut hown B.1 B.2.1 0 (wa_0 κ σ) rfl 4 (by decide) (hts _ w_171) (fun _ h9 => h9) rfl d_Ut_count_33 ?_
    refine va_get (D := κ.1) (ci := 4) (v := .int (σ.1 21 0)) (C := "UnitThreads$Board") (T := T_Bo) (N := 6) hx hb hts in_Bo hown B.1 B.2.1 14 (wa_14 κ σ) rfl 5 (by decide) (hts _ w_153) (fun _ h9 => h9) rfl d_Ut_count_36 ?_
    exact zret_i hx hb hr hlocks B (⟨by simp [zb, fx_count, c_1], rfl⟩) d_Ut_count_39
  by_cases c_2 : p1 = 1
  · refine lv_tableIn (off := 39) (tgt := 40) hx hb d_Ut_count_1 (by rw [c_2]; decide) (by rw [c_2]; decide) (by rw [c_2]; decide) (by decide) ?_
    refine lv_aload_n hx hb d_Ut_count_40 rfl (lv_at hl 0 rfl) ?_
    refine va_get (D := κ.1) (ci := 5) (v := .ref (aA κ 10)) (C := "UnitThreads") (T := T_Ut) (N := 7) hx hb hts in_Ut hown B.1 B.2.1 0 (wa_0 κ σ) rfl 3 (by decide) (hts _ w_170) (fun _ h9 => h9) rfl d_Ut_count_41 ?_
    refine va_get (D := κ.1) (ci := 3) (v := .int (σ.1 18 0)) (C := "UnitThreads$Turns") (T := T_Tu) (N := 4) hx hb hts in_Tu hown B.1 B.2.1 10 (wa_10 κ σ) rfl 3 (by decide) (hts _ w_125) (fun _ h9 => h9) rfl d_Ut_count_44 ?_
    exact zret_i hx hb hr hlocks B (⟨by simp [zb, fx_count, c_1, c_2], rfl⟩) d_Ut_count_47
  by_cases c_3 : p1 = 2
  · refine lv_tableIn (off := 47) (tgt := 48) hx hb d_Ut_count_1 (by rw [c_3]; decide) (by rw [c_3]; decide) (by rw [c_3]; decide) (by decide) ?_
    refine lv_aload_n hx hb d_Ut_count_48 rfl (lv_at hl 0 rfl) ?_
    refine va_get (D := κ.1) (ci := 5) (v := .ref (aA κ 2)) (C := "UnitThreads") (T := T_Ut) (N := 7) hx hb hts in_Ut hown B.1 B.2.1 0 (wa_0 κ σ) rfl 1 (by decide) (hts _ w_168) (fun _ h9 => h9) rfl d_Ut_count_49 ?_
    refine va_get (D := κ.1) (ci := 1) (v := .int (σ.1 12 0)) (C := "UnitThreads$Entries") (T := T_En) (N := 6) hx hb hts in_En hown B.1 B.2.1 2 (wa_2 κ σ) rfl 5 (by decide) (hts _ w_80) (fun _ h9 => h9) rfl d_Ut_count_52 ?_
    exact zret_i hx hb hr hlocks B (⟨by simp [zb, fx_count, c_1, c_2, c_3], rfl⟩) d_Ut_count_55
  by_cases c_4 : p1 = 3
  · refine lv_tableIn (off := 55) (tgt := 56) hx hb d_Ut_count_1 (by rw [c_4]; decide) (by rw [c_4]; decide) (by rw [c_4]; decide) (by decide) ?_
    refine lv_aload_n hx hb d_Ut_count_56 rfl (lv_at hl 0 rfl) ?_
    refine zcV_i (As := []) (rest := []) ⟨hx, hb, hml, hown, hts⟩ (c_Ut_acting l κ σ hn) (cwV 0 hts (zgoodV w_246 w_248 s_3 w_1 w_249) rfl rfl rfl (by decide +kernel) ⟨Nat.le_of_ble_eq_true rfl, Nat.le_of_ble_eq_true rfl⟩) B (zrecv B (ci := 5) rfl (wa_0 κ σ)) rfl hl.1 rfl (Nat.le_of_ble_eq_true rfl) d_Ut_count_57 ⟨Nat.zero_le _, Nat.zero_le _⟩ (fun r σ' H locs hp B => ?_)
    obtain ⟨rfl, hp⟩ := hp
    rw [hp] at B
    have B : BA κ A s.heap s σ H locs := B
    exact zret_i hx hb hr hlocks B (⟨by simp [zb, fx_count, c_1, c_2, c_3, c_4], rfl⟩) d_Ut_count_60
  refine lv_tableOut (tgt := 61) hx hb d_Ut_count_1 (ztab3 c_1 c_2 c_3 c_4) (by decide) ?_
  refine lv_iload_n hx hb d_Ut_count_61 rfl (lv_at hl 1 rfl) ?_
  refine lv_iconst (v := 4) hx hb d_Ut_count_62 (by decide) ?_
  refine lv_icmp_lt (tgt := 90) hx hb d_Ut_count_63 (by decide) (fun c_5 => ?_) (fun c_5 => ?_)
  · refine lv_iconst (v := (-1)) hx hb d_Ut_count_90 (by decide) ?_
    exact zret_i hx hb hr hlocks B (⟨by simp [zb, fx_count, c_1, c_2, c_3, c_4, c_5], rfl⟩) d_Ut_count_91
  · refine lv_aload_n hx hb d_Ut_count_66 rfl (lv_at hl 0 rfl) ?_
    refine lv_iload_n hx hb d_Ut_count_67 rfl (lv_at hl 1 rfl) ?_
    refine lv_iconst (v := 4) hx hb d_Ut_count_68 (by decide) ?_
    refine lv_isub hx hb d_Ut_count_69 ?_
    refine zcV_i (As := [.int (p1 - 4)]) (rest := []) ⟨hx, hb, hml, hown, hts⟩ (c_Ut_isUnit l κ σ (p1 - 4) ) (cwV 1 hts (zgoodV w_197 w_199 s_1 w_1 w_200) rfl rfl rfl (by decide +kernel) ⟨Nat.le_of_ble_eq_true rfl, Nat.le_of_ble_eq_true rfl⟩) B (zrecv B (ci := 5) rfl (wa_0 κ σ)) rfl hl.1 rfl (Nat.le_of_ble_eq_true rfl) d_Ut_count_70 ⟨Nat.zero_le _, Nat.zero_le _⟩ (fun r σ' H locs hp B => ?_)
    obtain ⟨rfl, hp⟩ := hp
    rw [hp] at B
    have B : BA κ A s.heap s σ H locs := B
    refine lv_if_eq (tgt := 90) hx hb d_Ut_count_73 (by decide) (fun c_6 => ?_) (fun c_6 => ?_)
    · have c_6 := zb_eq0.mp c_6
      refine lv_iconst (v := (-1)) hx hb d_Ut_count_90 (by decide) ?_
      exact zret_i hx hb hr hlocks B (⟨by simp [zb, fx_count, c_1, c_2, c_3, c_4, c_5, c_6], rfl⟩) d_Ut_count_91
    · have c_6 := zb_ne0.mp c_6
      refine lv_aload_n hx hb d_Ut_count_76 rfl (lv_at hl 0 rfl) ?_
      refine va_get (D := κ.1) (ci := 5) (v := .ref (aA κ 1)) (C := "UnitThreads") (T := T_Ut) (N := 7) hx hb hts in_Ut hown B.1 B.2.1 0 (wa_0 κ σ) rfl 0 (by decide) (hts _ w_167) (fun _ h9 => h9) rfl d_Ut_count_77 ?_
      refine lv_iload_n hx hb d_Ut_count_80 rfl (lv_at hl 1 rfl) ?_
      refine lv_iconst (v := 4) hx hb d_Ut_count_81 (by decide) ?_
      refine lv_isub hx hb d_Ut_count_82 ?_
      have hu_7 : tn (p1 - 4) < nA κ := (fx_isUnit_in c_6 hn).2
      refine zaald hx hb B 1 2 (wa_1 κ σ) rfl (tn (p1 - 4)) ((fx_isUnit_in c_6 hn).1) hu_7 (by omega) rfl d_Ut_count_83 ?_
      refine va_get (D := κ.1) (ci := 0) (v := .int (σ.1 0 (tn (p1 - 4)))) (C := "UnitThreads$Unit") (T := T_Un) (N := 8) hx hb hts in_Un hown B.1 B.2.1 (43 + (tn (p1 - 4))) (wa_u κ σ hu_7) rfl 0 (by decide) (hts _ w_34) (fun _ h9 => h9) rfl d_Ut_count_84 ?_
      refine lv_goto (tgt := 91) hx hb d_Ut_count_87 (by decide) ?_
      exact zret_i hx hb hr hlocks B (⟨by simp [zb, fx_count, c_1, c_2, c_3, c_4, c_5, c_6], rfl⟩) d_Ut_count_91
set_option maxHeartbeats 4000000 in
set_option maxRecDepth 100000 in
theorem c_Ut_close (l : Launch) (κ : KA) (σ : zS) (hn : nA κ ≤ 8) : zMi l y_Ut_close (zws y_Ut_close prog_1_method_15_code 3 (some .int)) ({ frames := 2, cells := 0, slots := 0, locals := 68 }) κ.1 vwCl (tysA κ) nwA (wA κ) σ [.ref (aA κ 0)] (fun r σ' => r = fx_closeR (nA κ) σ ∧ σ' = fx_closeS (nA κ) σ) := by
  refine zintro (cc := prog_1_method_15_code) (maxL := 3) (ret := (some .int)) (by decide) rfl (Nat.le_of_ble_eq_true rfl) ?_
  intro p e s m below meth c ls hx hb hr hml hts hown hlocks hl B
  have hl : lv_has ls 3 [(0, .ref (aA κ 0))] := hl
  have B : BA κ (va_A (wA κ σ) s.heap.size) s.heap s σ s.heap [] := B
  have hr : meth.sig.returnType = (some .int) := hr
  have hown : s.vm.findClass "UnitThreads" = some m.cls := hown
  show W p l e (headSpec (zws y_Ut_close prog_1_method_15_code 3 (some .int)) ({ frames := 2, cells := 0, slots := 0, locals := 68 })).room s m [.ref (aA κ 0)].toArray below meth c s.heap [] 0 0 (MQ below (va_Qi (fun r σ' => r = fx_closeR (nA κ) σ ∧ σ' = fx_closeS (nA κ) σ) (zQ κ.1 vwCl (tysA κ) (wA κ) (va_A (wA κ σ) s.heap.size)) (va_A (wA κ σ) s.heap.size)) [.ref (aA κ 0)].toArray s 0 0 (va_A (wA κ σ) s.heap.size)) (F0 m 0 ls [])
  generalize va_A (wA κ σ) s.heap.size = A at B ⊢
  have hts : ∀ w ∈ zW, w.before [.ref (aA κ 0)].toArray s = true := fun w h => hts w (List.mem_cons_of_mem _ h)
  have L_13 : ∀ (j : Nat) (k : Nat) (r : Int32), k + j = nA κ → (σ.1 23 0 = 0) → (fx_closeN σ (nA κ) 0 0 = fx_closeN σ j k r) → ∀ (H : Heap) (locs : List Loc), BA κ A s.heap s σ H locs → ∀ (ls : Array Slot), lv_has ls 3 [(0, .ref (aA κ 0)), (1, .int (r)), (2, .int (nI k))] → W p l e (headSpec (zws y_Ut_close prog_1_method_15_code 3 (some .int)) ({ frames := 2, cells := 0, slots := 0, locals := 68 })).room s m [.ref (aA κ 0)].toArray below meth c H locs 0 0 (MQ below (va_Qi (fun r σ' => r = fx_closeR (nA κ) σ ∧ σ' = fx_closeS (nA κ) σ) (zQ κ.1 vwCl (tysA κ) (wA κ) A) A) [.ref (aA κ 0)].toArray s 0 0 A) (F0 m 13 ls []) := by
    intro j
    induction j with
    | zero =>
      intro k r hj h0 hst H locs B ls hl
      refine lv_iload_n hx hb d_Ut_close_13 rfl (lv_at hl 2 rfl) ?_
      refine lv_aload_n hx hb d_Ut_close_14 rfl (lv_at hl 0 rfl) ?_
      refine va_get (D := κ.1) (ci := 5) (v := .ref (aA κ 1)) (C := "UnitThreads") (T := T_Ut) (N := 7) hx hb hts in_Ut hown B.1 B.2.1 0 (wa_0 κ σ) rfl 0 (by decide) (hts _ w_167) (fun _ h9 => h9) rfl d_Ut_close_15 ?_
      refine zalen hx hb B 1 2 (wa_1 κ σ) rfl d_Ut_close_18 ?_
      refine lv_icmp_ge (tgt := 40) hx hb d_Ut_close_19 (by decide) (fun c_1 => ?_) (fun c_1 => ?_)
      · have c_1 := (nI_leI (a := nA κ) (b := k) (by omega) (by omega)).mp c_1
        refine lv_aload_n hx hb d_Ut_close_40 rfl (lv_at hl 0 rfl) ?_
        refine va_get (D := κ.1) (ci := 5) (v := .ref (aA κ 14)) (C := "UnitThreads") (T := T_Ut) (N := 7) hx hb hts in_Ut hown B.1 B.2.1 0 (wa_0 κ σ) rfl 4 (by decide) (hts _ w_171) (fun _ h9 => h9) rfl d_Ut_close_41 ?_
        refine zcV_v (As := []) (rest := []) ⟨hx, hb, hml, hown, hts⟩ (c_Bo_shut l κ σ  hn) (cwV 0 hts (zgoodV w_395 w_396 w_397 w_7 w_398) rfl rfl rfl (by decide +kernel) ⟨Nat.le_of_ble_eq_true rfl, Nat.le_of_ble_eq_true rfl⟩) B (zrecv B (ci := 4) rfl (wa_14 κ σ)) rfl hl.1 rfl (Nat.le_of_ble_eq_true rfl) d_Ut_close_44 ⟨Nat.zero_le _, Nat.zero_le _⟩ (fun σ' H locs hp B => ?_)
        rw [hp] at B
        have B : BA κ A s.heap s (fx_shut (nA κ) σ) H locs := B
        refine lv_aload_n hx hb d_Ut_close_47 rfl (lv_at hl 0 rfl) ?_
        refine lv_iconst (v := 1) hx hb d_Ut_close_48 (by decide) ?_
        refine zput (ci := 5) (v := .int (1)) (ty := .boolean) (C := "UnitThreads") (T := T_Ut) (N := 7) hx hb hts in_Ut ty_Ut tyok_Ut nm_Ut hown B 0 (wa_0 κ (fx_shut (nA κ) σ)) rfl 6 (by decide) (hts _ w_173) (fun _ h9 => h9) rfl (by decide +kernel) rfl rfl (Nat.le_of_ble_eq_true rfl) (wp_0_6 κ (fx_shut (nA κ) σ) 1) d_Ut_close_49 (fun H locs B => ?_)
        have B : BA κ A s.heap s (zi (fx_shut (nA κ) σ) 23 0 1) H locs := B
        refine lv_iload_n hx hb d_Ut_close_52 rfl (lv_at hl 1 rfl) ?_
        exact zret_i hx hb hr hlocks B (⟨by rw [fx_closeR, if_pos h0, hst]; rfl, by rw [fx_closeS, if_pos h0]⟩) d_Ut_close_53
      · have c_1 := (not_congr (nI_leI (a := nA κ) (b := k) (by omega) (by omega))).mp c_1
        exact absurd c_1 (by omega)
    | succ j ih =>
      intro k r hj h0 hst H locs B ls hl
      refine lv_iload_n hx hb d_Ut_close_13 rfl (lv_at hl 2 rfl) ?_
      refine lv_aload_n hx hb d_Ut_close_14 rfl (lv_at hl 0 rfl) ?_
      refine va_get (D := κ.1) (ci := 5) (v := .ref (aA κ 1)) (C := "UnitThreads") (T := T_Ut) (N := 7) hx hb hts in_Ut hown B.1 B.2.1 0 (wa_0 κ σ) rfl 0 (by decide) (hts _ w_167) (fun _ h9 => h9) rfl d_Ut_close_15 ?_
      refine zalen hx hb B 1 2 (wa_1 κ σ) rfl d_Ut_close_18 ?_
      refine lv_icmp_ge (tgt := 40) hx hb d_Ut_close_19 (by decide) (fun c_2 => ?_) (fun c_2 => ?_)
      · have c_2 := (nI_leI (a := nA κ) (b := k) (by omega) (by omega)).mp c_2
        exact absurd c_2 (by omega)
      · have c_2 := (not_congr (nI_leI (a := nA κ) (b := k) (by omega) (by omega))).mp c_2
        refine lv_aload_n hx hb d_Ut_close_22 rfl (lv_at hl 0 rfl) ?_
        refine lv_iload_n hx hb d_Ut_close_23 rfl (lv_at hl 2 rfl) ?_
        refine zcV_i (As := [.int (nI k)]) (rest := []) ⟨hx, hb, hml, hown, hts⟩ (c_Ut_modeOf l κ σ k (by omega) hn) (cwV 1 hts (zgoodV w_250 w_252 s_4 w_1 w_253) rfl rfl rfl (by decide +kernel) ⟨Nat.le_of_ble_eq_true rfl, Nat.le_of_ble_eq_true rfl⟩) B (zrecv B (ci := 5) rfl (wa_0 κ σ)) rfl hl.1 rfl (Nat.le_of_ble_eq_true rfl) d_Ut_close_24 ⟨Nat.zero_le _, Nat.zero_le _⟩ (fun r σ' H locs hp B => ?_)
        obtain ⟨rfl, hp⟩ := hp
        rw [hp] at B
        have B : BA κ A s.heap s σ H locs := B
        refine lv_iconst (v := 3) hx hb d_Ut_close_27 (by decide) ?_
        refine lv_icmp_eq (tgt := 34) hx hb d_Ut_close_28 (by decide) (fun c_3 => ?_) (fun c_3 => ?_)
        · refine lv_iinc (v := nI (k + 1)) (lv' := [(2, .int (nI (k + 1))), (0, .ref (aA κ 0)), (1, .int (r))]) hx hb d_Ut_close_34 hl (k := 2) rfl (zinc _) (by decide) rfl (fun ls hl => ?_)
          refine lv_goto (tgt := 13) hx hb d_Ut_close_37 (by decide) ?_
          exact ih (k + 1) r (by omega) h0 (by rw [hst]; simp [fx_closeN, c_2, c_3]) _ _ B ls (lv_sub hl [1, 2, 0] rfl)
        · refine lv_iinc (v := r + 1) (lv' := [(1, .int (r + 1)), (0, .ref (aA κ 0)), (2, .int (nI k))]) hx hb d_Ut_close_31 hl (k := 1) rfl (rfl) (by decide) rfl (fun ls hl => ?_)
          refine lv_iinc (v := nI (k + 1)) (lv' := [(2, .int (nI (k + 1))), (1, .int (r + 1)), (0, .ref (aA κ 0))]) hx hb d_Ut_close_34 hl (k := 2) rfl (zinc _) (by decide) rfl (fun ls hl => ?_)
          refine lv_goto (tgt := 13) hx hb d_Ut_close_37 (by decide) ?_
          exact ih (k + 1) (r + 1) (by omega) h0 (by rw [hst]; simp [fx_closeN, c_2, c_3]) _ _ B ls (lv_sub hl [2, 1, 0] rfl)
  refine lv_aload_n hx hb d_Ut_close_0 rfl (lv_at hl 0 rfl) ?_
  refine va_get (D := κ.1) (ci := 5) (v := .int (σ.1 23 0)) (C := "UnitThreads") (T := T_Ut) (N := 7) hx hb hts in_Ut hown B.1 B.2.1 0 (wa_0 κ σ) rfl 6 (by decide) (hts _ w_173) (fun _ h9 => h9) rfl d_Ut_close_1 ?_
  refine lv_if_eq (tgt := 9) hx hb d_Ut_close_4 (by decide) (fun c_4 => ?_) (fun c_4 => ?_)
  · refine lv_iconst (v := 0) hx hb d_Ut_close_9 (by decide) ?_
    refine lv_istore_n (lv' := [(1, .int (0)), (0, .ref (aA κ 0))]) hx hb d_Ut_close_10 rfl hl (by decide) rfl (fun ls hl => ?_)
    refine lv_iconst (v := nI 0) hx hb d_Ut_close_11 (by decide) ?_
    refine lv_istore_n (lv' := [(2, .int (nI 0)), (1, .int (0)), (0, .ref (aA κ 0))]) hx hb d_Ut_close_12 rfl hl (by decide) rfl (fun ls hl => ?_)
    exact L_13 (nA κ) 0 0 (by omega) c_4 rfl _ _ B ls (lv_sub hl [2, 1, 0] rfl)
  · refine lv_iconst (v := 0) hx hb d_Ut_close_7 (by decide) ?_
    exact zret_i hx hb hr hlocks B (⟨by simp [fx_closeR, c_4], by simp [fx_closeS, c_4]⟩) d_Ut_close_8
end
section
set_option maxHeartbeats 4000000 in
set_option maxRecDepth 100000 in
theorem c_Ut_takeTurns (l : Launch) (κ : KA) (σ : zS) (hn : nA κ ≤ 8) (N : Nat) (hN : σ.1 14 0 = nI N) (hNn : N ≤ nA κ) (hO : ∀ i, i < N → zin (σ.1 13 i) (nA κ)) : zMv l y_Ut_takeTurns (zws y_Ut_takeTurns prog_1_method_25_code 3 none) ({ frames := 0, cells := 0, slots := 0, locals := 0 }) κ.1 vwCl (tysA κ) nwA (wA κ) σ [.ref (aA κ 0)] (fun σ' => σ' = fx_takeTurns (nA κ) N σ) := by
  refine zintro (cc := prog_1_method_25_code) (maxL := 3) (ret := none) (by decide) rfl (Nat.le_of_ble_eq_true rfl) ?_
  intro p e s m below meth c ls hx hb hr hml hts hown hlocks hl B
  have hl : lv_has ls 3 [(0, .ref (aA κ 0))] := hl
  have B : BA κ (va_A (wA κ σ) s.heap.size) s.heap s σ s.heap [] := B
  have hr : meth.sig.returnType = none := hr
  have hown : s.vm.findClass "UnitThreads" = some m.cls := hown
  show W p l e (headSpec (zws y_Ut_takeTurns prog_1_method_25_code 3 none) ({ frames := 0, cells := 0, slots := 0, locals := 0 })).room s m [.ref (aA κ 0)].toArray below meth c s.heap [] 0 0 (MQ below (va_Qv (fun σ' => σ' = fx_takeTurns (nA κ) N σ) (zQ κ.1 vwCl (tysA κ) (wA κ) (va_A (wA κ σ) s.heap.size)) (va_A (wA κ σ) s.heap.size)) [.ref (aA κ 0)].toArray s 0 0 (va_A (wA κ σ) s.heap.size)) (F0 m 0 ls [])
  generalize va_A (wA κ σ) s.heap.size = A at B ⊢
  have hts : ∀ w ∈ zW, w.before [.ref (aA κ 0)].toArray s = true := fun w h => hts w (List.mem_cons_of_mem _ h)
  have L_29 : ∀ (j : Nat) (k : Nat) (τ : zS), (k + j = N) → (fx_takeTurns (nA κ) N σ = zit fx_turn1 j k τ) → (τ.1 14 0 = nI N) → (∀ i, i < N → zin (τ.1 13 i) (nA κ)) → ∀ (H : Heap) (locs : List Loc), BA κ A s.heap s τ H locs → ∀ (ls : Array Slot), lv_has ls 3 [(0, .ref (aA κ 0)), (1, .int (nI k))] → W p l e (headSpec (zws y_Ut_takeTurns prog_1_method_25_code 3 none) ({ frames := 0, cells := 0, slots := 0, locals := 0 })).room s m [.ref (aA κ 0)].toArray below meth c H locs 0 0 (MQ below (va_Qv (fun σ' => σ' = fx_takeTurns (nA κ) N σ) (zQ κ.1 vwCl (tysA κ) (wA κ) A) A) [.ref (aA κ 0)].toArray s 0 0 A) (F0 m 29 ls []) := by
    intro j
    induction j with
    | zero =>
      intro k τ hj hst hN hO H locs B ls hl
      refine lv_iload_n hx hb d_Ut_takeTurns_29 rfl (lv_at hl 1 rfl) ?_
      refine lv_aload_n hx hb d_Ut_takeTurns_30 rfl (lv_at hl 0 rfl) ?_
      refine va_get (D := κ.1) (ci := 5) (v := .ref (aA κ 8)) (C := "UnitThreads") (T := T_Ut) (N := 7) hx hb hts in_Ut hown B.1 B.2.1 0 (wa_0 κ τ) rfl 2 (by decide) (hts _ w_169) (fun _ h9 => h9) rfl d_Ut_takeTurns_31 ?_
      refine va_get (D := κ.1) (ci := 2) (v := .int (τ.1 14 0)) (C := "UnitThreads$Order") (T := T_Or) (N := 3) hx hb hts in_Or hown B.1 B.2.1 8 (wa_8 κ τ) rfl 1 (by decide) (hts _ w_105) (fun _ h9 => h9) rfl d_Ut_takeTurns_34 ?_
      refine zrwi (y := nI N) (hN) ?_
      refine lv_icmp_ge (tgt := 78) hx hb d_Ut_takeTurns_37 (by decide) (fun c_1 => ?_) (fun c_1 => ?_)
      · have c_1 := (nI_leI (a := N) (b := k) (by omega) (by omega)).mp c_1
        exact zret_v hx hb hr hlocks B (hst.symm) d_Ut_takeTurns_78
      · have c_1 := (not_congr (nI_leI (a := N) (b := k) (by omega) (by omega))).mp c_1
        exact absurd c_1 (by omega)
    | succ j ih =>
      intro k τ hj hst hN hO H locs B ls hl
      refine lv_iload_n hx hb d_Ut_takeTurns_29 rfl (lv_at hl 1 rfl) ?_
      refine lv_aload_n hx hb d_Ut_takeTurns_30 rfl (lv_at hl 0 rfl) ?_
      refine va_get (D := κ.1) (ci := 5) (v := .ref (aA κ 8)) (C := "UnitThreads") (T := T_Ut) (N := 7) hx hb hts in_Ut hown B.1 B.2.1 0 (wa_0 κ τ) rfl 2 (by decide) (hts _ w_169) (fun _ h9 => h9) rfl d_Ut_takeTurns_31 ?_
      refine va_get (D := κ.1) (ci := 2) (v := .int (τ.1 14 0)) (C := "UnitThreads$Order") (T := T_Or) (N := 3) hx hb hts in_Or hown B.1 B.2.1 8 (wa_8 κ τ) rfl 1 (by decide) (hts _ w_105) (fun _ h9 => h9) rfl d_Ut_takeTurns_34 ?_
      refine zrwi (y := nI N) (hN) ?_
      refine lv_icmp_ge (tgt := 78) hx hb d_Ut_takeTurns_37 (by decide) (fun c_2 => ?_) (fun c_2 => ?_)
      · have c_2 := (nI_leI (a := N) (b := k) (by omega) (by omega)).mp c_2
        exact absurd c_2 (by omega)
      · have c_2 := (not_congr (nI_leI (a := N) (b := k) (by omega) (by omega))).mp c_2
        refine lv_aload_n hx hb d_Ut_takeTurns_40 rfl (lv_at hl 0 rfl) ?_
        refine va_get (D := κ.1) (ci := 5) (v := .ref (aA κ 1)) (C := "UnitThreads") (T := T_Ut) (N := 7) hx hb hts in_Ut hown B.1 B.2.1 0 (wa_0 κ τ) rfl 0 (by decide) (hts _ w_167) (fun _ h9 => h9) rfl d_Ut_takeTurns_41 ?_
        refine lv_aload_n hx hb d_Ut_takeTurns_44 rfl (lv_at hl 0 rfl) ?_
        refine va_get (D := κ.1) (ci := 5) (v := .ref (aA κ 8)) (C := "UnitThreads") (T := T_Ut) (N := 7) hx hb hts in_Ut hown B.1 B.2.1 0 (wa_0 κ τ) rfl 2 (by decide) (hts _ w_169) (fun _ h9 => h9) rfl d_Ut_takeTurns_45 ?_
        refine va_get (D := κ.1) (ci := 2) (v := .ref (aA κ 9)) (C := "UnitThreads$Order") (T := T_Or) (N := 3) hx hb hts in_Or hown B.1 B.2.1 8 (wa_8 κ τ) rfl 0 (by decide) (hts _ w_103) (fun _ h9 => h9) rfl d_Ut_takeTurns_48 ?_
        refine lv_iload_n hx hb d_Ut_takeTurns_51 rfl (lv_at hl 1 rfl) ?_
        refine ziald hx hb B 9 0 (wa_9 κ τ) rfl k rfl (by omega) (by omega) d_Ut_takeTurns_52 ?_
        have hu_3 : tn (τ.1 13 k) < nA κ := (hO k (by omega)).2
        refine zaald hx hb B 1 2 (wa_1 κ τ) rfl (tn (τ.1 13 k)) ((hO k (by omega)).1) hu_3 (by omega) rfl d_Ut_takeTurns_53 ?_
        refine lv_astore_n (lv' := [(2, .ref (aA κ (64 + (tn (τ.1 13 k))))), (0, .ref (aA κ 0)), (1, .int (nI k))]) hx hb d_Ut_takeTurns_54 rfl hl (by decide) rfl (fun ls hl => ?_)
        refine lv_aload_n hx hb d_Ut_takeTurns_55 rfl (lv_at hl 0 rfl) ?_
        refine lv_aload_n hx hb d_Ut_takeTurns_56 rfl (lv_at hl 0 rfl) ?_
        refine va_get (D := κ.1) (ci := 0) (v := .int (τ.1 4 (tn (τ.1 13 k)))) (C := "UnitThreads$Unit") (T := T_Un) (N := 8) hx hb hts in_Un hown B.1 B.2.1 (43 + (tn (τ.1 13 k))) (wa_u κ τ hu_3) rfl 4 (by decide) (hts _ w_43) (fun _ h9 => h9) rfl d_Ut_takeTurns_57 ?_
        refine lv_iconst (v := (-1)) hx hb d_Ut_takeTurns_60 (by decide) ?_
        refine lv_icmp_ne (tgt := 68) hx hb d_Ut_takeTurns_61 (by decide) (fun c_4 => ?_) (fun c_4 => ?_)
        · refine lv_iconst (v := 2) hx hb d_Ut_takeTurns_68 (by decide) ?_
          refine zput (ci := 0) (v := .int (2)) (ty := .int) (C := "UnitThreads$Unit") (T := T_Un) (N := 8) hx hb hts in_Un ty_Un tyok_Un nm_Un hown B (43 + (tn (τ.1 13 k))) (wa_u κ τ hu_3) rfl 7 (by decide) (hts _ w_50) (fun _ h9 => h9) rfl (by decide +kernel) rfl rfl (Nat.le_of_ble_eq_true rfl) (wq_7 κ τ hu_3 2) d_Ut_takeTurns_69 (fun H locs B => ?_)
          have B : BA κ A s.heap s (zi τ 7 (tn (τ.1 13 k)) 2) H locs := B
          refine lv_iinc (v := nI (k + 1)) (lv' := [(1, .int (nI (k + 1))), (2, .ref (aA κ (64 + (tn (τ.1 13 k))))), (0, .ref (aA κ 0))]) hx hb d_Ut_takeTurns_72 hl (k := 2) rfl (zinc _) (by decide) rfl (fun ls hl => ?_)
          refine lv_goto (tgt := 29) hx hb d_Ut_takeTurns_75 (by decide) ?_
          exact ih (k + 1) (zi τ 7 (tn (τ.1 13 k)) 2) (by omega) (by rw [hst]; simp [zit, fx_turn1, c_2, c_4]) hN hO _ _ B ls (lv_sub hl [2, 0] rfl)
        · refine lv_iconst (v := 1) hx hb d_Ut_takeTurns_64 (by decide) ?_
          refine lv_goto (tgt := 69) hx hb d_Ut_takeTurns_65 (by decide) ?_
          refine zput (ci := 0) (v := .int (1)) (ty := .int) (C := "UnitThreads$Unit") (T := T_Un) (N := 8) hx hb hts in_Un ty_Un tyok_Un nm_Un hown B (43 + (tn (τ.1 13 k))) (wa_u κ τ hu_3) rfl 7 (by decide) (hts _ w_50) (fun _ h9 => h9) rfl (by decide +kernel) rfl rfl (Nat.le_of_ble_eq_true rfl) (wq_7 κ τ hu_3 1) d_Ut_takeTurns_69 (fun H locs B => ?_)
          have B : BA κ A s.heap s (zi τ 7 (tn (τ.1 13 k)) 1) H locs := B
          refine lv_iinc (v := nI (k + 1)) (lv' := [(1, .int (nI (k + 1))), (2, .ref (aA κ (64 + (tn (τ.1 13 k))))), (0, .ref (aA κ 0))]) hx hb d_Ut_takeTurns_72 hl (k := 2) rfl (zinc _) (by decide) rfl (fun ls hl => ?_)
          refine lv_goto (tgt := 29) hx hb d_Ut_takeTurns_75 (by decide) ?_
          exact ih (k + 1) (zi τ 7 (tn (τ.1 13 k)) 1) (by omega) (by rw [hst]; simp [zit, fx_turn1, c_2, c_4]) hN hO _ _ B ls (lv_sub hl [2, 0] rfl)
  have L_2 : ∀ (j : Nat) (k : Nat) (τ : zS), (k + j = nA κ) → (fx_takeTurns (nA κ) N σ = zit fx_turn1 N 0 (zit fx_turn0 j k τ)) → (τ.1 14 0 = nI N) → (∀ i, i < N → zin (τ.1 13 i) (nA κ)) → ∀ (H : Heap) (locs : List Loc), BA κ A s.heap s τ H locs → ∀ (ls : Array Slot), lv_has ls 3 [(0, .ref (aA κ 0)), (1, .int (nI k))] → W p l e (headSpec (zws y_Ut_takeTurns prog_1_method_25_code 3 none) ({ frames := 0, cells := 0, slots := 0, locals := 0 })).room s m [.ref (aA κ 0)].toArray below meth c H locs 0 0 (MQ below (va_Qv (fun σ' => σ' = fx_takeTurns (nA κ) N σ) (zQ κ.1 vwCl (tysA κ) (wA κ) A) A) [.ref (aA κ 0)].toArray s 0 0 A) (F0 m 2 ls []) := by
    intro j
    induction j with
    | zero =>
      intro k τ hj hst hN hO H locs B ls hl
      refine lv_iload_n hx hb d_Ut_takeTurns_2 rfl (lv_at hl 1 rfl) ?_
      refine lv_aload_n hx hb d_Ut_takeTurns_3 rfl (lv_at hl 0 rfl) ?_
      refine va_get (D := κ.1) (ci := 5) (v := .ref (aA κ 1)) (C := "UnitThreads") (T := T_Ut) (N := 7) hx hb hts in_Ut hown B.1 B.2.1 0 (wa_0 κ τ) rfl 0 (by decide) (hts _ w_167) (fun _ h9 => h9) rfl d_Ut_takeTurns_4 ?_
      refine zalen hx hb B 1 2 (wa_1 κ τ) rfl d_Ut_takeTurns_7 ?_
      refine lv_icmp_ge (tgt := 27) hx hb d_Ut_takeTurns_8 (by decide) (fun c_5 => ?_) (fun c_5 => ?_)
      · have c_5 := (nI_leI (a := nA κ) (b := k) (by omega) (by omega)).mp c_5
        refine lv_iconst (v := nI 0) hx hb d_Ut_takeTurns_27 (by decide) ?_
        refine lv_istore_n (lv' := [(1, .int (nI 0)), (0, .ref (aA κ 0))]) hx hb d_Ut_takeTurns_28 rfl hl (by decide) rfl (fun ls hl => ?_)
        exact L_29 N 0 τ (by omega) hst hN hO _ _ B ls (lv_sub hl [1, 0] rfl)
      · have c_5 := (not_congr (nI_leI (a := nA κ) (b := k) (by omega) (by omega))).mp c_5
        exact absurd c_5 (by omega)
    | succ j ih =>
      intro k τ hj hst hN hO H locs B ls hl
      refine lv_iload_n hx hb d_Ut_takeTurns_2 rfl (lv_at hl 1 rfl) ?_
      refine lv_aload_n hx hb d_Ut_takeTurns_3 rfl (lv_at hl 0 rfl) ?_
      refine va_get (D := κ.1) (ci := 5) (v := .ref (aA κ 1)) (C := "UnitThreads") (T := T_Ut) (N := 7) hx hb hts in_Ut hown B.1 B.2.1 0 (wa_0 κ τ) rfl 0 (by decide) (hts _ w_167) (fun _ h9 => h9) rfl d_Ut_takeTurns_4 ?_
      refine zalen hx hb B 1 2 (wa_1 κ τ) rfl d_Ut_takeTurns_7 ?_
      refine lv_icmp_ge (tgt := 27) hx hb d_Ut_takeTurns_8 (by decide) (fun c_6 => ?_) (fun c_6 => ?_)
      · have c_6 := (nI_leI (a := nA κ) (b := k) (by omega) (by omega)).mp c_6
        exact absurd c_6 (by omega)
      · have c_6 := (not_congr (nI_leI (a := nA κ) (b := k) (by omega) (by omega))).mp c_6
        refine lv_aload_n hx hb d_Ut_takeTurns_11 rfl (lv_at hl 0 rfl) ?_
        refine va_get (D := κ.1) (ci := 5) (v := .ref (aA κ 1)) (C := "UnitThreads") (T := T_Ut) (N := 7) hx hb hts in_Ut hown B.1 B.2.1 0 (wa_0 κ τ) rfl 0 (by decide) (hts _ w_167) (fun _ h9 => h9) rfl d_Ut_takeTurns_12 ?_
        refine lv_iload_n hx hb d_Ut_takeTurns_15 rfl (lv_at hl 1 rfl) ?_
        have hu_7 : k < nA κ := (by omega)
        refine zaald hx hb B 1 2 (wa_1 κ τ) rfl k rfl hu_7 (by omega) rfl d_Ut_takeTurns_16 ?_
        refine lv_iconst (v := (-1)) hx hb d_Ut_takeTurns_17 (by decide) ?_
        refine zput (ci := 0) (v := .int ((-1))) (ty := .int) (C := "UnitThreads$Unit") (T := T_Un) (N := 8) hx hb hts in_Un ty_Un tyok_Un nm_Un hown B (43 + k) (wa_u κ τ hu_7) rfl 7 (by decide) (hts _ w_50) (fun _ h9 => h9) rfl (by decide +kernel) rfl rfl (Nat.le_of_ble_eq_true rfl) (wq_7 κ τ hu_7 (-1)) d_Ut_takeTurns_18 (fun H locs B => ?_)
        have B : BA κ A s.heap s (zi τ 7 k (-1)) H locs := B
        refine lv_iinc (v := nI (k + 1)) (lv' := [(1, .int (nI (k + 1))), (0, .ref (aA κ 0))]) hx hb d_Ut_takeTurns_21 hl (k := 1) rfl (zinc _) (by decide) rfl (fun ls hl => ?_)
        refine lv_goto (tgt := 2) hx hb d_Ut_takeTurns_24 (by decide) ?_
        exact ih (k + 1) (zi τ 7 k (-1)) (by omega) hst hN hO _ _ B ls (lv_sub hl [1, 0] rfl)
  refine lv_iconst (v := nI 0) hx hb d_Ut_takeTurns_0 (by decide) ?_
  refine lv_istore_n (lv' := [(1, .int (nI 0)), (0, .ref (aA κ 0))]) hx hb d_Ut_takeTurns_1 rfl hl (by decide) rfl (fun ls hl => ?_)
  exact L_2 (nA κ) 0 σ (by omega) rfl hN hO _ _ B ls (lv_sub hl [1, 0] rfl)
set_option maxHeartbeats 4000000 in
set_option maxRecDepth 100000 in
theorem c_Ut_holdThrowers (l : Launch) (κ : KA) (σ : zS) (p1 : Int32) (hn : nA κ ≤ 8) (E : Nat) (hE : σ.1 12 0 = nI E) (hE3 : E ≤ 300) (hT : ∀ u, u < nA κ → σ.1 7 u = 2 → zin (σ.1 4 u) E) : zMv l y_Ut_holdThrowers (zws y_Ut_holdThrowers prog_1_method_26_code 4 none) ({ frames := 1, cells := 0, slots := 0, locals := 23 }) κ.1 vwCl (tysA κ) nwA (wA κ) σ [.ref (aA κ 0), .int (p1)] (fun σ' => σ' = fx_hold (nA κ) p1 σ) := by
  refine zintro (cc := prog_1_method_26_code) (maxL := 4) (ret := none) (by decide) rfl (Nat.le_of_ble_eq_true rfl) ?_
  intro p e s m below meth c ls hx hb hr hml hts hown hlocks hl B
  have hl : lv_has ls 4 [(0, .ref (aA κ 0)), (1, .int (p1))] := hl
  have B : BA κ (va_A (wA κ σ) s.heap.size) s.heap s σ s.heap [] := B
  have hr : meth.sig.returnType = none := hr
  have hown : s.vm.findClass "UnitThreads" = some m.cls := hown
  show W p l e (headSpec (zws y_Ut_holdThrowers prog_1_method_26_code 4 none) ({ frames := 1, cells := 0, slots := 0, locals := 23 })).room s m [.ref (aA κ 0), .int (p1)].toArray below meth c s.heap [] 0 0 (MQ below (va_Qv (fun σ' => σ' = fx_hold (nA κ) p1 σ) (zQ κ.1 vwCl (tysA κ) (wA κ) (va_A (wA κ σ) s.heap.size)) (va_A (wA κ σ) s.heap.size)) [.ref (aA κ 0), .int (p1)].toArray s 0 0 (va_A (wA κ σ) s.heap.size)) (F0 m 0 ls [])
  generalize va_A (wA κ σ) s.heap.size = A at B ⊢
  have hts : ∀ w ∈ zW, w.before [.ref (aA κ 0), .int (p1)].toArray s = true := fun w h => hts w (List.mem_cons_of_mem _ h)
  have L_2 : ∀ (j : Nat) (k : Nat) (τ : zS), (k + j = nA κ) → (fx_hold (nA κ) p1 σ = zit (fx_hold1 p1) j k τ) → (τ.1 12 0 = nI E) → (∀ u, u < nA κ → τ.1 7 u = 2 → zin (τ.1 4 u) E) → ∀ (H : Heap) (locs : List Loc), BA κ A s.heap s τ H locs → ∀ (ls : Array Slot), lv_has ls 4 [(0, .ref (aA κ 0)), (1, .int (p1)), (2, .int (nI k))] → W p l e (headSpec (zws y_Ut_holdThrowers prog_1_method_26_code 4 none) ({ frames := 1, cells := 0, slots := 0, locals := 23 })).room s m [.ref (aA κ 0), .int (p1)].toArray below meth c H locs 0 0 (MQ below (va_Qv (fun σ' => σ' = fx_hold (nA κ) p1 σ) (zQ κ.1 vwCl (tysA κ) (wA κ) A) A) [.ref (aA κ 0), .int (p1)].toArray s 0 0 A) (F0 m 2 ls []) := by
    intro j
    induction j with
    | zero =>
      intro k τ hj hst hE hT H locs B ls hl
      refine lv_iload_n hx hb d_Ut_holdThrowers_2 rfl (lv_at hl 2 rfl) ?_
      refine lv_aload_n hx hb d_Ut_holdThrowers_3 rfl (lv_at hl 0 rfl) ?_
      refine va_get (D := κ.1) (ci := 5) (v := .ref (aA κ 1)) (C := "UnitThreads") (T := T_Ut) (N := 7) hx hb hts in_Ut hown B.1 B.2.1 0 (wa_0 κ τ) rfl 0 (by decide) (hts _ w_167) (fun _ h9 => h9) rfl d_Ut_holdThrowers_4 ?_
      refine zalen hx hb B 1 2 (wa_1 κ τ) rfl d_Ut_holdThrowers_7 ?_
      refine lv_icmp_ge (tgt := 61) hx hb d_Ut_holdThrowers_8 (by decide) (fun c_1 => ?_) (fun c_1 => ?_)
      · have c_1 := (nI_leI (a := nA κ) (b := k) (by omega) (by omega)).mp c_1
        exact zret_v hx hb hr hlocks B (hst.symm) d_Ut_holdThrowers_61
      · have c_1 := (not_congr (nI_leI (a := nA κ) (b := k) (by omega) (by omega))).mp c_1
        exact absurd c_1 (by omega)
    | succ j ih =>
      intro k τ hj hst hE hT H locs B ls hl
      refine lv_iload_n hx hb d_Ut_holdThrowers_2 rfl (lv_at hl 2 rfl) ?_
      refine lv_aload_n hx hb d_Ut_holdThrowers_3 rfl (lv_at hl 0 rfl) ?_
      refine va_get (D := κ.1) (ci := 5) (v := .ref (aA κ 1)) (C := "UnitThreads") (T := T_Ut) (N := 7) hx hb hts in_Ut hown B.1 B.2.1 0 (wa_0 κ τ) rfl 0 (by decide) (hts _ w_167) (fun _ h9 => h9) rfl d_Ut_holdThrowers_4 ?_
      refine zalen hx hb B 1 2 (wa_1 κ τ) rfl d_Ut_holdThrowers_7 ?_
      refine lv_icmp_ge (tgt := 61) hx hb d_Ut_holdThrowers_8 (by decide) (fun c_2 => ?_) (fun c_2 => ?_)
      · have c_2 := (nI_leI (a := nA κ) (b := k) (by omega) (by omega)).mp c_2
        exact absurd c_2 (by omega)
      · have c_2 := (not_congr (nI_leI (a := nA κ) (b := k) (by omega) (by omega))).mp c_2
        refine lv_aload_n hx hb d_Ut_holdThrowers_11 rfl (lv_at hl 0 rfl) ?_
        refine va_get (D := κ.1) (ci := 5) (v := .ref (aA κ 1)) (C := "UnitThreads") (T := T_Ut) (N := 7) hx hb hts in_Ut hown B.1 B.2.1 0 (wa_0 κ τ) rfl 0 (by decide) (hts _ w_167) (fun _ h9 => h9) rfl d_Ut_holdThrowers_12 ?_
        refine lv_iload_n hx hb d_Ut_holdThrowers_15 rfl (lv_at hl 2 rfl) ?_
        have hu_3 : k < nA κ := (by omega)
        refine zaald hx hb B 1 2 (wa_1 κ τ) rfl k rfl hu_3 (by omega) rfl d_Ut_holdThrowers_16 ?_
        refine lv_astore_n (lv' := [(3, .ref (aA κ (64 + k))), (0, .ref (aA κ 0)), (1, .int (p1)), (2, .int (nI k))]) hx hb d_Ut_holdThrowers_17 rfl hl (by decide) rfl (fun ls hl => ?_)
        refine lv_aload_n hx hb d_Ut_holdThrowers_18 rfl (lv_at hl 0 rfl) ?_
        refine va_get (D := κ.1) (ci := 0) (v := .int (τ.1 7 k)) (C := "UnitThreads$Unit") (T := T_Un) (N := 8) hx hb hts in_Un hown B.1 B.2.1 (43 + k) (wa_u κ τ hu_3) rfl 7 (by decide) (hts _ w_50) (fun _ h9 => h9) rfl d_Ut_holdThrowers_19 ?_
        refine lv_iconst (v := 2) hx hb d_Ut_holdThrowers_22 (by decide) ?_
        refine lv_icmp_ne (tgt := 55) hx hb d_Ut_holdThrowers_23 (by decide) (fun c_4 => ?_) (fun c_4 => ?_)
        · refine lv_iinc (v := nI (k + 1)) (lv' := [(2, .int (nI (k + 1))), (3, .ref (aA κ (64 + k))), (0, .ref (aA κ 0)), (1, .int (p1))]) hx hb d_Ut_holdThrowers_55 hl (k := 3) rfl (zinc _) (by decide) rfl (fun ls hl => ?_)
          refine lv_goto (tgt := 2) hx hb d_Ut_holdThrowers_58 (by decide) ?_
          exact ih (k + 1) τ (by omega) (by rw [hst]; simp [zit, fx_hold1, c_2, c_4]) hE hT _ _ B ls (lv_sub hl [2, 3, 0] rfl)
        · refine lv_aload_n hx hb d_Ut_holdThrowers_26 rfl (lv_at hl 1 rfl) ?_
          refine va_get (D := κ.1) (ci := 5) (v := .ref (aA κ 2)) (C := "UnitThreads") (T := T_Ut) (N := 7) hx hb hts in_Ut hown B.1 B.2.1 0 (wa_0 κ τ) rfl 1 (by decide) (hts _ w_168) (fun _ h9 => h9) rfl d_Ut_holdThrowers_27 ?_
          refine lv_aload_n hx hb d_Ut_holdThrowers_30 rfl (lv_at hl 0 rfl) ?_
          refine va_get (D := κ.1) (ci := 0) (v := .int (τ.1 4 k)) (C := "UnitThreads$Unit") (T := T_Un) (N := 8) hx hb hts in_Un hown B.1 B.2.1 (43 + k) (wa_u κ τ hu_3) rfl 4 (by decide) (hts _ w_43) (fun _ h9 => h9) rfl d_Ut_holdThrowers_31 ?_
          refine zrwi (y := nI (tn (τ.1 4 k))) ((hT k (by omega) c_4).1) ?_
          refine zcV_v (As := [.int (nI (tn (τ.1 4 k)))]) (rest := []) ⟨hx, hb, hml, hown, hts⟩ (c_En_markThrown l κ τ (tn (τ.1 4 k)) E hE hE3 (hT k (by omega) c_4).2) (cwV 1 hts (zgoodV w_293 w_294 w_295 w_4 w_296) rfl rfl rfl (by decide +kernel) ⟨Nat.le_of_ble_eq_true rfl, Nat.le_of_ble_eq_true rfl⟩) B (zrecv B (ci := 1) rfl (wa_2 κ τ)) rfl hl.1 rfl (Nat.le_of_ble_eq_true rfl) d_Ut_holdThrowers_34 ⟨Nat.zero_le _, Nat.zero_le _⟩ (fun σ' H locs hp B => ?_)
          rw [hp] at B
          have B : BA κ A s.heap s (zi τ 8 (tn (τ.1 4 k)) 3) H locs := B
          refine lv_aload_n hx hb d_Ut_holdThrowers_37 rfl (lv_at hl 0 rfl) ?_
          refine lv_iconst (v := 2) hx hb d_Ut_holdThrowers_38 (by decide) ?_
          refine zput (ci := 0) (v := .int (2)) (ty := .int) (C := "UnitThreads$Unit") (T := T_Un) (N := 8) hx hb hts in_Un ty_Un tyok_Un nm_Un hown B (43 + k) (wa_u κ (zi τ 8 (tn (τ.1 4 k)) 3) hu_3) rfl 2 (by decide) (hts _ w_38) (fun _ h9 => h9) rfl (by decide +kernel) rfl rfl (Nat.le_of_ble_eq_true rfl) (wq_2 κ (zi τ 8 (tn (τ.1 4 k)) 3) hu_3 2) d_Ut_holdThrowers_39 (fun H locs B => ?_)
          have B : BA κ A s.heap s (zi (zi τ 8 (tn (τ.1 4 k)) 3) 2 k 2) H locs := B
          refine lv_aload_n hx hb d_Ut_holdThrowers_42 rfl (lv_at hl 0 rfl) ?_
          refine lv_iload_n hx hb d_Ut_holdThrowers_43 rfl (lv_at hl 2 rfl) ?_
          refine zput (ci := 0) (v := .int (p1)) (ty := .int) (C := "UnitThreads$Unit") (T := T_Un) (N := 8) hx hb hts in_Un ty_Un tyok_Un nm_Un hown B (43 + k) (wa_u κ (zi (zi τ 8 (tn (τ.1 4 k)) 3) 2 k 2) hu_3) rfl 3 (by decide) (hts _ w_40) (fun _ h9 => h9) rfl (by decide +kernel) rfl rfl (Nat.le_of_ble_eq_true rfl) (wq_3 κ (zi (zi τ 8 (tn (τ.1 4 k)) 3) 2 k 2) hu_3 p1) d_Ut_holdThrowers_44 (fun H locs B => ?_)
          have B : BA κ A s.heap s (zi (zi (zi τ 8 (tn (τ.1 4 k)) 3) 2 k 2) 3 k p1) H locs := B
          refine lv_aload_n hx hb d_Ut_holdThrowers_47 rfl (lv_at hl 1 rfl) ?_
          refine va_get (D := κ.1) (ci := 5) (v := .ref (aA κ 14)) (C := "UnitThreads") (T := T_Ut) (N := 7) hx hb hts in_Ut hown B.1 B.2.1 0 (wa_0 κ (zi (zi (zi τ 8 (tn (τ.1 4 k)) 3) 2 k 2) 3 k p1)) rfl 4 (by decide) (hts _ w_171) (fun _ h9 => h9) rfl d_Ut_holdThrowers_48 ?_
          refine lv_iload_n hx hb d_Ut_holdThrowers_51 rfl (lv_at hl 3 rfl) ?_
          refine zcV_v (As := [.int (nI k)]) (rest := []) ⟨hx, hb, hml, hown, hts⟩ (c_Bo_makeSafe l κ (zi (zi (zi τ 8 (tn (τ.1 4 k)) 3) 2 k 2) 3 k p1) k (by omega) hn) (cwV 1 hts (zgoodV w_297 w_298 w_299 w_7 w_300) rfl rfl rfl (by decide +kernel) ⟨Nat.le_of_ble_eq_true rfl, Nat.le_of_ble_eq_true rfl⟩) B (zrecv B (ci := 4) rfl (wa_14 κ (zi (zi (zi τ 8 (tn (τ.1 4 k)) 3) 2 k 2) 3 k p1))) rfl hl.1 rfl (Nat.le_of_ble_eq_true rfl) d_Ut_holdThrowers_52 ⟨Nat.zero_le _, Nat.zero_le _⟩ (fun σ' H locs hp B => ?_)
          rw [hp] at B
          have B : BA κ A s.heap s (fx_makeSafe (zi (zi (zi τ 8 (tn (τ.1 4 k)) 3) 2 k 2) 3 k p1) k) H locs := B
          refine lv_iinc (v := nI (k + 1)) (lv' := [(2, .int (nI (k + 1))), (3, .ref (aA κ (64 + k))), (0, .ref (aA κ 0)), (1, .int (p1))]) hx hb d_Ut_holdThrowers_55 hl (k := 3) rfl (zinc _) (by decide) rfl (fun ls hl => ?_)
          refine lv_goto (tgt := 2) hx hb d_Ut_holdThrowers_58 (by decide) ?_
          exact ih (k + 1) (fx_makeSafe (zi (zi (zi τ 8 (tn (τ.1 4 k)) 3) 2 k 2) 3 k p1) k) (by omega) (by rw [hst]; simp [zit, fx_hold1, c_2, c_4]) (by rw [fx_makeSafe_1]; exact hE) (by rw [fx_makeSafe_1]; exact hT) _ _ B ls (lv_sub hl [2, 3, 0] rfl)
  refine lv_iconst (v := nI 0) hx hb d_Ut_holdThrowers_0 (by decide) ?_
  refine lv_istore_n (lv' := [(2, .int (nI 0)), (0, .ref (aA κ 0)), (1, .int (p1))]) hx hb d_Ut_holdThrowers_1 rfl hl (by decide) rfl (fun ls hl => ?_)
  exact L_2 (nA κ) 0 σ (by omega) rfl hE hT _ _ B ls (lv_sub hl [1, 2, 0] rfl)
set_option maxHeartbeats 4000000 in
set_option maxRecDepth 100000 in
theorem c_Ut_leastAsker (l : Launch) (κ : KA) (σ : zS) (p1 : Int32) (hn : nA κ ≤ 8) : zMi l y_Ut_leastAsker (zws y_Ut_leastAsker prog_1_method_28_code 3 (some .int)) ({ frames := 1, cells := 0, slots := 0, locals := 21 }) κ.1 vwCl (tysA κ) nwA (wA κ) σ [.ref (aA κ 0), .int (p1)] (fun r σ' => r = fx_least σ p1 (nA κ) 0 ∧ σ' = σ) := by
  refine zintro (cc := prog_1_method_28_code) (maxL := 3) (ret := (some .int)) (by decide) rfl (Nat.le_of_ble_eq_true rfl) ?_
  intro p e s m below meth c ls hx hb hr hml hts hown hlocks hl B
  have hl : lv_has ls 3 [(0, .ref (aA κ 0)), (1, .int (p1))] := hl
  have B : BA κ (va_A (wA κ σ) s.heap.size) s.heap s σ s.heap [] := B
  have hr : meth.sig.returnType = (some .int) := hr
  have hown : s.vm.findClass "UnitThreads" = some m.cls := hown
  show W p l e (headSpec (zws y_Ut_leastAsker prog_1_method_28_code 3 (some .int)) ({ frames := 1, cells := 0, slots := 0, locals := 21 })).room s m [.ref (aA κ 0), .int (p1)].toArray below meth c s.heap [] 0 0 (MQ below (va_Qi (fun r σ' => r = fx_least σ p1 (nA κ) 0 ∧ σ' = σ) (zQ κ.1 vwCl (tysA κ) (wA κ) (va_A (wA κ σ) s.heap.size)) (va_A (wA κ σ) s.heap.size)) [.ref (aA κ 0), .int (p1)].toArray s 0 0 (va_A (wA κ σ) s.heap.size)) (F0 m 0 ls [])
  generalize va_A (wA κ σ) s.heap.size = A at B ⊢
  have hts : ∀ w ∈ zW, w.before [.ref (aA κ 0), .int (p1)].toArray s = true := fun w h => hts w (List.mem_cons_of_mem _ h)
  have L_2 : ∀ (j : Nat) (k : Nat), (k + j = nA κ) → (fx_least σ p1 (nA κ) 0 = fx_least σ p1 j k) → ∀ (H : Heap) (locs : List Loc), BA κ A s.heap s σ H locs → ∀ (ls : Array Slot), lv_has ls 3 [(0, .ref (aA κ 0)), (1, .int (p1)), (2, .int (nI k))] → W p l e (headSpec (zws y_Ut_leastAsker prog_1_method_28_code 3 (some .int)) ({ frames := 1, cells := 0, slots := 0, locals := 21 })).room s m [.ref (aA κ 0), .int (p1)].toArray below meth c H locs 0 0 (MQ below (va_Qi (fun r σ' => r = fx_least σ p1 (nA κ) 0 ∧ σ' = σ) (zQ κ.1 vwCl (tysA κ) (wA κ) A) A) [.ref (aA κ 0), .int (p1)].toArray s 0 0 A) (F0 m 2 ls []) := by
    intro j
    induction j with
    | zero =>
      intro k hj hst H locs B ls hl
      refine lv_iload_n hx hb d_Ut_leastAsker_2 rfl (lv_at hl 2 rfl) ?_
      refine lv_aload_n hx hb d_Ut_leastAsker_3 rfl (lv_at hl 0 rfl) ?_
      refine va_get (D := κ.1) (ci := 5) (v := .ref (aA κ 1)) (C := "UnitThreads") (T := T_Ut) (N := 7) hx hb hts in_Ut hown B.1 B.2.1 0 (wa_0 κ σ) rfl 0 (by decide) (hts _ w_167) (fun _ h9 => h9) rfl d_Ut_leastAsker_4 ?_
      refine zalen hx hb B 1 2 (wa_1 κ σ) rfl d_Ut_leastAsker_7 ?_
      refine lv_icmp_ge (tgt := 48) hx hb d_Ut_leastAsker_8 (by decide) (fun c_1 => ?_) (fun c_1 => ?_)
      · have c_1 := (nI_leI (a := nA κ) (b := k) (by omega) (by omega)).mp c_1
        refine lv_iconst (v := (-1)) hx hb d_Ut_leastAsker_48 (by decide) ?_
        exact zret_i hx hb hr hlocks B (⟨by rw [hst]; simp [fx_least, c_1], rfl⟩) d_Ut_leastAsker_49
      · have c_1 := (not_congr (nI_leI (a := nA κ) (b := k) (by omega) (by omega))).mp c_1
        exact absurd c_1 (by omega)
    | succ j ih =>
      intro k hj hst H locs B ls hl
      refine lv_iload_n hx hb d_Ut_leastAsker_2 rfl (lv_at hl 2 rfl) ?_
      refine lv_aload_n hx hb d_Ut_leastAsker_3 rfl (lv_at hl 0 rfl) ?_
      refine va_get (D := κ.1) (ci := 5) (v := .ref (aA κ 1)) (C := "UnitThreads") (T := T_Ut) (N := 7) hx hb hts in_Ut hown B.1 B.2.1 0 (wa_0 κ σ) rfl 0 (by decide) (hts _ w_167) (fun _ h9 => h9) rfl d_Ut_leastAsker_4 ?_
      refine zalen hx hb B 1 2 (wa_1 κ σ) rfl d_Ut_leastAsker_7 ?_
      refine lv_icmp_ge (tgt := 48) hx hb d_Ut_leastAsker_8 (by decide) (fun c_2 => ?_) (fun c_2 => ?_)
      · have c_2 := (nI_leI (a := nA κ) (b := k) (by omega) (by omega)).mp c_2
        exact absurd c_2 (by omega)
      · have c_2 := (not_congr (nI_leI (a := nA κ) (b := k) (by omega) (by omega))).mp c_2
        refine lv_aload_n hx hb d_Ut_leastAsker_11 rfl (lv_at hl 0 rfl) ?_
        refine va_get (D := κ.1) (ci := 5) (v := .ref (aA κ 1)) (C := "UnitThreads") (T := T_Ut) (N := 7) hx hb hts in_Ut hown B.1 B.2.1 0 (wa_0 κ σ) rfl 0 (by decide) (hts _ w_167) (fun _ h9 => h9) rfl d_Ut_leastAsker_12 ?_
        refine lv_iload_n hx hb d_Ut_leastAsker_15 rfl (lv_at hl 2 rfl) ?_
        have hu_3 : k < nA κ := (by omega)
        refine zaald hx hb B 1 2 (wa_1 κ σ) rfl k rfl hu_3 (by omega) rfl d_Ut_leastAsker_16 ?_
        refine va_get (D := κ.1) (ci := 0) (v := .int (σ.1 7 k)) (C := "UnitThreads$Unit") (T := T_Un) (N := 8) hx hb hts in_Un hown B.1 B.2.1 (43 + k) (wa_u κ σ hu_3) rfl 7 (by decide) (hts _ w_50) (fun _ h9 => h9) rfl d_Ut_leastAsker_17 ?_
        refine lv_iconst (v := 1) hx hb d_Ut_leastAsker_20 (by decide) ?_
        refine lv_icmp_ne (tgt := 42) hx hb d_Ut_leastAsker_21 (by decide) (fun c_4 => ?_) (fun c_4 => ?_)
        · refine lv_iinc (v := nI (k + 1)) (lv' := [(2, .int (nI (k + 1))), (0, .ref (aA κ 0)), (1, .int (p1))]) hx hb d_Ut_leastAsker_42 hl (k := 2) rfl (zinc _) (by decide) rfl (fun ls hl => ?_)
          refine lv_goto (tgt := 2) hx hb d_Ut_leastAsker_45 (by decide) ?_
          exact ih (k + 1) (by omega) (by rw [hst]; simp [fx_least, c_2, c_4]) _ _ B ls (lv_sub hl [1, 2, 0] rfl)
        · refine lv_aload_n hx hb d_Ut_leastAsker_24 rfl (lv_at hl 0 rfl) ?_
          refine va_get (D := κ.1) (ci := 5) (v := .ref (aA κ 1)) (C := "UnitThreads") (T := T_Ut) (N := 7) hx hb hts in_Ut hown B.1 B.2.1 0 (wa_0 κ σ) rfl 0 (by decide) (hts _ w_167) (fun _ h9 => h9) rfl d_Ut_leastAsker_25 ?_
          refine lv_iload_n hx hb d_Ut_leastAsker_28 rfl (lv_at hl 2 rfl) ?_
          have hu_5 : k < nA κ := (by omega)
          refine zaald hx hb B 1 2 (wa_1 κ σ) rfl k rfl hu_5 (by omega) rfl d_Ut_leastAsker_29 ?_
          refine zcV_i (As := []) (rest := []) ⟨hx, hb, hml, hown, hts⟩ (c_Un_asked l κ σ k hu_5 ) (cwV 0 hts (zgoodV w_309 w_310 w_311 w_3 w_312) rfl rfl rfl (by decide +kernel) ⟨Nat.le_of_ble_eq_true rfl, Nat.le_of_ble_eq_true rfl⟩) B (zrecv B (ci := 0) rfl (wa_u κ σ hu_5)) rfl hl.1 rfl (Nat.le_of_ble_eq_true rfl) d_Ut_leastAsker_30 ⟨Nat.zero_le _, Nat.zero_le _⟩ (fun r σ' H locs hp B => ?_)
          obtain ⟨rfl, hp⟩ := hp
          rw [hp] at B
          have B : BA κ A s.heap s σ H locs := B
          refine lv_iload_n hx hb d_Ut_leastAsker_33 rfl (lv_at hl 1 rfl) ?_
          refine zcS_i (As := [.int (fx_asked σ k), .int (p1)]) (rest := []) ⟨hx, hb, hml, hown, hts⟩ (c_Ut_hasWay l κ σ (fx_asked σ k) p1 ) (cwS 2 hts (zgoodS w_239 w_240 w_1 w_241) rfl rfl rfl (by decide +kernel) ⟨Nat.le_of_ble_eq_true rfl, Nat.le_of_ble_eq_true rfl⟩) B rfl hl.1 rfl (Nat.le_of_ble_eq_true rfl) d_Ut_leastAsker_34 ⟨Nat.zero_le _, Nat.zero_le _⟩ (fun r σ' H locs hp B => ?_)
          obtain ⟨rfl, hp⟩ := hp
          rw [hp] at B
          have B : BA κ A s.heap s σ H locs := B
          refine lv_if_eq (tgt := 42) hx hb d_Ut_leastAsker_37 (by decide) (fun c_6 => ?_) (fun c_6 => ?_)
          · have c_6 := zb_eq0.mp c_6
            refine lv_iinc (v := nI (k + 1)) (lv' := [(2, .int (nI (k + 1))), (0, .ref (aA κ 0)), (1, .int (p1))]) hx hb d_Ut_leastAsker_42 hl (k := 2) rfl (zinc _) (by decide) rfl (fun ls hl => ?_)
            refine lv_goto (tgt := 2) hx hb d_Ut_leastAsker_45 (by decide) ?_
            exact ih (k + 1) (by omega) (by rw [hst]; simp [fx_least, c_2, c_4, c_6]) _ _ B ls (lv_sub hl [1, 2, 0] rfl)
          · have c_6 := zb_ne0.mp c_6
            refine lv_iload_n hx hb d_Ut_leastAsker_40 rfl (lv_at hl 2 rfl) ?_
            exact zret_i hx hb hr hlocks B (⟨by rw [hst]; simp [fx_least, c_2, c_4, c_6], rfl⟩) d_Ut_leastAsker_41
  refine lv_iconst (v := nI 0) hx hb d_Ut_leastAsker_0 (by decide) ?_
  refine lv_istore_n (lv' := [(2, .int (nI 0)), (0, .ref (aA κ 0)), (1, .int (p1))]) hx hb d_Ut_leastAsker_1 rfl hl (by decide) rfl (fun ls hl => ?_)
  exact L_2 (nA κ) 0 (by omega) rfl _ _ B ls (lv_sub hl [1, 2, 0] rfl)
set_option maxHeartbeats 4000000 in
set_option maxRecDepth 100000 in
theorem c_Ut_grantWays (l : Launch) (κ : KA) (σ : zS) (p1 : Int32) (hn : nA κ ≤ 8) : zMv l y_Ut_grantWays (zws y_Ut_grantWays prog_1_method_27_code 3 none) ({ frames := 2, cells := 0, slots := 0, locals := 43 }) κ.1 vwCl (tysA κ) nwA (wA κ) σ [.ref (aA κ 0), .int (p1)] (fun σ' => σ' = fx_grant (nA κ) p1 σ) := by
  refine zintro (cc := prog_1_method_27_code) (maxL := 3) (ret := none) (by decide) rfl (Nat.le_of_ble_eq_true rfl) ?_
  intro p e s m below meth c ls hx hb hr hml hts hown hlocks hl B
  have hl : lv_has ls 3 [(0, .ref (aA κ 0)), (1, .int (p1))] := hl
  have B : BA κ (va_A (wA κ σ) s.heap.size) s.heap s σ s.heap [] := B
  have hr : meth.sig.returnType = none := hr
  have hown : s.vm.findClass "UnitThreads" = some m.cls := hown
  show W p l e (headSpec (zws y_Ut_grantWays prog_1_method_27_code 3 none) ({ frames := 2, cells := 0, slots := 0, locals := 43 })).room s m [.ref (aA κ 0), .int (p1)].toArray below meth c s.heap [] 0 0 (MQ below (va_Qv (fun σ' => σ' = fx_grant (nA κ) p1 σ) (zQ κ.1 vwCl (tysA κ) (wA κ) (va_A (wA κ σ) s.heap.size)) (va_A (wA κ σ) s.heap.size)) [.ref (aA κ 0), .int (p1)].toArray s 0 0 (va_A (wA κ σ) s.heap.size)) (F0 m 0 ls [])
  generalize va_A (wA κ σ) s.heap.size = A at B ⊢
  have hts : ∀ w ∈ zW, w.before [.ref (aA κ 0), .int (p1)].toArray s = true := fun w h => hts w (List.mem_cons_of_mem _ h)
  have L_2 : ∀ (j : Nat) (k : Nat) (τ : zS), (k + j = 16) → (fx_grant (nA κ) p1 σ = zit (fx_grant1 (nA κ) p1) j k τ) → ∀ (H : Heap) (locs : List Loc), BA κ A s.heap s τ H locs → ∀ (ls : Array Slot), lv_has ls 3 [(0, .ref (aA κ 0)), (1, .int (p1)), (2, .int (nI k))] → W p l e (headSpec (zws y_Ut_grantWays prog_1_method_27_code 3 none) ({ frames := 2, cells := 0, slots := 0, locals := 43 })).room s m [.ref (aA κ 0), .int (p1)].toArray below meth c H locs 0 0 (MQ below (va_Qv (fun σ' => σ' = fx_grant (nA κ) p1 σ) (zQ κ.1 vwCl (tysA κ) (wA κ) A) A) [.ref (aA κ 0), .int (p1)].toArray s 0 0 A) (F0 m 2 ls []) := by
    intro j
    induction j with
    | zero =>
      intro k τ hj hst H locs B ls hl
      refine lv_iload_n hx hb d_Ut_grantWays_2 rfl (lv_at hl 2 rfl) ?_
      refine lv_bipush (v := nI 16) hx hb d_Ut_grantWays_3 (by decide) ?_
      refine lv_icmp_ge (tgt := 49) hx hb d_Ut_grantWays_5 (by decide) (fun c_1 => ?_) (fun c_1 => ?_)
      · have c_1 := (nI_leI (a := 16) (b := k) (by omega) (by omega)).mp c_1
        exact zret_v hx hb hr hlocks B (hst.symm) d_Ut_grantWays_49
      · have c_1 := (not_congr (nI_leI (a := 16) (b := k) (by omega) (by omega))).mp c_1
        exact absurd c_1 (by omega)
    | succ j ih =>
      intro k τ hj hst H locs B ls hl
      refine lv_iload_n hx hb d_Ut_grantWays_2 rfl (lv_at hl 2 rfl) ?_
      refine lv_bipush (v := nI 16) hx hb d_Ut_grantWays_3 (by decide) ?_
      refine lv_icmp_ge (tgt := 49) hx hb d_Ut_grantWays_5 (by decide) (fun c_2 => ?_) (fun c_2 => ?_)
      · have c_2 := (nI_leI (a := 16) (b := k) (by omega) (by omega)).mp c_2
        exact absurd c_2 (by omega)
      · have c_2 := (not_congr (nI_leI (a := 16) (b := k) (by omega) (by omega))).mp c_2
        refine lv_aload_n hx hb d_Ut_grantWays_8 rfl (lv_at hl 0 rfl) ?_
        refine va_get (D := κ.1) (ci := 5) (v := .ref (aA κ 14)) (C := "UnitThreads") (T := T_Ut) (N := 7) hx hb hts in_Ut hown B.1 B.2.1 0 (wa_0 κ τ) rfl 4 (by decide) (hts _ w_171) (fun _ h9 => h9) rfl d_Ut_grantWays_9 ?_
        refine va_get (D := κ.1) (ci := 4) (v := .ref (aA κ 17)) (C := "UnitThreads$Board") (T := T_Bo) (N := 6) hx hb hts in_Bo hown B.1 B.2.1 14 (wa_14 κ τ) rfl 2 (by decide) (hts _ w_149) (fun _ h9 => h9) rfl d_Ut_grantWays_12 ?_
        refine lv_iload_n hx hb d_Ut_grantWays_15 rfl (lv_at hl 2 rfl) ?_
        refine ziald hx hb B 17 0 (wa_17 κ τ) rfl k rfl (by omega) (by decide) d_Ut_grantWays_16 ?_
        refine lv_iconst (v := (-1)) hx hb d_Ut_grantWays_17 (by decide) ?_
        refine lv_icmp_ne (tgt := 43) hx hb d_Ut_grantWays_18 (by decide) (fun c_3 => ?_) (fun c_3 => ?_)
        · refine lv_iinc (v := nI (k + 1)) (lv' := [(2, .int (nI (k + 1))), (0, .ref (aA κ 0)), (1, .int (p1))]) hx hb d_Ut_grantWays_43 hl (k := 2) rfl (zinc _) (by decide) rfl (fun ls hl => ?_)
          refine lv_goto (tgt := 2) hx hb d_Ut_grantWays_46 (by decide) ?_
          exact ih (k + 1) τ (by omega) (by rw [hst]; simp [zit, fx_grant1, c_2, c_3]) _ _ B ls (lv_sub hl [1, 2, 0] rfl)
        · refine lv_iload_n hx hb d_Ut_grantWays_21 rfl (lv_at hl 1 rfl) ?_
          refine lv_iload_n hx hb d_Ut_grantWays_22 rfl (lv_at hl 2 rfl) ?_
          refine zcS_i (As := [.int (p1), .int (nI k)]) (rest := []) ⟨hx, hb, hml, hown, hts⟩ (c_Ut_hasWay l κ τ p1 (nI k) ) (cwS 2 hts (zgoodS w_239 w_240 w_1 w_241) rfl rfl rfl (by decide +kernel) ⟨Nat.le_of_ble_eq_true rfl, Nat.le_of_ble_eq_true rfl⟩) B rfl hl.1 rfl (Nat.le_of_ble_eq_true rfl) d_Ut_grantWays_23 ⟨Nat.zero_le _, Nat.zero_le _⟩ (fun r σ' H locs hp B => ?_)
          obtain ⟨rfl, hp⟩ := hp
          rw [hp] at B
          have B : BA κ A s.heap s τ H locs := B
          refine lv_if_ne (tgt := 43) hx hb d_Ut_grantWays_26 (by decide) (fun c_4 => ?_) (fun c_4 => ?_)
          · have c_4 := zb_ne0.mp c_4
            refine lv_iinc (v := nI (k + 1)) (lv' := [(2, .int (nI (k + 1))), (0, .ref (aA κ 0)), (1, .int (p1))]) hx hb d_Ut_grantWays_43 hl (k := 2) rfl (zinc _) (by decide) rfl (fun ls hl => ?_)
            refine lv_goto (tgt := 2) hx hb d_Ut_grantWays_46 (by decide) ?_
            exact ih (k + 1) τ (by omega) (by rw [hst]; simp [zit, fx_grant1, c_2, c_3, c_4]) _ _ B ls (lv_sub hl [1, 2, 0] rfl)
          · have c_4 := zb_eq0.mp c_4
            refine lv_aload_n hx hb d_Ut_grantWays_29 rfl (lv_at hl 0 rfl) ?_
            refine va_get (D := κ.1) (ci := 5) (v := .ref (aA κ 14)) (C := "UnitThreads") (T := T_Ut) (N := 7) hx hb hts in_Ut hown B.1 B.2.1 0 (wa_0 κ τ) rfl 4 (by decide) (hts _ w_171) (fun _ h9 => h9) rfl d_Ut_grantWays_30 ?_
            refine va_get (D := κ.1) (ci := 4) (v := .ref (aA κ 17)) (C := "UnitThreads$Board") (T := T_Bo) (N := 6) hx hb hts in_Bo hown B.1 B.2.1 14 (wa_14 κ τ) rfl 2 (by decide) (hts _ w_149) (fun _ h9 => h9) rfl d_Ut_grantWays_33 ?_
            refine lv_iload_n hx hb d_Ut_grantWays_36 rfl (lv_at hl 2 rfl) ?_
            refine lv_aload_n hx hb d_Ut_grantWays_37 rfl (lv_at hl 0 rfl) ?_
            refine lv_iload_n hx hb d_Ut_grantWays_38 rfl (lv_at hl 2 rfl) ?_
            refine zcV_i (As := [.int (nI k)]) (rest := [.int (nI k), .ref (aA κ 17)]) ⟨hx, hb, hml, hown, hts⟩ (c_Ut_leastAsker l κ τ (nI k) hn) (cwV 1 hts (zgoodV w_305 w_307 s_10 w_1 w_308) rfl rfl rfl (by decide +kernel) ⟨Nat.le_of_ble_eq_true rfl, Nat.le_of_ble_eq_true rfl⟩) B (zrecv B (ci := 5) rfl (wa_0 κ τ)) rfl hl.1 rfl (Nat.le_of_ble_eq_true rfl) d_Ut_grantWays_39 ⟨Nat.zero_le _, Nat.zero_le _⟩ (fun r σ' H locs hp B => ?_)
            obtain ⟨rfl, hp⟩ := hp
            rw [hp] at B
            have B : BA κ A s.heap s τ H locs := B
            refine ziast hx hb B 17 0 (wa_17 κ τ) rfl k rfl (by omega) (by decide) (ws_17 κ τ k (fx_least τ (nI k) (nA κ) 0)) d_Ut_grantWays_42 (fun H locs B => ?_)
            have B : BA κ A s.heap s (zi τ 19 k (fx_least τ (nI k) (nA κ) 0)) H locs := B
            refine lv_iinc (v := nI (k + 1)) (lv' := [(2, .int (nI (k + 1))), (0, .ref (aA κ 0)), (1, .int (p1))]) hx hb d_Ut_grantWays_43 hl (k := 2) rfl (zinc _) (by decide) rfl (fun ls hl => ?_)
            refine lv_goto (tgt := 2) hx hb d_Ut_grantWays_46 (by decide) ?_
            exact ih (k + 1) (zi τ 19 k (fx_least τ (nI k) (nA κ) 0)) (by omega) (by rw [hst]; simp [zit, fx_grant1, c_2, c_3, c_4]) _ _ B ls (lv_sub hl [1, 2, 0] rfl)
  refine lv_iconst (v := nI 0) hx hb d_Ut_grantWays_0 (by decide) ?_
  refine lv_istore_n (lv' := [(2, .int (nI 0)), (0, .ref (aA κ 0)), (1, .int (p1))]) hx hb d_Ut_grantWays_1 rfl hl (by decide) rfl (fun ls hl => ?_)
  exact L_2 16 0 σ (by omega) rfl _ _ B ls (lv_sub hl [1, 2, 0] rfl)
set_option maxHeartbeats 4000000 in
set_option maxRecDepth 100000 in
theorem c_Ut_settle (l : Launch) (κ : KA) (σ : zS) (hn : nA κ ≤ 8) (E : Nat) (hE : σ.1 12 0 = nI E) (hE3 : E ≤ 300) (hU : ∀ e, e < E → zin (σ.1 9 e) (nA κ)) (hT : ∀ e, e < E → σ.1 8 e = 0 → zin (σ.1 11 e) (nA κ * 4)) : zMv l y_Ut_settle (zws y_Ut_settle prog_1_method_29_code 3 none) ({ frames := 2, cells := 0, slots := 0, locals := 44 }) κ.1 vwCl (tysA κ) nwA (wA κ) σ [.ref (aA κ 0)] (fun σ' => σ' = fx_settle (nA κ) E σ) := by
  refine zintro (cc := prog_1_method_29_code) (maxL := 3) (ret := none) (by decide) rfl (Nat.le_of_ble_eq_true rfl) ?_
  intro p e s m below meth c ls hx hb hr hml hts hown hlocks hl B
  have hl : lv_has ls 3 [(0, .ref (aA κ 0))] := hl
  have B : BA κ (va_A (wA κ σ) s.heap.size) s.heap s σ s.heap [] := B
  have hr : meth.sig.returnType = none := hr
  have hown : s.vm.findClass "UnitThreads" = some m.cls := hown
  show W p l e (headSpec (zws y_Ut_settle prog_1_method_29_code 3 none) ({ frames := 2, cells := 0, slots := 0, locals := 44 })).room s m [.ref (aA κ 0)].toArray below meth c s.heap [] 0 0 (MQ below (va_Qv (fun σ' => σ' = fx_settle (nA κ) E σ) (zQ κ.1 vwCl (tysA κ) (wA κ) (va_A (wA κ σ) s.heap.size)) (va_A (wA κ σ) s.heap.size)) [.ref (aA κ 0)].toArray s 0 0 (va_A (wA κ σ) s.heap.size)) (F0 m 0 ls [])
  generalize va_A (wA κ σ) s.heap.size = A at B ⊢
  have hts : ∀ w ∈ zW, w.before [.ref (aA κ 0)].toArray s = true := fun w h => hts w (List.mem_cons_of_mem _ h)
  have L_80 : ∀ (j : Nat) (k : Nat) (τ : zS), (k + j = nA κ) → (fx_settle (nA κ) E σ = zit fx_set2 j k τ) → ∀ (H : Heap) (locs : List Loc), BA κ A s.heap s τ H locs → ∀ (ls : Array Slot), lv_has ls 3 [(0, .ref (aA κ 0)), (1, .int (nI k))] → W p l e (headSpec (zws y_Ut_settle prog_1_method_29_code 3 none) ({ frames := 2, cells := 0, slots := 0, locals := 44 })).room s m [.ref (aA κ 0)].toArray below meth c H locs 0 0 (MQ below (va_Qv (fun σ' => σ' = fx_settle (nA κ) E σ) (zQ κ.1 vwCl (tysA κ) (wA κ) A) A) [.ref (aA κ 0)].toArray s 0 0 A) (F0 m 80 ls []) := by
    intro j
    induction j with
    | zero =>
      intro k τ hj hst H locs B ls hl
      refine lv_iload_n hx hb d_Ut_settle_80 rfl (lv_at hl 1 rfl) ?_
      refine lv_aload_n hx hb d_Ut_settle_81 rfl (lv_at hl 0 rfl) ?_
      refine va_get (D := κ.1) (ci := 5) (v := .ref (aA κ 1)) (C := "UnitThreads") (T := T_Ut) (N := 7) hx hb hts in_Ut hown B.1 B.2.1 0 (wa_0 κ τ) rfl 0 (by decide) (hts _ w_167) (fun _ h9 => h9) rfl d_Ut_settle_82 ?_
      refine zalen hx hb B 1 2 (wa_1 κ τ) rfl d_Ut_settle_85 ?_
      refine lv_icmp_ge (tgt := 152) hx hb d_Ut_settle_86 (by decide) (fun c_1 => ?_) (fun c_1 => ?_)
      · have c_1 := (nI_leI (a := nA κ) (b := k) (by omega) (by omega)).mp c_1
        exact zret_v hx hb hr hlocks B (hst.symm) d_Ut_settle_152
      · have c_1 := (not_congr (nI_leI (a := nA κ) (b := k) (by omega) (by omega))).mp c_1
        exact absurd c_1 (by omega)
    | succ j ih =>
      intro k τ hj hst H locs B ls hl
      refine lv_iload_n hx hb d_Ut_settle_80 rfl (lv_at hl 1 rfl) ?_
      refine lv_aload_n hx hb d_Ut_settle_81 rfl (lv_at hl 0 rfl) ?_
      refine va_get (D := κ.1) (ci := 5) (v := .ref (aA κ 1)) (C := "UnitThreads") (T := T_Ut) (N := 7) hx hb hts in_Ut hown B.1 B.2.1 0 (wa_0 κ τ) rfl 0 (by decide) (hts _ w_167) (fun _ h9 => h9) rfl d_Ut_settle_82 ?_
      refine zalen hx hb B 1 2 (wa_1 κ τ) rfl d_Ut_settle_85 ?_
      refine lv_icmp_ge (tgt := 152) hx hb d_Ut_settle_86 (by decide) (fun c_2 => ?_) (fun c_2 => ?_)
      · have c_2 := (nI_leI (a := nA κ) (b := k) (by omega) (by omega)).mp c_2
        exact absurd c_2 (by omega)
      · have c_2 := (not_congr (nI_leI (a := nA κ) (b := k) (by omega) (by omega))).mp c_2
        refine lv_aload_n hx hb d_Ut_settle_89 rfl (lv_at hl 0 rfl) ?_
        refine va_get (D := κ.1) (ci := 5) (v := .ref (aA κ 1)) (C := "UnitThreads") (T := T_Ut) (N := 7) hx hb hts in_Ut hown B.1 B.2.1 0 (wa_0 κ τ) rfl 0 (by decide) (hts _ w_167) (fun _ h9 => h9) rfl d_Ut_settle_90 ?_
        refine lv_iload_n hx hb d_Ut_settle_93 rfl (lv_at hl 1 rfl) ?_
        have hu_3 : k < nA κ := (by omega)
        refine zaald hx hb B 1 2 (wa_1 κ τ) rfl k rfl hu_3 (by omega) rfl d_Ut_settle_94 ?_
        refine lv_astore_n (lv' := [(2, .ref (aA κ (64 + k))), (0, .ref (aA κ 0)), (1, .int (nI k))]) hx hb d_Ut_settle_95 rfl hl (by decide) rfl (fun ls hl => ?_)
        refine lv_aload_n hx hb d_Ut_settle_96 rfl (lv_at hl 0 rfl) ?_
        refine va_get (D := κ.1) (ci := 0) (v := .int (τ.1 7 k)) (C := "UnitThreads$Unit") (T := T_Un) (N := 8) hx hb hts in_Un hown B.1 B.2.1 (43 + k) (wa_u κ τ hu_3) rfl 7 (by decide) (hts _ w_50) (fun _ h9 => h9) rfl d_Ut_settle_97 ?_
        refine lv_if_ne (tgt := 133) hx hb d_Ut_settle_100 (by decide) (fun c_4 => ?_) (fun c_4 => ?_)
        · refine lv_aload_n hx hb d_Ut_settle_133 rfl (lv_at hl 0 rfl) ?_
          refine va_get (D := κ.1) (ci := 0) (v := .int (τ.1 7 k)) (C := "UnitThreads$Unit") (T := T_Un) (N := 8) hx hb hts in_Un hown B.1 B.2.1 (43 + k) (wa_u κ τ hu_3) rfl 7 (by decide) (hts _ w_50) (fun _ h9 => h9) rfl d_Ut_settle_134 ?_
          refine lv_iconst (v := 1) hx hb d_Ut_settle_137 (by decide) ?_
          refine lv_icmp_ne (tgt := 146) hx hb d_Ut_settle_138 (by decide) (fun c_5 => ?_) (fun c_5 => ?_)
          · refine lv_iinc (v := nI (k + 1)) (lv' := [(1, .int (nI (k + 1))), (2, .ref (aA κ (64 + k))), (0, .ref (aA κ 0))]) hx hb d_Ut_settle_146 hl (k := 2) rfl (zinc _) (by decide) rfl (fun ls hl => ?_)
            refine lv_goto (tgt := 80) hx hb d_Ut_settle_149 (by decide) ?_
            exact ih (k + 1) τ (by omega) (by rw [hst]; simp [zit, fx_set2, c_2, c_4, c_5]) _ _ B ls (lv_sub hl [2, 0] rfl)
          · refine lv_aload_n hx hb d_Ut_settle_141 rfl (lv_at hl 0 rfl) ?_
            refine lv_iconst (v := 1) hx hb d_Ut_settle_142 (by decide) ?_
            refine zput (ci := 0) (v := .int (1)) (ty := .int) (C := "UnitThreads$Unit") (T := T_Un) (N := 8) hx hb hts in_Un ty_Un tyok_Un nm_Un hown B (43 + k) (wa_u κ τ hu_3) rfl 2 (by decide) (hts _ w_38) (fun _ h9 => h9) rfl (by decide +kernel) rfl rfl (Nat.le_of_ble_eq_true rfl) (wq_2 κ τ hu_3 1) d_Ut_settle_143 (fun H locs B => ?_)
            have B : BA κ A s.heap s (zi τ 2 k 1) H locs := B
            refine lv_iinc (v := nI (k + 1)) (lv' := [(1, .int (nI (k + 1))), (2, .ref (aA κ (64 + k))), (0, .ref (aA κ 0))]) hx hb d_Ut_settle_146 hl (k := 2) rfl (zinc _) (by decide) rfl (fun ls hl => ?_)
            refine lv_goto (tgt := 80) hx hb d_Ut_settle_149 (by decide) ?_
            exact ih (k + 1) (zi τ 2 k 1) (by omega) (by rw [hst]; simp [zit, fx_set2, c_2, c_4, c_5]) _ _ B ls (lv_sub hl [2, 0] rfl)
        · refine lv_aload_n hx hb d_Ut_settle_103 rfl (lv_at hl 1 rfl) ?_
          refine va_get (D := κ.1) (ci := 5) (v := .ref (aA κ 14)) (C := "UnitThreads") (T := T_Ut) (N := 7) hx hb hts in_Ut hown B.1 B.2.1 0 (wa_0 κ τ) rfl 4 (by decide) (hts _ w_171) (fun _ h9 => h9) rfl d_Ut_settle_104 ?_
          refine lv_iload_n hx hb d_Ut_settle_107 rfl (lv_at hl 2 rfl) ?_
          refine lv_aload_n hx hb d_Ut_settle_108 rfl (lv_at hl 0 rfl) ?_
          refine zcV_i (As := []) (rest := [.int (nI k), .ref (aA κ 14)]) ⟨hx, hb, hml, hown, hts⟩ (c_Un_given l κ τ k hu_3 ) (cwV 0 hts (zgoodV w_326 w_327 w_328 w_3 w_329) rfl rfl rfl (by decide +kernel) ⟨Nat.le_of_ble_eq_true rfl, Nat.le_of_ble_eq_true rfl⟩) B (zrecv B (ci := 0) rfl (wa_u κ τ hu_3)) rfl hl.1 rfl (Nat.le_of_ble_eq_true rfl) d_Ut_settle_109 ⟨Nat.zero_le _, Nat.zero_le _⟩ (fun r σ' H locs hp B => ?_)
          obtain ⟨rfl, hp⟩ := hp
          rw [hp] at B
          have B : BA κ A s.heap s τ H locs := B
          refine zcV_v (As := [.int (nI k), .int (fx_given τ k)]) (rest := []) ⟨hx, hb, hml, hown, hts⟩ (c_Bo_giveBack l κ τ (nI k) (fx_given τ k) ) (cwV 2 hts (zgoodV w_330 w_331 w_332 w_7 w_333) rfl rfl rfl (by decide +kernel) ⟨Nat.le_of_ble_eq_true rfl, Nat.le_of_ble_eq_true rfl⟩) B (zrecv B (ci := 4) rfl (wa_14 κ τ)) rfl hl.1 rfl (Nat.le_of_ble_eq_true rfl) d_Ut_settle_112 ⟨Nat.zero_le _, Nat.zero_le _⟩ (fun σ' H locs hp B => ?_)
          rw [hp] at B
          have B : BA κ A s.heap s (fx_giveBack τ (nI k) (fx_given τ k)) H locs := B
          refine lv_aload_n hx hb d_Ut_settle_115 rfl (lv_at hl 0 rfl) ?_
          refine lv_dup hx hb d_Ut_settle_116 rfl ?_
          refine va_get (D := κ.1) (ci := 0) (v := .int ((fx_giveBack τ (nI k) (fx_given τ k)).1 0 k)) (C := "UnitThreads$Unit") (T := T_Un) (N := 8) hx hb hts in_Un hown B.1 B.2.1 (43 + k) (wa_u κ (fx_giveBack τ (nI k) (fx_given τ k)) hu_3) rfl 0 (by decide) (hts _ w_34) (fun _ h9 => h9) rfl d_Ut_settle_117 ?_
          refine lv_iconst (v := 1) hx hb d_Ut_settle_120 (by decide) ?_
          refine lv_iadd hx hb d_Ut_settle_121 ?_
          refine zput (ci := 0) (v := .int (((fx_giveBack τ (nI k) (fx_given τ k)).1 0 k) + 1)) (ty := .int) (C := "UnitThreads$Unit") (T := T_Un) (N := 8) hx hb hts in_Un ty_Un tyok_Un nm_Un hown B (43 + k) (wa_u κ (fx_giveBack τ (nI k) (fx_given τ k)) hu_3) rfl 0 (by decide) (hts _ w_34) (fun _ h9 => h9) rfl (by decide +kernel) rfl rfl (Nat.le_of_ble_eq_true rfl) (wq_0 κ (fx_giveBack τ (nI k) (fx_given τ k)) hu_3 (((fx_giveBack τ (nI k) (fx_given τ k)).1 0 k) + 1)) d_Ut_settle_122 (fun H locs B => ?_)
          have B : BA κ A s.heap s (zi (fx_giveBack τ (nI k) (fx_given τ k)) 0 k (((fx_giveBack τ (nI k) (fx_given τ k)).1 0 k) + 1)) H locs := B
          refine lv_aload_n hx hb d_Ut_settle_125 rfl (lv_at hl 0 rfl) ?_
          refine lv_iconst (v := 0) hx hb d_Ut_settle_126 (by decide) ?_
          refine zput (ci := 0) (v := .int (0)) (ty := .int) (C := "UnitThreads$Unit") (T := T_Un) (N := 8) hx hb hts in_Un ty_Un tyok_Un nm_Un hown B (43 + k) (wa_u κ (zi (fx_giveBack τ (nI k) (fx_given τ k)) 0 k (((fx_giveBack τ (nI k) (fx_given τ k)).1 0 k) + 1)) hu_3) rfl 2 (by decide) (hts _ w_38) (fun _ h9 => h9) rfl (by decide +kernel) rfl rfl (Nat.le_of_ble_eq_true rfl) (wq_2 κ (zi (fx_giveBack τ (nI k) (fx_given τ k)) 0 k (((fx_giveBack τ (nI k) (fx_given τ k)).1 0 k) + 1)) hu_3 0) d_Ut_settle_127 (fun H locs B => ?_)
          have B : BA κ A s.heap s (zi (zi (fx_giveBack τ (nI k) (fx_given τ k)) 0 k (((fx_giveBack τ (nI k) (fx_given τ k)).1 0 k) + 1)) 2 k 0) H locs := B
          refine lv_goto (tgt := 146) hx hb d_Ut_settle_130 (by decide) ?_
          refine lv_iinc (v := nI (k + 1)) (lv' := [(1, .int (nI (k + 1))), (2, .ref (aA κ (64 + k))), (0, .ref (aA κ 0))]) hx hb d_Ut_settle_146 hl (k := 2) rfl (zinc _) (by decide) rfl (fun ls hl => ?_)
          refine lv_goto (tgt := 80) hx hb d_Ut_settle_149 (by decide) ?_
          exact ih (k + 1) (zi (zi (fx_giveBack τ (nI k) (fx_given τ k)) 0 k (((fx_giveBack τ (nI k) (fx_given τ k)).1 0 k) + 1)) 2 k 0) (by omega) (by rw [hst]; simp [zit, fx_set2, c_2, c_4]) _ _ B ls (lv_sub hl [2, 0] rfl)
  have L_2 : ∀ (j : Nat) (k : Nat) (τ : zS), (k + j = nA κ) → (fx_settle (nA κ) E σ = zit fx_set2 (nA κ) 0 (fx_doSteps E (zit fx_set1 j k τ))) → (τ.1 12 0 = nI E) → (∀ e, e < E → zin (τ.1 9 e) (nA κ)) → (∀ e, e < E → τ.1 8 e = 0 → zin (τ.1 11 e) (nA κ * 4)) → ∀ (H : Heap) (locs : List Loc), BA κ A s.heap s τ H locs → ∀ (ls : Array Slot), lv_has ls 3 [(0, .ref (aA κ 0)), (1, .int (nI k))] → W p l e (headSpec (zws y_Ut_settle prog_1_method_29_code 3 none) ({ frames := 2, cells := 0, slots := 0, locals := 44 })).room s m [.ref (aA κ 0)].toArray below meth c H locs 0 0 (MQ below (va_Qv (fun σ' => σ' = fx_settle (nA κ) E σ) (zQ κ.1 vwCl (tysA κ) (wA κ) A) A) [.ref (aA κ 0)].toArray s 0 0 A) (F0 m 2 ls []) := by
    intro j
    induction j with
    | zero =>
      intro k τ hj hst hE hU hT H locs B ls hl
      refine lv_iload_n hx hb d_Ut_settle_2 rfl (lv_at hl 1 rfl) ?_
      refine lv_aload_n hx hb d_Ut_settle_3 rfl (lv_at hl 0 rfl) ?_
      refine va_get (D := κ.1) (ci := 5) (v := .ref (aA κ 1)) (C := "UnitThreads") (T := T_Ut) (N := 7) hx hb hts in_Ut hown B.1 B.2.1 0 (wa_0 κ τ) rfl 0 (by decide) (hts _ w_167) (fun _ h9 => h9) rfl d_Ut_settle_4 ?_
      refine zalen hx hb B 1 2 (wa_1 κ τ) rfl d_Ut_settle_7 ?_
      refine lv_icmp_ge (tgt := 60) hx hb d_Ut_settle_8 (by decide) (fun c_6 => ?_) (fun c_6 => ?_)
      · have c_6 := (nI_leI (a := nA κ) (b := k) (by omega) (by omega)).mp c_6
        refine lv_aload_n hx hb d_Ut_settle_60 rfl (lv_at hl 0 rfl) ?_
        refine va_get (D := κ.1) (ci := 5) (v := .ref (aA κ 2)) (C := "UnitThreads") (T := T_Ut) (N := 7) hx hb hts in_Ut hown B.1 B.2.1 0 (wa_0 κ τ) rfl 1 (by decide) (hts _ w_168) (fun _ h9 => h9) rfl d_Ut_settle_61 ?_
        refine lv_aload_n hx hb d_Ut_settle_64 rfl (lv_at hl 0 rfl) ?_
        refine va_get (D := κ.1) (ci := 5) (v := .ref (aA κ 1)) (C := "UnitThreads") (T := T_Ut) (N := 7) hx hb hts in_Ut hown B.1 B.2.1 0 (wa_0 κ τ) rfl 0 (by decide) (hts _ w_167) (fun _ h9 => h9) rfl d_Ut_settle_65 ?_
        refine lv_aload_n hx hb d_Ut_settle_68 rfl (lv_at hl 0 rfl) ?_
        refine va_get (D := κ.1) (ci := 5) (v := .ref (aA κ 14)) (C := "UnitThreads") (T := T_Ut) (N := 7) hx hb hts in_Ut hown B.1 B.2.1 0 (wa_0 κ τ) rfl 4 (by decide) (hts _ w_171) (fun _ h9 => h9) rfl d_Ut_settle_69 ?_
        refine va_get (D := κ.1) (ci := 4) (v := .ref (aA κ 15)) (C := "UnitThreads$Board") (T := T_Bo) (N := 6) hx hb hts in_Bo hown B.1 B.2.1 14 (wa_14 κ τ) rfl 0 (by decide) (hts _ w_145) (fun _ h9 => h9) rfl d_Ut_settle_72 ?_
        refine zcV_v (As := [.ref (aA κ 1), .ref (aA κ 15)]) (rest := []) ⟨hx, hb, hml, hown, hts⟩ (c_En_doSteps l κ τ  hn E hE hE3 hU hT) (cwV 2 hts (zgoodV w_322 w_323 w_324 w_4 w_325) rfl rfl rfl (by decide +kernel) ⟨Nat.le_of_ble_eq_true rfl, Nat.le_of_ble_eq_true rfl⟩) B (zrecv B (ci := 1) rfl (wa_2 κ τ)) rfl hl.1 rfl (Nat.le_of_ble_eq_true rfl) d_Ut_settle_75 ⟨Nat.zero_le _, Nat.zero_le _⟩ (fun σ' H locs hp B => ?_)
        rw [hp] at B
        have B : BA κ A s.heap s (fx_doSteps E τ) H locs := B
        refine lv_iconst (v := nI 0) hx hb d_Ut_settle_78 (by decide) ?_
        refine lv_istore_n (lv' := [(1, .int (nI 0)), (0, .ref (aA κ 0))]) hx hb d_Ut_settle_79 rfl hl (by decide) rfl (fun ls hl => ?_)
        exact L_80 (nA κ) 0 (fx_doSteps E τ) (by omega) hst _ _ B ls (lv_sub hl [1, 0] rfl)
      · have c_6 := (not_congr (nI_leI (a := nA κ) (b := k) (by omega) (by omega))).mp c_6
        exact absurd c_6 (by omega)
    | succ j ih =>
      intro k τ hj hst hE hU hT H locs B ls hl
      refine lv_iload_n hx hb d_Ut_settle_2 rfl (lv_at hl 1 rfl) ?_
      refine lv_aload_n hx hb d_Ut_settle_3 rfl (lv_at hl 0 rfl) ?_
      refine va_get (D := κ.1) (ci := 5) (v := .ref (aA κ 1)) (C := "UnitThreads") (T := T_Ut) (N := 7) hx hb hts in_Ut hown B.1 B.2.1 0 (wa_0 κ τ) rfl 0 (by decide) (hts _ w_167) (fun _ h9 => h9) rfl d_Ut_settle_4 ?_
      refine zalen hx hb B 1 2 (wa_1 κ τ) rfl d_Ut_settle_7 ?_
      refine lv_icmp_ge (tgt := 60) hx hb d_Ut_settle_8 (by decide) (fun c_7 => ?_) (fun c_7 => ?_)
      · have c_7 := (nI_leI (a := nA κ) (b := k) (by omega) (by omega)).mp c_7
        exact absurd c_7 (by omega)
      · have c_7 := (not_congr (nI_leI (a := nA κ) (b := k) (by omega) (by omega))).mp c_7
        refine lv_aload_n hx hb d_Ut_settle_11 rfl (lv_at hl 0 rfl) ?_
        refine va_get (D := κ.1) (ci := 5) (v := .ref (aA κ 1)) (C := "UnitThreads") (T := T_Ut) (N := 7) hx hb hts in_Ut hown B.1 B.2.1 0 (wa_0 κ τ) rfl 0 (by decide) (hts _ w_167) (fun _ h9 => h9) rfl d_Ut_settle_12 ?_
        refine lv_iload_n hx hb d_Ut_settle_15 rfl (lv_at hl 1 rfl) ?_
        have hu_8 : k < nA κ := (by omega)
        refine zaald hx hb B 1 2 (wa_1 κ τ) rfl k rfl hu_8 (by omega) rfl d_Ut_settle_16 ?_
        refine va_get (D := κ.1) (ci := 0) (v := .int (τ.1 7 k)) (C := "UnitThreads$Unit") (T := T_Un) (N := 8) hx hb hts in_Un hown B.1 B.2.1 (43 + k) (wa_u κ τ hu_8) rfl 7 (by decide) (hts _ w_50) (fun _ h9 => h9) rfl d_Ut_settle_17 ?_
        refine lv_iconst (v := 1) hx hb d_Ut_settle_20 (by decide) ?_
        refine lv_icmp_ne (tgt := 54) hx hb d_Ut_settle_21 (by decide) (fun c_9 => ?_) (fun c_9 => ?_)
        · refine lv_iinc (v := nI (k + 1)) (lv' := [(1, .int (nI (k + 1))), (0, .ref (aA κ 0))]) hx hb d_Ut_settle_54 hl (k := 1) rfl (zinc _) (by decide) rfl (fun ls hl => ?_)
          refine lv_goto (tgt := 2) hx hb d_Ut_settle_57 (by decide) ?_
          exact ih (k + 1) τ (by omega) (by rw [hst]; simp [zit, fx_set1, c_7, c_9]) hE hU hT _ _ B ls (lv_sub hl [1, 0] rfl)
        · refine lv_aload_n hx hb d_Ut_settle_24 rfl (lv_at hl 0 rfl) ?_
          refine va_get (D := κ.1) (ci := 5) (v := .ref (aA κ 14)) (C := "UnitThreads") (T := T_Ut) (N := 7) hx hb hts in_Ut hown B.1 B.2.1 0 (wa_0 κ τ) rfl 4 (by decide) (hts _ w_171) (fun _ h9 => h9) rfl d_Ut_settle_25 ?_
          refine lv_iload_n hx hb d_Ut_settle_28 rfl (lv_at hl 1 rfl) ?_
          refine lv_aload_n hx hb d_Ut_settle_29 rfl (lv_at hl 0 rfl) ?_
          refine va_get (D := κ.1) (ci := 5) (v := .ref (aA κ 1)) (C := "UnitThreads") (T := T_Ut) (N := 7) hx hb hts in_Ut hown B.1 B.2.1 0 (wa_0 κ τ) rfl 0 (by decide) (hts _ w_167) (fun _ h9 => h9) rfl d_Ut_settle_30 ?_
          refine lv_iload_n hx hb d_Ut_settle_33 rfl (lv_at hl 1 rfl) ?_
          have hu_10 : k < nA κ := (by omega)
          refine zaald hx hb B 1 2 (wa_1 κ τ) rfl k rfl hu_10 (by omega) rfl d_Ut_settle_34 ?_
          refine zcV_i (As := []) (rest := [.int (nI k), .ref (aA κ 14)]) ⟨hx, hb, hml, hown, hts⟩ (c_Un_asked l κ τ k hu_10 ) (cwV 0 hts (zgoodV w_309 w_310 w_311 w_3 w_312) rfl rfl rfl (by decide +kernel) ⟨Nat.le_of_ble_eq_true rfl, Nat.le_of_ble_eq_true rfl⟩) B (zrecv B (ci := 0) rfl (wa_u κ τ hu_10)) rfl hl.1 rfl (Nat.le_of_ble_eq_true rfl) d_Ut_settle_35 ⟨Nat.zero_le _, Nat.zero_le _⟩ (fun r σ' H locs hp B => ?_)
          obtain ⟨rfl, hp⟩ := hp
          rw [hp] at B
          have B : BA κ A s.heap s τ H locs := B
          refine zcV_i (As := [.int (nI k), .int (fx_asked τ k)]) (rest := []) ⟨hx, hb, hml, hown, hts⟩ (c_Bo_ownsAll l κ τ (nI k) (fx_asked τ k) ) (cwV 2 hts (zgoodV w_317 w_318 w_319 w_7 w_320) rfl rfl rfl (by decide +kernel) ⟨Nat.le_of_ble_eq_true rfl, Nat.le_of_ble_eq_true rfl⟩) B (zrecv B (ci := 4) rfl (wa_14 κ τ)) rfl hl.1 rfl (Nat.le_of_ble_eq_true rfl) d_Ut_settle_38 ⟨Nat.zero_le _, Nat.zero_le _⟩ (fun r σ' H locs hp B => ?_)
          obtain ⟨rfl, hp⟩ := hp
          rw [hp] at B
          have B : BA κ A s.heap s τ H locs := B
          refine lv_if_eq (tgt := 54) hx hb d_Ut_settle_41 (by decide) (fun c_11 => ?_) (fun c_11 => ?_)
          · have c_11 := zb_eq0.mp c_11
            refine lv_iinc (v := nI (k + 1)) (lv' := [(1, .int (nI (k + 1))), (0, .ref (aA κ 0))]) hx hb d_Ut_settle_54 hl (k := 1) rfl (zinc _) (by decide) rfl (fun ls hl => ?_)
            refine lv_goto (tgt := 2) hx hb d_Ut_settle_57 (by decide) ?_
            exact ih (k + 1) τ (by omega) (by rw [hst]; simp [zit, fx_set1, c_7, c_9, c_11]) hE hU hT _ _ B ls (lv_sub hl [1, 0] rfl)
          · have c_11 := zb_ne0.mp c_11
            refine lv_aload_n hx hb d_Ut_settle_44 rfl (lv_at hl 0 rfl) ?_
            refine va_get (D := κ.1) (ci := 5) (v := .ref (aA κ 1)) (C := "UnitThreads") (T := T_Ut) (N := 7) hx hb hts in_Ut hown B.1 B.2.1 0 (wa_0 κ τ) rfl 0 (by decide) (hts _ w_167) (fun _ h9 => h9) rfl d_Ut_settle_45 ?_
            refine lv_iload_n hx hb d_Ut_settle_48 rfl (lv_at hl 1 rfl) ?_
            have hu_12 : k < nA κ := (by omega)
            refine zaald hx hb B 1 2 (wa_1 κ τ) rfl k rfl hu_12 (by omega) rfl d_Ut_settle_49 ?_
            refine lv_iconst (v := 0) hx hb d_Ut_settle_50 (by decide) ?_
            refine zput (ci := 0) (v := .int (0)) (ty := .int) (C := "UnitThreads$Unit") (T := T_Un) (N := 8) hx hb hts in_Un ty_Un tyok_Un nm_Un hown B (43 + k) (wa_u κ τ hu_12) rfl 7 (by decide) (hts _ w_50) (fun _ h9 => h9) rfl (by decide +kernel) rfl rfl (Nat.le_of_ble_eq_true rfl) (wq_7 κ τ hu_12 0) d_Ut_settle_51 (fun H locs B => ?_)
            have B : BA κ A s.heap s (zi τ 7 k 0) H locs := B
            refine lv_iinc (v := nI (k + 1)) (lv' := [(1, .int (nI (k + 1))), (0, .ref (aA κ 0))]) hx hb d_Ut_settle_54 hl (k := 1) rfl (zinc _) (by decide) rfl (fun ls hl => ?_)
            refine lv_goto (tgt := 2) hx hb d_Ut_settle_57 (by decide) ?_
            exact ih (k + 1) (zi τ 7 k 0) (by omega) (by rw [hst]; simp [zit, fx_set1, c_7, c_9, c_11]) hE hU hT _ _ B ls (lv_sub hl [1, 0] rfl)
  refine lv_iconst (v := nI 0) hx hb d_Ut_settle_0 (by decide) ?_
  refine lv_istore_n (lv' := [(1, .int (nI 0)), (0, .ref (aA κ 0))]) hx hb d_Ut_settle_1 rfl hl (by decide) rfl (fun ls hl => ?_)
  exact L_2 (nA κ) 0 σ (by omega) rfl hE hU hT _ _ B ls (lv_sub hl [1, 0] rfl)
end
section
/-! what a second of the class keeps: the facts that its walk needs -/
theorem zit_inv {step : Nat → zS → zS} (P : Nat → zS → Prop) {e : Nat} (h : ∀ k σ, k < e → P k σ → P (k + 1) (step k σ)) : ∀ (c k : Nat) (σ : zS), k + c = e → P k σ → P e (zit step c k σ)
  | 0, k, σ, hk, hP => by
    have : k = e := by omega
    subst this
    exact hP
  | c + 1, k, σ, hk, hP => zit_inv P h c (k + 1) (step k σ) (by omega) (h k σ (by omega) hP)
theorem zin_nI {k N : Nat} (h : k < N) (hN : N < 2 ^ 31) : zin (nI k) N := by
  unfold zin
  rw [tn_nI (by omega)]
  exact ⟨rfl, h⟩
theorem gather_facts {n : Nat} (hn : n ≤ 8) (σ : zS) : ∃ N, (fx_gather n σ).1 14 0 = nI N ∧ N ≤ n ∧ ∀ i, i < N → zin ((fx_gather n σ).1 13 i) n := by
  refine zit_inv (step := fx_gather1) (e := n) (fun k τ => ∃ N, τ.1 14 0 = nI N ∧ N ≤ k ∧ ∀ i, i < N → zin (τ.1 13 i) n) ?_ n 0 (zi σ 14 0 0) (by omega) ⟨0, rfl, Nat.le_refl _, fun i h => absurd h (Nat.not_lt_zero i)⟩
  intro k τ hk hP
  obtain ⟨N, h1, h2, h3⟩ := hP
  unfold fx_gather1
  split
  · rw [h1, tn_nI (by omega)]
    refine ⟨N + 1, ?_, by omega, fun i hi => ?_⟩
    · rw [zi_eq, nI_1]
    · rw [zi_nf _ _ (by decide)]
      by_cases e : i = N
      · subst e
        rw [zi_eq]
        exact zin_nI hk (by omega)
      · rw [zi_ni _ _ e]
        exact h3 i (by omega)
  · exact ⟨N, h1, by omega, h3⟩
theorem shift_facts {n N : Nat} : ∀ (c i : Nat) (σ : zS), i < N → (∀ i, i < N → zin (σ.1 13 i) n) → ∀ i', i' < N → zin ((fx_shift c i σ).1 13 i') n
  | 0, _, _, _, h => h
  | c + 1, i, σ, hi, h => shift_facts c (i - 1) _ (by omega) (fun a ha => by
    by_cases e : a = i
    · subst e
      rw [zi_eq]
      exact h _ (by omega)
    · rw [zi_ni _ _ e]
      exact h a ha)
theorem move_facts {n N : Nat} (σ : zS) {f t : Nat} (hf : f < N) (ht : t ≤ f) (h : ∀ i, i < N → zin (σ.1 13 i) n) : ∀ i, i < N → zin ((fx_move σ f t).1 13 i) n := by
  intro i hi
  unfold fx_move
  by_cases e : i = t
  · subst e
    rw [zi_eq]
    exact h f hf
  · rw [zi_ni _ _ e]
    exact shift_facts _ _ _ hf h i hi
theorem draw_facts {n N : Nat} (hN : N ≤ 8) (σ : zS) (h : ∀ i, i < N → zin (σ.1 13 i) n) : ∀ i, i < N → zin ((fx_draw N σ).1 13 i) n := by
  refine zit_inv (step := fx_draw1 N) (e := N) (fun k τ => ∀ i, i < N → zin (τ.1 13 i) n) ?_ N 0 σ (by omega) h
  intro k τ hk hP
  have h1 := (fx_pick_in (fx_lcg (τ.2 1 0)) (r := N - k) (by omega) (by omega)).2
  exact move_facts _ (by omega) (Nat.le_add_right _ _) hP
theorem brief_throw {n E : Nat} (hE : E ≤ 300) (σ : zS) : ∀ u, u < n → (fx_brief n E σ).1 4 u = -1 ∨ zin ((fx_brief n E σ).1 4 u) E := by
  refine zit_inv (step := fx_brief1) (e := E) (fun k τ => ∀ u, u < n → τ.1 4 u = -1 ∨ zin (τ.1 4 u) E) ?_ E 0 _ (by omega) ?_
  · intro k τ hk hP u hu
    unfold fx_brief1
    split
    · by_cases e : u = tn (τ.1 9 k)
      · subst e
        rw [zi_eq]
        exact Or.inr (zin_nI hk (by omega))
      · rw [zi_ni _ _ e]
        exact hP u hu
    · split
      · rw [zi_nf _ _ (by decide)]; exact hP u hu
      · split
        · rw [zi_nf _ _ (by decide)]; exact hP u hu
        · exact hP u hu
  · refine fun u hu => Or.inl ?_
    refine zit_inv (step := fx_brief0) (e := n) (fun k τ => ∀ u, u < k → τ.1 4 u = -1) ?_ n 0 σ (by omega) (fun u h => absurd h (Nat.not_lt_zero u)) u hu
    intro k τ hk hP u hu
    unfold fx_brief0
    rw [zi_nf _ _ (by decide), zi_nf _ _ (by decide)]
    by_cases e : u = k
    · subst e; rw [zi_eq]
    · rw [zi_ni _ _ e]; exact hP u (by omega)
theorem turns_throw {n N : Nat} (σ : zS) : ∀ u, u < n → (fx_takeTurns n N σ).1 7 u = 2 → ¬ σ.1 4 u = -1 := by
  intro u hu h
  have h0 : ∀ u, u < n → (zit fx_turn0 n 0 σ).1 7 u = -1 := by
    refine zit_inv (step := fx_turn0) (e := n) (fun k τ => ∀ u, u < k → τ.1 7 u = -1) ?_ n 0 σ (by omega) (fun u h => absurd h (Nat.not_lt_zero u))
    intro k τ hk hP u hu
    unfold fx_turn0
    by_cases e : u = k
    · subst e; rw [zi_eq]
    · rw [zi_ni _ _ e]; exact hP u (by omega)
  have h1 : (zit fx_turn1 N 0 (zit fx_turn0 n 0 σ)).1 4 = σ.1 4 ∧ ∀ u, u < n → (zit fx_turn1 N 0 (zit fx_turn0 n 0 σ)).1 7 u = 2 → ¬ σ.1 4 u = -1 := by
    refine zit_inv (step := fx_turn1) (e := N) (fun k τ => τ.1 4 = σ.1 4 ∧ ∀ u, u < n → τ.1 7 u = 2 → ¬ σ.1 4 u = -1) ?_ N 0 _ (by omega) ⟨zit_k1 (fun k τ => zi_nf _ _ (by decide)) _ _ _, fun u hu h => by
      rw [h0 u hu] at h
      exact absurd h (by decide)⟩
    intro k τ hk hP
    refine ⟨(zi_nf _ _ (by decide)).trans hP.1, fun u hu h => ?_⟩
    unfold fx_turn1 at h
    by_cases e : u = tn (τ.1 13 k)
    · subst e
      rw [zi_eq, hP.1] at h
      intro q
      rw [if_pos q] at h
      exact absurd h (by decide)
    · rw [zi_ni _ _ e] at h
      exact hP.2 u hu h
  exact h1.2 u hu h
theorem hold_kinds {n : Nat} {x : Int32} (σ : zS) : ∀ e, (fx_hold n x σ).1 8 e = 3 ∨ (fx_hold n x σ).1 8 e = σ.1 8 e := by
  refine zit_inv (step := fx_hold1 x) (e := n) (fun k τ => ∀ e, τ.1 8 e = 3 ∨ τ.1 8 e = σ.1 8 e) ?_ n 0 σ (by omega) (fun e => Or.inr rfl)
  intro k τ hk hP e
  unfold fx_hold1
  split
  · rw [fx_makeSafe_1, zi_nf _ _ (by decide), zi_nf _ _ (by decide)]
    by_cases q : e = tn (τ.1 4 k)
    · subst q; rw [zi_eq]; exact Or.inl rfl
    · rw [zi_ni _ _ q]; exact hP e
  · exact hP e
/-- what the class keeps between calls, as far as its walks need it -/
def InvX (n E b : Nat) (σ : zS) : Prop := σ.1 12 0 = nI E ∧ (∀ e, e < E → zin (σ.1 9 e) n) ∧ (∀ e, e < E → σ.1 8 e = 0 → zin (σ.1 11 e) (n * 4)) ∧ σ.1 21 0 = nI b ∧ ∃ t, σ.1 18 0 = nI t ∧ t ≤ n * b
theorem kp_S4 {g : Nat} (h : g ∉ [4, 5, 6, 13, 14, 7]) (n E : Nat) (σ : zS) : (fx_S4 n E σ).1 g = σ.1 g := by
  simp only [List.mem_cons, List.not_mem_nil, or_false, not_or] at h
  unfold fx_S4 fx_S2
  rw [kp_turns h.2.2.2.2.2, kp_draw h.2.2.2.1, kp_gather (by simp [h]), kp_brief (by simp [h])]
theorem kp_S5 {g : Nat} (h : g ∉ [4, 5, 6, 13, 14, 7, 8, 2, 3]) (n E b : Nat) (σ : zS) : (fx_S5 n E b σ).1 g = σ.1 g := by
  simp only [List.mem_cons, List.not_mem_nil, or_false, not_or] at h
  unfold fx_S5
  rw [kp_hold (by simp [h]), kp_S4 (by simp [h])]
theorem fx_N_facts {n E : Nat} (hn : n ≤ 8) (σ : zS) : (fx_S2 n E σ).1 14 0 = nI (fx_N n E σ) ∧ fx_N n E σ ≤ n ∧ ∀ i, i < fx_N n E σ → zin ((fx_S2 n E σ).1 13 i) n := by
  obtain ⟨N, h1, h2, h3⟩ := gather_facts hn (fx_brief n E σ)
  have e : fx_N n E σ = N := by
    show tn ((fx_gather n (fx_brief n E σ)).1 14 0) = N
    rw [h1, tn_nI (by omega)]
  rw [e]
  exact ⟨h1, h2, h3⟩
theorem S4_throw {n E : Nat} (hE : E ≤ 300) (σ : zS) : ∀ u, u < n → (fx_S4 n E σ).1 7 u = 2 → zin ((fx_S4 n E σ).1 4 u) E := by
  intro u hu h
  have h1 := turns_throw _ u hu h
  have e : (fx_S4 n E σ).1 4 = (fx_brief n E σ).1 4 := by
    unfold fx_S4 fx_S2
    rw [kp_turns (by decide), kp_draw (by decide), kp_gather (by decide)]
  rw [e]
  have e2 : (fx_draw (fx_N n E σ) (fx_S2 n E σ)).1 4 = (fx_brief n E σ).1 4 := by
    unfold fx_S2
    rw [kp_draw (by decide), kp_gather (by decide)]
  rw [e2] at h1
  rcases brief_throw hE σ u hu with q | q
  · exact absurd q h1
  · exact q
theorem S5_kinds {n E b : Nat} (σ : zS) (e : Nat) : (fx_S5 n E b σ).1 8 e = 3 ∨ (fx_S5 n E b σ).1 8 e = σ.1 8 e := by
  rcases hold_kinds (n := n) (x := nI b) (fx_S4 n E σ) e with q | q
  · exact Or.inl q
  · refine Or.inr (q.trans ?_)
    rw [kp_S4 (by decide)]
theorem log_facts {x : Int32} : ∀ (c k t : Nat) (σ : zS), t + c < 2 ^ 31 → σ.1 18 0 = nI t → (zit (fx_log1 x) c k σ).1 18 0 = nI (t + c)
  | 0, _, _, _, _, h => h
  | c + 1, k, t, σ, hb, h => by
    have := log_facts (x := x) c (k + 1) (t + 1) (fx_log1 x k σ) (by omega) (by
      unfold fx_log1 fx_turn
      rw [zi_eq, h, tn_nI (by omega)])
    rw [show t + (c + 1) = t + 1 + c by omega]
    exact this
theorem InvX_S7 {n E b : Nat} {σ : zS} (h : InvX n E b σ) : (fx_grant n (σ.1 22 b) (fx_S5 n E b σ)).1 12 0 = nI E ∧ (∀ e, e < E → zin ((fx_grant n (σ.1 22 b) (fx_S5 n E b σ)).1 9 e) n) ∧ (∀ e, e < E → (fx_grant n (σ.1 22 b) (fx_S5 n E b σ)).1 8 e = 0 → zin ((fx_grant n (σ.1 22 b) (fx_S5 n E b σ)).1 11 e) (n * 4)) := by
  rw [kp_grant (by decide), kp_grant (by decide), kp_grant (by decide), kp_grant (by decide), kp_S5 (g := 12) (by decide), kp_S5 (g := 9) (by decide), kp_S5 (g := 11) (by decide)]
  refine ⟨h.1, h.2.1, fun e he q => h.2.2.1 e he ?_⟩
  rcases S5_kinds (n := n) (E := E) (b := b) σ e with z | z
  · rw [z] at q; exact absurd q (by decide)
  · rw [← z]; exact q
theorem kp_S8 {g : Nat} (h : g ∉ [4, 5, 6, 13, 14, 7, 8, 2, 3, 19, 0, 20, 21]) (n E b : Nat) (σ : zS) : (fx_S8 n E b σ).1 g = σ.1 g := by
  simp only [List.mem_cons, List.not_mem_nil, or_false, not_or] at h
  unfold fx_S8
  rw [kp_keep (by simp [h]), kp_settle (by simp [h]), kp_grant h.2.2.2.2.2.2.2.2.2.1, kp_S5 (by simp [h])]
theorem kp_pass {g : Nat} (h : g ∉ [4, 5, 6, 13, 14, 7, 8, 2, 3, 19, 0, 20, 21, 15, 16, 17, 18]) (n E b : Nat) (σ : zS) : (fx_pass n E b σ).1 g = σ.1 g := by
  simp only [List.mem_cons, List.not_mem_nil, or_false, not_or] at h
  unfold fx_pass
  rw [kp_log (by simp [h]), kp_S8 (by simp [h])]
theorem InvX_pass {n E b : Nat} {σ : zS} (h : InvX n E b σ) (hb : b < 64) (hn : n ≤ 8) : InvX n E (b + 1) (fx_pass n E b σ) := by
  refine ⟨?_, ?_, ?_, ?_, ?_⟩
  · rw [kp_pass (by decide)]; exact h.1
  · rw [kp_pass (by decide)]; exact h.2.1
  · rw [kp_pass (g := 11) (by decide)]
    intro e he q
    refine h.2.2.1 e he ?_
    have e1 : (fx_pass n E b σ).1 8 = (fx_S5 n E b σ).1 8 := by
      unfold fx_pass fx_S8
      rw [kp_log (by decide), kp_keep (by decide), kp_settle (by decide), kp_grant (by decide)]
    rw [e1] at q
    rcases S5_kinds (n := n) (E := E) (b := b) σ e with z | z
    · rw [z] at q; exact absurd q (by decide)
    · rw [← z]; exact q
  · unfold fx_pass
    rw [kp_log (by decide)]
    exact zi_eq _ _ _ _
  · obtain ⟨t, h1, h2⟩ := h.2.2.2.2
    have h3 := (fx_N_facts (E := E) hn σ).2.1
    have h4 : n * b ≤ 8 * 64 := Nat.mul_le_mul hn (by omega)
    refine ⟨t + fx_N n E σ, ?_, ?_⟩
    · unfold fx_pass
      refine log_facts _ _ _ _ (by omega) ?_
      rw [kp_S8 (by decide)]
      exact h1
    · rw [Nat.mul_add]; omega
def fx_playR (n E b : Nat) (σ : zS) (v : Int64) (x : Int32) : Int32 := if ¬ x < 0 ∧ ¬ 64 < x ∧ σ.1 23 0 = 0 then nI (fx_play n E (tn x) b 0 (zl σ 1 0 v)).1 else -1
def fx_playS (n E b : Nat) (σ : zS) (v : Int64) (x : Int32) : zS := if ¬ x < 0 ∧ ¬ 64 < x ∧ σ.1 23 0 = 0 then (fx_play n E (tn x) b 0 (zl σ 1 0 v)).2 else σ
theorem play_ret {n E b k : Nat} {σ τ : zS} {v : Int64} {x : Int32} (hok : ¬ x < 0 ∧ ¬ 64 < x ∧ σ.1 23 0 = 0) (e : fx_play n E (tn x) b 0 (zl σ 1 0 v) = (k, τ)) : nI k = fx_playR n E b σ v x ∧ τ = fx_playS n E b σ v x := by
  unfold fx_playR fx_playS
  rw [if_pos hok, if_pos hok, e]
  exact ⟨rfl, rfl⟩
theorem play_no {n E b : Nat} {σ : zS} {v : Int64} {x : Int32} (h : ¬ (¬ x < 0 ∧ ¬ 64 < x ∧ σ.1 23 0 = 0)) : -1 = fx_playR n E b σ v x ∧ σ = fx_playS n E b σ v x := by
  unfold fx_playR fx_playS
  rw [if_neg h, if_neg h]
  exact ⟨rfl, rfl⟩
theorem tn64 {x : Int32} (h : ¬ x < 0) (h2 : ¬ 64 < x) : tn x ≤ 64 := by
  obtain ⟨j, hj, rfl⟩ := nI_of h
  rw [tn_nI hj]
  rcases Nat.lt_or_ge 64 j with q | q
  · exact absurd (show (64 : Int32) < nI j from nI_lt q hj) h2
  · exact q
end
section
set_option maxHeartbeats 4000000 in
set_option maxRecDepth 100000 in
theorem c_Ut_passSecond (l : Launch) (κ : KA) (σ : zS) (hn : nA κ ≤ 8) (E : Nat) (hE3 : E ≤ 300) (b : Nat) (hI : InvX (nA κ) E b σ) (hlt : b < 64) : zMv l y_Ut_passSecond (zws y_Ut_passSecond prog_1_method_24_code 4 none) ({ frames := 3, cells := 0, slots := 0, locals := 68 }) κ.1 vwCl (tysA κ) nwA (wA κ) σ [.ref (aA κ 0)] (fun σ' => σ' = fx_pass (nA κ) E b σ) := by
  refine zintro (cc := prog_1_method_24_code) (maxL := 4) (ret := none) (by decide) rfl (Nat.le_of_ble_eq_true rfl) ?_
  intro p e s m below meth c ls hx hb hr hml hts hown hlocks hl B
  have hl : lv_has ls 4 [(0, .ref (aA κ 0))] := hl
  have B : BA κ (va_A (wA κ σ) s.heap.size) s.heap s σ s.heap [] := B
  have hr : meth.sig.returnType = none := hr
  have hown : s.vm.findClass "UnitThreads" = some m.cls := hown
  show W p l e (headSpec (zws y_Ut_passSecond prog_1_method_24_code 4 none) ({ frames := 3, cells := 0, slots := 0, locals := 68 })).room s m [.ref (aA κ 0)].toArray below meth c s.heap [] 0 0 (MQ below (va_Qv (fun σ' => σ' = fx_pass (nA κ) E b σ) (zQ κ.1 vwCl (tysA κ) (wA κ) (va_A (wA κ σ) s.heap.size)) (va_A (wA κ σ) s.heap.size)) [.ref (aA κ 0)].toArray s 0 0 (va_A (wA κ σ) s.heap.size)) (F0 m 0 ls [])
  generalize va_A (wA κ σ) s.heap.size = A at B ⊢
  have hts : ∀ w ∈ zW, w.before [.ref (aA κ 0)].toArray s = true := fun w h => hts w (List.mem_cons_of_mem _ h)
  obtain ⟨N, hNe⟩ : ∃ N, N = fx_N (nA κ) E σ := ⟨_, rfl⟩
  obtain ⟨hN, hNn, hO⟩ := fx_N_facts (E := E) hn σ
  rw [← hNe] at hN hNn hO
  have hN : (fx_gather (nA κ) (fx_brief (nA κ) E σ)).1 14 0 = nI N := hN
  have hE := hI.1
  have hU := hI.2.1
  have hN2 : (fx_draw N (fx_gather (nA κ) (fx_brief (nA κ) E σ))).1 14 0 = nI N := (congrFun (kp_draw (by decide) _ _) 0).trans hN
  have hO2 : ∀ i, i < N → zin ((fx_draw N (fx_gather (nA κ) (fx_brief (nA κ) E σ))).1 13 i) (nA κ) := draw_facts (by omega) _ hO
  have eS4 : fx_S4 (nA κ) E σ = fx_takeTurns (nA κ) N (fx_draw N (fx_gather (nA κ) (fx_brief (nA κ) E σ))) := by rw [hNe]; rfl
  have hE4 : (fx_takeTurns (nA κ) N (fx_draw N (fx_gather (nA κ) (fx_brief (nA κ) E σ)))).1 12 0 = nI E := by rw [← eS4, kp_S4 (by decide)]; exact hE
  have hT4 : ∀ u, u < nA κ → (fx_takeTurns (nA κ) N (fx_draw N (fx_gather (nA κ) (fx_brief (nA κ) E σ)))).1 7 u = 2 → zin ((fx_takeTurns (nA κ) N (fx_draw N (fx_gather (nA κ) (fx_brief (nA κ) E σ)))).1 4 u) E := by rw [← eS4]; exact S4_throw hE3 σ
  have eS5 : fx_S5 (nA κ) E b σ = fx_hold (nA κ) (nI b) (fx_takeTurns (nA κ) N (fx_draw N (fx_gather (nA κ) (fx_brief (nA κ) E σ)))) := by rw [← eS4]; rfl
  have h22 : (fx_hold (nA κ) (nI b) (fx_takeTurns (nA κ) N (fx_draw N (fx_gather (nA κ) (fx_brief (nA κ) E σ))))).1 22 b = σ.1 22 b := by rw [← eS5, kp_S5 (by decide)]
  have hI6 := InvX_S7 hI
  rw [eS5] at hI6
  have hbs7 : (fx_settle (nA κ) E (fx_grant (nA κ) (σ.1 22 b) (fx_hold (nA κ) (nI b) (fx_takeTurns (nA κ) N (fx_draw N (fx_gather (nA κ) (fx_brief (nA κ) E σ))))))).1 21 0 = nI b := by rw [kp_settle (by decide), kp_grant (by decide), ← eS5, kp_S5 (by decide)]; exact hI.2.2.2.1
  have eS8 : fx_S8 (nA κ) E b σ = fx_keep (nA κ) b (fx_settle (nA κ) E (fx_grant (nA κ) (σ.1 22 b) (fx_hold (nA κ) (nI b) (fx_takeTurns (nA κ) N (fx_draw N (fx_gather (nA κ) (fx_brief (nA κ) E σ))))))) := by rw [← eS5]; rfl
  obtain ⟨t0, ht0, htb⟩ := hI.2.2.2.2
  have htb2 : nA κ * b ≤ nA κ * 63 := Nat.mul_le_mul_left _ (by omega)
  have ht8 : (fx_S8 (nA κ) E b σ).1 18 0 = nI t0 := by rw [kp_S8 (by decide)]; exact ht0
  have hN8 : (fx_S8 (nA κ) E b σ).1 14 0 = nI N := by rw [eS8, kp_keep (by decide), kp_settle (by decide), kp_grant (by decide), kp_hold (by decide), kp_turns (by decide)]; exact hN2
  have hO8 : ∀ i, i < N → zin ((fx_S8 (nA κ) E b σ).1 13 i) (nA κ) := by rw [eS8, kp_keep (by decide), kp_settle (by decide), kp_grant (by decide), kp_hold (by decide), kp_turns (by decide)]; exact hO2
  rw [eS8] at ht8 hN8 hO8
  have L_69 : ∀ (j : Nat) (k : Nat) (t : Nat) (τ : zS), k + j = N ∧ t + j ≤ nA κ * 64 → (fx_pass (nA κ) E b σ = zit (fx_log1 (nI b)) j k τ) → (τ.1 18 0 = nI t) → (τ.1 14 0 = nI N) → (∀ i, i < N → zin (τ.1 13 i) (nA κ)) → ∀ (H : Heap) (locs : List Loc), BA κ A s.heap s τ H locs → ∀ (ls : Array Slot), lv_has ls 4 [(0, .ref (aA κ 0)), (1, .int (nI b)), (2, .int (nI k))] → W p l e (headSpec (zws y_Ut_passSecond prog_1_method_24_code 4 none) ({ frames := 3, cells := 0, slots := 0, locals := 68 })).room s m [.ref (aA κ 0)].toArray below meth c H locs 0 0 (MQ below (va_Qv (fun σ' => σ' = fx_pass (nA κ) E b σ) (zQ κ.1 vwCl (tysA κ) (wA κ) A) A) [.ref (aA κ 0)].toArray s 0 0 A) (F0 m 69 ls []) := by
    intro j
    induction j with
    | zero =>
      intro k t τ hj hst ht hN hO H locs B ls hl
      refine lv_iload_n hx hb d_Ut_passSecond_69 rfl (lv_at hl 2 rfl) ?_
      refine lv_aload_n hx hb d_Ut_passSecond_70 rfl (lv_at hl 0 rfl) ?_
      refine va_get (D := κ.1) (ci := 5) (v := .ref (aA κ 8)) (C := "UnitThreads") (T := T_Ut) (N := 7) hx hb hts in_Ut hown B.1 B.2.1 0 (wa_0 κ τ) rfl 2 (by decide) (hts _ w_169) (fun _ h9 => h9) rfl d_Ut_passSecond_71 ?_
      refine va_get (D := κ.1) (ci := 2) (v := .int (τ.1 14 0)) (C := "UnitThreads$Order") (T := T_Or) (N := 3) hx hb hts in_Or hown B.1 B.2.1 8 (wa_8 κ τ) rfl 1 (by decide) (hts _ w_105) (fun _ h9 => h9) rfl d_Ut_passSecond_74 ?_
      refine zrwi (y := nI N) (hN) ?_
      refine lv_icmp_ge (tgt := 114) hx hb d_Ut_passSecond_77 (by decide) (fun c_1 => ?_) (fun c_1 => ?_)
      · have c_1 := (nI_leI (a := N) (b := k) (by omega) (by omega)).mp c_1
        exact zret_v hx hb hr hlocks B (hst.symm) d_Ut_passSecond_114
      · have c_1 := (not_congr (nI_leI (a := N) (b := k) (by omega) (by omega))).mp c_1
        exact absurd c_1 (by omega)
    | succ j ih =>
      intro k t τ hj hst ht hN hO H locs B ls hl
      refine lv_iload_n hx hb d_Ut_passSecond_69 rfl (lv_at hl 2 rfl) ?_
      refine lv_aload_n hx hb d_Ut_passSecond_70 rfl (lv_at hl 0 rfl) ?_
      refine va_get (D := κ.1) (ci := 5) (v := .ref (aA κ 8)) (C := "UnitThreads") (T := T_Ut) (N := 7) hx hb hts in_Ut hown B.1 B.2.1 0 (wa_0 κ τ) rfl 2 (by decide) (hts _ w_169) (fun _ h9 => h9) rfl d_Ut_passSecond_71 ?_
      refine va_get (D := κ.1) (ci := 2) (v := .int (τ.1 14 0)) (C := "UnitThreads$Order") (T := T_Or) (N := 3) hx hb hts in_Or hown B.1 B.2.1 8 (wa_8 κ τ) rfl 1 (by decide) (hts _ w_105) (fun _ h9 => h9) rfl d_Ut_passSecond_74 ?_
      refine zrwi (y := nI N) (hN) ?_
      refine lv_icmp_ge (tgt := 114) hx hb d_Ut_passSecond_77 (by decide) (fun c_2 => ?_) (fun c_2 => ?_)
      · have c_2 := (nI_leI (a := N) (b := k) (by omega) (by omega)).mp c_2
        exact absurd c_2 (by omega)
      · have c_2 := (not_congr (nI_leI (a := N) (b := k) (by omega) (by omega))).mp c_2
        refine lv_aload_n hx hb d_Ut_passSecond_80 rfl (lv_at hl 0 rfl) ?_
        refine va_get (D := κ.1) (ci := 5) (v := .ref (aA κ 8)) (C := "UnitThreads") (T := T_Ut) (N := 7) hx hb hts in_Ut hown B.1 B.2.1 0 (wa_0 κ τ) rfl 2 (by decide) (hts _ w_169) (fun _ h9 => h9) rfl d_Ut_passSecond_81 ?_
        refine va_get (D := κ.1) (ci := 2) (v := .ref (aA κ 9)) (C := "UnitThreads$Order") (T := T_Or) (N := 3) hx hb hts in_Or hown B.1 B.2.1 8 (wa_8 κ τ) rfl 0 (by decide) (hts _ w_103) (fun _ h9 => h9) rfl d_Ut_passSecond_84 ?_
        refine lv_iload_n hx hb d_Ut_passSecond_87 rfl (lv_at hl 2 rfl) ?_
        refine ziald hx hb B 9 0 (wa_9 κ τ) rfl k rfl (by omega) (by omega) d_Ut_passSecond_88 ?_
        refine lv_istore_n (lv' := [(3, .int (τ.1 13 k)), (0, .ref (aA κ 0)), (1, .int (nI b)), (2, .int (nI k))]) hx hb d_Ut_passSecond_89 rfl hl (by decide) rfl (fun ls hl => ?_)
        refine lv_aload_n hx hb d_Ut_passSecond_90 rfl (lv_at hl 1 rfl) ?_
        refine va_get (D := κ.1) (ci := 5) (v := .ref (aA κ 10)) (C := "UnitThreads") (T := T_Ut) (N := 7) hx hb hts in_Ut hown B.1 B.2.1 0 (wa_0 κ τ) rfl 3 (by decide) (hts _ w_170) (fun _ h9 => h9) rfl d_Ut_passSecond_91 ?_
        refine lv_iload_n hx hb d_Ut_passSecond_94 rfl (lv_at hl 2 rfl) ?_
        refine lv_iload_n hx hb d_Ut_passSecond_95 rfl (lv_at hl 0 rfl) ?_
        refine lv_aload_n hx hb d_Ut_passSecond_96 rfl (lv_at hl 1 rfl) ?_
        refine va_get (D := κ.1) (ci := 5) (v := .ref (aA κ 1)) (C := "UnitThreads") (T := T_Ut) (N := 7) hx hb hts in_Ut hown B.1 B.2.1 0 (wa_0 κ τ) rfl 0 (by decide) (hts _ w_167) (fun _ h9 => h9) rfl d_Ut_passSecond_97 ?_
        refine lv_iload_n hx hb d_Ut_passSecond_100 rfl (lv_at hl 0 rfl) ?_
        have hu_3 : tn (τ.1 13 k) < nA κ := (hO k (by omega)).2
        refine zaald hx hb B 1 2 (wa_1 κ τ) rfl (tn (τ.1 13 k)) ((hO k (by omega)).1) hu_3 (by omega) rfl d_Ut_passSecond_101 ?_
        refine va_get (D := κ.1) (ci := 0) (v := .int (τ.1 7 (tn (τ.1 13 k)))) (C := "UnitThreads$Unit") (T := T_Un) (N := 8) hx hb hts in_Un hown B.1 B.2.1 (43 + (tn (τ.1 13 k))) (wa_u κ τ hu_3) rfl 7 (by decide) (hts _ w_50) (fun _ h9 => h9) rfl d_Ut_passSecond_102 ?_
        refine zcV_v (As := [.int (nI b), .int (τ.1 13 k), .int (τ.1 7 (tn (τ.1 13 k)))]) (rest := []) ⟨hx, hb, hml, hown, hts⟩ (c_Tu_add l κ τ (nI b) (τ.1 13 k) (τ.1 7 (tn (τ.1 13 k))) hn t ht (by omega)) (cwV 3 hts (zgoodV w_341 w_342 w_343 w_6 w_344) rfl rfl rfl (by decide +kernel) ⟨Nat.le_of_ble_eq_true rfl, Nat.le_of_ble_eq_true rfl⟩) B (zrecv B (ci := 3) rfl (wa_10 κ τ)) rfl hl.1 rfl (Nat.le_of_ble_eq_true rfl) d_Ut_passSecond_105 ⟨Nat.zero_le _, Nat.zero_le _⟩ (fun σ' H locs hp B => ?_)
        rw [hp] at B
        have B : BA κ A s.heap s (fx_turn τ t (nI b) (τ.1 13 k) (τ.1 7 (tn (τ.1 13 k)))) H locs := B
        refine lv_iinc (v := nI (k + 1)) (lv' := [(2, .int (nI (k + 1))), (3, .int (τ.1 13 k)), (0, .ref (aA κ 0)), (1, .int (nI b))]) hx hb d_Ut_passSecond_108 hl (k := 3) rfl (zinc _) (by decide) rfl (fun ls hl => ?_)
        refine lv_goto (tgt := 69) hx hb d_Ut_passSecond_111 (by decide) ?_
        exact ih (k + 1) (t + 1) (fx_turn τ t (nI b) (τ.1 13 k) (τ.1 7 (tn (τ.1 13 k)))) (by omega) (by rw [hst]; simp [zit, fx_log1, ht, tn_nI (show t < 2 ^ 31 by omega)]) (zi_eq _ _ _ _) hN hO _ _ B ls (lv_sub hl [2, 3, 0] rfl)
  refine lv_aload_n hx hb d_Ut_passSecond_0 rfl (lv_at hl 0 rfl) ?_
  refine va_get (D := κ.1) (ci := 5) (v := .ref (aA κ 14)) (C := "UnitThreads") (T := T_Ut) (N := 7) hx hb hts in_Ut hown B.1 B.2.1 0 (wa_0 κ σ) rfl 4 (by decide) (hts _ w_171) (fun _ h9 => h9) rfl d_Ut_passSecond_1 ?_
  refine va_get (D := κ.1) (ci := 4) (v := .int (σ.1 21 0)) (C := "UnitThreads$Board") (T := T_Bo) (N := 6) hx hb hts in_Bo hown B.1 B.2.1 14 (wa_14 κ σ) rfl 5 (by decide) (hts _ w_153) (fun _ h9 => h9) rfl d_Ut_passSecond_4 ?_
  refine zrwi (y := nI b) (hI.2.2.2.1) ?_
  refine lv_istore_n (lv' := [(1, .int (nI b)), (0, .ref (aA κ 0))]) hx hb d_Ut_passSecond_7 rfl hl (by decide) rfl (fun ls hl => ?_)
  refine lv_aload_n hx hb d_Ut_passSecond_8 rfl (lv_at hl 1 rfl) ?_
  refine va_get (D := κ.1) (ci := 5) (v := .ref (aA κ 2)) (C := "UnitThreads") (T := T_Ut) (N := 7) hx hb hts in_Ut hown B.1 B.2.1 0 (wa_0 κ σ) rfl 1 (by decide) (hts _ w_168) (fun _ h9 => h9) rfl d_Ut_passSecond_9 ?_
  refine lv_aload_n hx hb d_Ut_passSecond_12 rfl (lv_at hl 1 rfl) ?_
  refine va_get (D := κ.1) (ci := 5) (v := .ref (aA κ 1)) (C := "UnitThreads") (T := T_Ut) (N := 7) hx hb hts in_Ut hown B.1 B.2.1 0 (wa_0 κ σ) rfl 0 (by decide) (hts _ w_167) (fun _ h9 => h9) rfl d_Ut_passSecond_13 ?_
  refine zcV_v (As := [.ref (aA κ 1)]) (rest := []) ⟨hx, hb, hml, hown, hts⟩ (c_En_brief l κ σ  hn E hE hE3 hU) (cwV 1 hts (zgoodV w_262 w_263 w_264 w_4 w_265) rfl rfl rfl (by decide +kernel) ⟨Nat.le_of_ble_eq_true rfl, Nat.le_of_ble_eq_true rfl⟩) B (zrecv B (ci := 1) rfl (wa_2 κ σ)) rfl hl.1 rfl (Nat.le_of_ble_eq_true rfl) d_Ut_passSecond_16 ⟨Nat.zero_le _, Nat.zero_le _⟩ (fun σ' H locs hp B => ?_)
  rw [hp] at B
  have B : BA κ A s.heap s (fx_brief (nA κ) E σ) H locs := B
  refine lv_aload_n hx hb d_Ut_passSecond_19 rfl (lv_at hl 1 rfl) ?_
  refine va_get (D := κ.1) (ci := 5) (v := .ref (aA κ 8)) (C := "UnitThreads") (T := T_Ut) (N := 7) hx hb hts in_Ut hown B.1 B.2.1 0 (wa_0 κ (fx_brief (nA κ) E σ)) rfl 2 (by decide) (hts _ w_169) (fun _ h9 => h9) rfl d_Ut_passSecond_20 ?_
  refine lv_aload_n hx hb d_Ut_passSecond_23 rfl (lv_at hl 1 rfl) ?_
  refine va_get (D := κ.1) (ci := 5) (v := .ref (aA κ 1)) (C := "UnitThreads") (T := T_Ut) (N := 7) hx hb hts in_Ut hown B.1 B.2.1 0 (wa_0 κ (fx_brief (nA κ) E σ)) rfl 0 (by decide) (hts _ w_167) (fun _ h9 => h9) rfl d_Ut_passSecond_24 ?_
  refine zcV_v (As := [.ref (aA κ 1)]) (rest := []) ⟨hx, hb, hml, hown, hts⟩ (c_Or_gather l κ (fx_brief (nA κ) E σ)  hn) (cwV 1 hts (zgoodV w_266 w_267 w_268 w_5 w_269) rfl rfl rfl (by decide +kernel) ⟨Nat.le_of_ble_eq_true rfl, Nat.le_of_ble_eq_true rfl⟩) B (zrecv B (ci := 2) rfl (wa_8 κ (fx_brief (nA κ) E σ))) rfl hl.1 rfl (Nat.le_of_ble_eq_true rfl) d_Ut_passSecond_27 ⟨Nat.zero_le _, Nat.zero_le _⟩ (fun σ' H locs hp B => ?_)
  rw [hp] at B
  have B : BA κ A s.heap s (fx_gather (nA κ) (fx_brief (nA κ) E σ)) H locs := B
  refine lv_aload_n hx hb d_Ut_passSecond_30 rfl (lv_at hl 1 rfl) ?_
  refine va_get (D := κ.1) (ci := 5) (v := .ref (aA κ 8)) (C := "UnitThreads") (T := T_Ut) (N := 7) hx hb hts in_Ut hown B.1 B.2.1 0 (wa_0 κ (fx_gather (nA κ) (fx_brief (nA κ) E σ))) rfl 2 (by decide) (hts _ w_169) (fun _ h9 => h9) rfl d_Ut_passSecond_31 ?_
  refine zcV_v (As := []) (rest := []) ⟨hx, hb, hml, hown, hts⟩ (c_Or_draw l κ (fx_gather (nA κ) (fx_brief (nA κ) E σ))  hn N hN hNn) (cwV 0 hts (zgoodV w_275 w_276 w_277 w_5 w_278) rfl rfl rfl (by decide +kernel) ⟨Nat.le_of_ble_eq_true rfl, Nat.le_of_ble_eq_true rfl⟩) B (zrecv B (ci := 2) rfl (wa_8 κ (fx_gather (nA κ) (fx_brief (nA κ) E σ)))) rfl hl.1 rfl (Nat.le_of_ble_eq_true rfl) d_Ut_passSecond_34 ⟨Nat.zero_le _, Nat.zero_le _⟩ (fun σ' H locs hp B => ?_)
  rw [hp] at B
  have B : BA κ A s.heap s (fx_draw N (fx_gather (nA κ) (fx_brief (nA κ) E σ))) H locs := B
  refine lv_aload_n hx hb d_Ut_passSecond_37 rfl (lv_at hl 1 rfl) ?_
  refine zcV_v (As := []) (rest := []) ⟨hx, hb, hml, hown, hts⟩ (c_Ut_takeTurns l κ (fx_draw N (fx_gather (nA κ) (fx_brief (nA κ) E σ))) hn N hN2 hNn hO2) (cwV 0 hts (zgoodV w_285 w_287 s_7 w_1 w_288) rfl rfl rfl (by decide +kernel) ⟨Nat.le_of_ble_eq_true rfl, Nat.le_of_ble_eq_true rfl⟩) B (zrecv B (ci := 5) rfl (wa_0 κ (fx_draw N (fx_gather (nA κ) (fx_brief (nA κ) E σ))))) rfl hl.1 rfl (Nat.le_of_ble_eq_true rfl) d_Ut_passSecond_38 ⟨Nat.zero_le _, Nat.zero_le _⟩ (fun σ' H locs hp B => ?_)
  rw [hp] at B
  have B : BA κ A s.heap s (fx_takeTurns (nA κ) N (fx_draw N (fx_gather (nA κ) (fx_brief (nA κ) E σ)))) H locs := B
  refine lv_aload_n hx hb d_Ut_passSecond_41 rfl (lv_at hl 1 rfl) ?_
  refine lv_iload_n hx hb d_Ut_passSecond_42 rfl (lv_at hl 0 rfl) ?_
  refine zcV_v (As := [.int (nI b)]) (rest := []) ⟨hx, hb, hml, hown, hts⟩ (c_Ut_holdThrowers l κ (fx_takeTurns (nA κ) N (fx_draw N (fx_gather (nA κ) (fx_brief (nA κ) E σ)))) (nI b) hn E hE4 hE3 hT4) (cwV 1 hts (zgoodV w_289 w_291 s_8 w_1 w_292) rfl rfl rfl (by decide +kernel) ⟨Nat.le_of_ble_eq_true rfl, Nat.le_of_ble_eq_true rfl⟩) B (zrecv B (ci := 5) rfl (wa_0 κ (fx_takeTurns (nA κ) N (fx_draw N (fx_gather (nA κ) (fx_brief (nA κ) E σ)))))) rfl hl.1 rfl (Nat.le_of_ble_eq_true rfl) d_Ut_passSecond_43 ⟨Nat.zero_le _, Nat.zero_le _⟩ (fun σ' H locs hp B => ?_)
  rw [hp] at B
  have B : BA κ A s.heap s (fx_hold (nA κ) (nI b) (fx_takeTurns (nA κ) N (fx_draw N (fx_gather (nA κ) (fx_brief (nA κ) E σ))))) H locs := B
  refine lv_aload_n hx hb d_Ut_passSecond_46 rfl (lv_at hl 1 rfl) ?_
  refine lv_aload_n hx hb d_Ut_passSecond_47 rfl (lv_at hl 1 rfl) ?_
  refine va_get (D := κ.1) (ci := 5) (v := .ref (aA κ 20)) (C := "UnitThreads") (T := T_Ut) (N := 7) hx hb hts in_Ut hown B.1 B.2.1 0 (wa_0 κ (fx_hold (nA κ) (nI b) (fx_takeTurns (nA κ) N (fx_draw N (fx_gather (nA κ) (fx_brief (nA κ) E σ)))))) rfl 5 (by decide) (hts _ w_172) (fun _ h9 => h9) rfl d_Ut_passSecond_48 ?_
  refine lv_iload_n hx hb d_Ut_passSecond_51 rfl (lv_at hl 0 rfl) ?_
  refine ziald hx hb B 20 0 (wa_20 κ (fx_hold (nA κ) (nI b) (fx_takeTurns (nA κ) N (fx_draw N (fx_gather (nA κ) (fx_brief (nA κ) E σ)))))) rfl b rfl (by omega) (by decide) d_Ut_passSecond_52 ?_
  refine zrwi (y := σ.1 22 b) (h22) ?_
  refine zcV_v (As := [.int (σ.1 22 b)]) (rest := []) ⟨hx, hb, hml, hown, hts⟩ (c_Ut_grantWays l κ (fx_hold (nA κ) (nI b) (fx_takeTurns (nA κ) N (fx_draw N (fx_gather (nA κ) (fx_brief (nA κ) E σ))))) (σ.1 22 b) hn) (cwV 1 hts (zgoodV w_301 w_303 s_9 w_1 w_304) rfl rfl rfl (by decide +kernel) ⟨Nat.le_of_ble_eq_true rfl, Nat.le_of_ble_eq_true rfl⟩) B (zrecv B (ci := 5) rfl (wa_0 κ (fx_hold (nA κ) (nI b) (fx_takeTurns (nA κ) N (fx_draw N (fx_gather (nA κ) (fx_brief (nA κ) E σ))))))) rfl hl.1 rfl (Nat.le_of_ble_eq_true rfl) d_Ut_passSecond_53 ⟨Nat.zero_le _, Nat.zero_le _⟩ (fun σ' H locs hp B => ?_)
  rw [hp] at B
  have B : BA κ A s.heap s (fx_grant (nA κ) (σ.1 22 b) (fx_hold (nA κ) (nI b) (fx_takeTurns (nA κ) N (fx_draw N (fx_gather (nA κ) (fx_brief (nA κ) E σ)))))) H locs := B
  refine lv_aload_n hx hb d_Ut_passSecond_56 rfl (lv_at hl 1 rfl) ?_
  refine zcV_v (As := []) (rest := []) ⟨hx, hb, hml, hown, hts⟩ (c_Ut_settle l κ (fx_grant (nA κ) (σ.1 22 b) (fx_hold (nA κ) (nI b) (fx_takeTurns (nA κ) N (fx_draw N (fx_gather (nA κ) (fx_brief (nA κ) E σ)))))) hn E hI6.1 hE3 hI6.2.1 hI6.2.2) (cwV 0 hts (zgoodV w_313 w_315 s_11 w_1 w_316) rfl rfl rfl (by decide +kernel) ⟨Nat.le_of_ble_eq_true rfl, Nat.le_of_ble_eq_true rfl⟩) B (zrecv B (ci := 5) rfl (wa_0 κ (fx_grant (nA κ) (σ.1 22 b) (fx_hold (nA κ) (nI b) (fx_takeTurns (nA κ) N (fx_draw N (fx_gather (nA κ) (fx_brief (nA κ) E σ)))))))) rfl hl.1 rfl (Nat.le_of_ble_eq_true rfl) d_Ut_passSecond_57 ⟨Nat.zero_le _, Nat.zero_le _⟩ (fun σ' H locs hp B => ?_)
  rw [hp] at B
  have B : BA κ A s.heap s (fx_settle (nA κ) E (fx_grant (nA κ) (σ.1 22 b) (fx_hold (nA κ) (nI b) (fx_takeTurns (nA κ) N (fx_draw N (fx_gather (nA κ) (fx_brief (nA κ) E σ))))))) H locs := B
  refine lv_aload_n hx hb d_Ut_passSecond_60 rfl (lv_at hl 1 rfl) ?_
  refine va_get (D := κ.1) (ci := 5) (v := .ref (aA κ 14)) (C := "UnitThreads") (T := T_Ut) (N := 7) hx hb hts in_Ut hown B.1 B.2.1 0 (wa_0 κ (fx_settle (nA κ) E (fx_grant (nA κ) (σ.1 22 b) (fx_hold (nA κ) (nI b) (fx_takeTurns (nA κ) N (fx_draw N (fx_gather (nA κ) (fx_brief (nA κ) E σ)))))))) rfl 4 (by decide) (hts _ w_171) (fun _ h9 => h9) rfl d_Ut_passSecond_61 ?_
  refine zcV_v (As := []) (rest := []) ⟨hx, hb, hml, hown, hts⟩ (c_Bo_keep l κ (fx_settle (nA κ) E (fx_grant (nA κ) (σ.1 22 b) (fx_hold (nA κ) (nI b) (fx_takeTurns (nA κ) N (fx_draw N (fx_gather (nA κ) (fx_brief (nA κ) E σ)))))))  hn b hbs7 hlt) (cwV 0 hts (zgoodV w_334 w_335 w_336 w_7 w_337) rfl rfl rfl (by decide +kernel) ⟨Nat.le_of_ble_eq_true rfl, Nat.le_of_ble_eq_true rfl⟩) B (zrecv B (ci := 4) rfl (wa_14 κ (fx_settle (nA κ) E (fx_grant (nA κ) (σ.1 22 b) (fx_hold (nA κ) (nI b) (fx_takeTurns (nA κ) N (fx_draw N (fx_gather (nA κ) (fx_brief (nA κ) E σ))))))))) rfl hl.1 rfl (Nat.le_of_ble_eq_true rfl) d_Ut_passSecond_64 ⟨Nat.zero_le _, Nat.zero_le _⟩ (fun σ' H locs hp B => ?_)
  rw [hp] at B
  have B : BA κ A s.heap s (fx_keep (nA κ) b (fx_settle (nA κ) E (fx_grant (nA κ) (σ.1 22 b) (fx_hold (nA κ) (nI b) (fx_takeTurns (nA κ) N (fx_draw N (fx_gather (nA κ) (fx_brief (nA κ) E σ)))))))) H locs := B
  refine lv_iconst (v := nI 0) hx hb d_Ut_passSecond_67 (by decide) ?_
  refine lv_istore_n (lv' := [(2, .int (nI 0)), (1, .int (nI b)), (0, .ref (aA κ 0))]) hx hb d_Ut_passSecond_68 rfl hl (by decide) rfl (fun ls hl => ?_)
  exact L_69 N 0 t0 (fx_keep (nA κ) b (fx_settle (nA κ) E (fx_grant (nA κ) (σ.1 22 b) (fx_hold (nA κ) (nI b) (fx_takeTurns (nA κ) N (fx_draw N (fx_gather (nA κ) (fx_brief (nA κ) E σ)))))))) (by omega) (by rw [fx_pass, ← hNe, eS8]) ht8 hN8 hO8 _ _ B ls (lv_sub hl [2, 1, 0] rfl)
set_option maxHeartbeats 4000000 in
set_option maxRecDepth 100000 in
theorem c_Ut_play (l : Launch) (κ : KA) (σ : zS) (v : Int64) (p2 : Int32) (hn : nA κ ≤ 8) (E : Nat) (hE3 : E ≤ 300) (b : Nat) (hI : InvX (nA κ) E b σ) (hb64 : b ≤ 64) : zMi l y_Ut_play (zws y_Ut_play prog_1_method_7_code 5 (some .int)) ({ frames := 4, cells := 0, slots := 0, locals := 91 }) κ.1 vwCl (tysA κ) nwA (wA κ) σ [.ref (aA κ 0), .long (v), .int (p2)] (fun r σ' => r = fx_playR (nA κ) E b σ v p2 ∧ σ' = fx_playS (nA κ) E b σ v p2) := by
  refine zintro (cc := prog_1_method_7_code) (maxL := 5) (ret := (some .int)) (by decide) rfl (Nat.le_of_ble_eq_true rfl) ?_
  intro p e s m below meth c ls hx hb hr hml hts hown hlocks hl B
  have hl : lv_has ls 5 [(0, .ref (aA κ 0)), (1, .long (v)), (3, .int (p2))] := hl
  have B : BA κ (va_A (wA κ σ) s.heap.size) s.heap s σ s.heap [] := B
  have hr : meth.sig.returnType = (some .int) := hr
  have hown : s.vm.findClass "UnitThreads" = some m.cls := hown
  show W p l e (headSpec (zws y_Ut_play prog_1_method_7_code 5 (some .int)) ({ frames := 4, cells := 0, slots := 0, locals := 91 })).room s m [.ref (aA κ 0), .long (v), .int (p2)].toArray below meth c s.heap [] 0 0 (MQ below (va_Qi (fun r σ' => r = fx_playR (nA κ) E b σ v p2 ∧ σ' = fx_playS (nA κ) E b σ v p2) (zQ κ.1 vwCl (tysA κ) (wA κ) (va_A (wA κ σ) s.heap.size)) (va_A (wA κ σ) s.heap.size)) [.ref (aA κ 0), .long (v), .int (p2)].toArray s 0 0 (va_A (wA κ σ) s.heap.size)) (F0 m 0 ls [])
  generalize va_A (wA κ σ) s.heap.size = A at B ⊢
  have hts : ∀ w ∈ zW, w.before [.ref (aA κ 0), .long (v), .int (p2)].toArray s = true := fun w h => hts w (List.mem_cons_of_mem _ h)
  have L_30 : ∀ (j : Nat) (k : Nat) (b1 : Nat) (τ : zS), k + j = tn p2 → (¬ p2 < 0 ∧ ¬ 64 < p2 ∧ σ.1 23 0 = 0) → (p2 = nI (tn p2)) → (tn p2 ≤ 64) → (InvX (nA κ) E b1 τ) → (b1 ≤ 64) → (fx_play (nA κ) E (tn p2) b 0 (zl σ 1 0 v) = fx_play (nA κ) E j b1 k τ) → ∀ (H : Heap) (locs : List Loc), BA κ A s.heap s τ H locs → ∀ (ls : Array Slot), lv_has ls 5 [(0, .ref (aA κ 0)), (1, .long (v)), (3, .int (p2)), (4, .int (nI k))] → W p l e (headSpec (zws y_Ut_play prog_1_method_7_code 5 (some .int)) ({ frames := 4, cells := 0, slots := 0, locals := 91 })).room s m [.ref (aA κ 0), .long (v), .int (p2)].toArray below meth c H locs 0 0 (MQ below (va_Qi (fun r σ' => r = fx_playR (nA κ) E b σ v p2 ∧ σ' = fx_playS (nA κ) E b σ v p2) (zQ κ.1 vwCl (tysA κ) (wA κ) A) A) [.ref (aA κ 0), .long (v), .int (p2)].toArray s 0 0 A) (F0 m 30 ls []) := by
    intro j
    induction j with
    | zero =>
      intro k b1 τ hj hok hP hP6 hI hb1 hst H locs B ls hl
      refine lv_iload hx hb d_Ut_play_30 (lv_at hl 3 rfl) ?_
      refine lv_iload_n hx hb d_Ut_play_32 rfl (lv_at hl 2 rfl) ?_
      refine zrwi (y := nI (tn p2)) (hP) ?_
      refine lv_icmp_ge (tgt := 65) hx hb d_Ut_play_33 (by decide) (fun c_1 => ?_) (fun c_1 => ?_)
      · have c_1 := (nI_leI (a := tn p2) (b := k) (by omega) (by omega)).mp c_1
        refine lv_iload hx hb d_Ut_play_65 (lv_at hl 3 rfl) ?_
        exact zret_i hx hb hr hlocks B (play_ret hok hst) d_Ut_play_67
      · have c_1 := (not_congr (nI_leI (a := tn p2) (b := k) (by omega) (by omega))).mp c_1
        exact absurd c_1 (by omega)
    | succ j ih =>
      intro k b1 τ hj hok hP hP6 hI hb1 hst H locs B ls hl
      refine lv_iload hx hb d_Ut_play_30 (lv_at hl 3 rfl) ?_
      refine lv_iload_n hx hb d_Ut_play_32 rfl (lv_at hl 2 rfl) ?_
      refine zrwi (y := nI (tn p2)) (hP) ?_
      refine lv_icmp_ge (tgt := 65) hx hb d_Ut_play_33 (by decide) (fun c_2 => ?_) (fun c_2 => ?_)
      · have c_2 := (nI_leI (a := tn p2) (b := k) (by omega) (by omega)).mp c_2
        exact absurd c_2 (by omega)
      · have c_2 := (not_congr (nI_leI (a := tn p2) (b := k) (by omega) (by omega))).mp c_2
        refine lv_aload_n hx hb d_Ut_play_36 rfl (lv_at hl 0 rfl) ?_
        refine va_get (D := κ.1) (ci := 5) (v := .ref (aA κ 14)) (C := "UnitThreads") (T := T_Ut) (N := 7) hx hb hts in_Ut hown B.1 B.2.1 0 (wa_0 κ τ) rfl 4 (by decide) (hts _ w_171) (fun _ h9 => h9) rfl d_Ut_play_37 ?_
        refine va_get (D := κ.1) (ci := 4) (v := .int (τ.1 21 0)) (C := "UnitThreads$Board") (T := T_Bo) (N := 6) hx hb hts in_Bo hown B.1 B.2.1 14 (wa_14 κ τ) rfl 5 (by decide) (hts _ w_153) (fun _ h9 => h9) rfl d_Ut_play_40 ?_
        refine zrwi (y := nI b1) (hI.2.2.2.1) ?_
        refine lv_bipush (v := nI 64) hx hb d_Ut_play_43 (by decide) ?_
        refine lv_icmp_ge (tgt := 65) hx hb d_Ut_play_45 (by decide) (fun c_3 => ?_) (fun c_3 => ?_)
        · have c_3 := (nI_leI (a := 64) (b := b1) (by omega) (by omega)).mp c_3
          refine lv_iload hx hb d_Ut_play_65 (lv_at hl 3 rfl) ?_
          exact zret_i hx hb hr hlocks B (play_ret hok (hst.trans (if_neg (fun h => h.1 c_3)))) d_Ut_play_67
        · have c_3 := (not_congr (nI_leI (a := 64) (b := b1) (by omega) (by omega))).mp c_3
          refine lv_aload_n hx hb d_Ut_play_48 rfl (lv_at hl 0 rfl) ?_
          refine zcV_i (As := []) (rest := []) ⟨hx, hb, hml, hown, hts⟩ (c_Ut_acting l κ τ hn) (cwV 0 hts (zgoodV w_246 w_248 s_3 w_1 w_249) rfl rfl rfl (by decide +kernel) ⟨Nat.le_of_ble_eq_true rfl, Nat.le_of_ble_eq_true rfl⟩) B (zrecv B (ci := 5) rfl (wa_0 κ τ)) rfl hl.1 rfl (Nat.le_of_ble_eq_true rfl) d_Ut_play_49 ⟨Nat.zero_le _, Nat.zero_le _⟩ (fun r σ' H locs hp B => ?_)
          obtain ⟨rfl, hp⟩ := hp
          rw [hp] at B
          have B : BA κ A s.heap s τ H locs := B
          refine lv_if_le (tgt := 65) hx hb d_Ut_play_52 (by decide) (fun c_4 => ?_) (fun c_4 => ?_)
          · refine lv_iload hx hb d_Ut_play_65 (lv_at hl 3 rfl) ?_
            exact zret_i hx hb hr hlocks B (play_ret hok (hst.trans (if_neg (fun h => h.2 c_4)))) d_Ut_play_67
          · refine lv_aload_n hx hb d_Ut_play_55 rfl (lv_at hl 0 rfl) ?_
            refine zcV_v (As := []) (rest := []) ⟨hx, hb, hml, hown, hts⟩ (c_Ut_passSecond l κ τ hn E hE3 b1 hI (by omega)) (cwV 0 hts (zgoodV w_258 w_260 s_5 w_1 w_261) rfl rfl rfl (by decide +kernel) ⟨Nat.le_of_ble_eq_true rfl, Nat.le_of_ble_eq_true rfl⟩) B (zrecv B (ci := 5) rfl (wa_0 κ τ)) rfl hl.1 rfl (Nat.le_of_ble_eq_true rfl) d_Ut_play_56 ⟨Nat.zero_le _, Nat.zero_le _⟩ (fun σ' H locs hp B => ?_)
            rw [hp] at B
            have B : BA κ A s.heap s (fx_pass (nA κ) E b1 τ) H locs := B
            refine lv_iinc (v := nI (k + 1)) (lv' := [(4, .int (nI (k + 1))), (0, .ref (aA κ 0)), (1, .long (v)), (3, .int (p2))]) hx hb d_Ut_play_59 hl (k := 3) rfl (zinc _) (by decide) rfl (fun ls hl => ?_)
            refine lv_goto (tgt := 30) hx hb d_Ut_play_62 (by decide) ?_
            exact ih (k + 1) (b1 + 1) (fx_pass (nA κ) E b1 τ) (by omega) hok hP hP6 (InvX_pass hI (by omega) hn) (by omega) (hst.trans (if_pos ⟨c_3, c_4⟩)) _ _ B ls (lv_sub hl [1, 2, 3, 0] rfl)
  refine lv_iload_n hx hb d_Ut_play_0 rfl (lv_at hl 2 rfl) ?_
  refine lv_if_lt (tgt := 17) hx hb d_Ut_play_1 (by decide) (fun c_5 => ?_) (fun c_5 => ?_)
  · refine lv_iconst (v := (-1)) hx hb d_Ut_play_17 (by decide) ?_
    exact zret_i hx hb hr hlocks B (play_no (fun h => h.1 c_5)) d_Ut_play_18
  · refine lv_iload_n hx hb d_Ut_play_4 rfl (lv_at hl 2 rfl) ?_
    refine lv_bipush (v := 64) hx hb d_Ut_play_5 (by decide) ?_
    refine lv_icmp_gt (tgt := 17) hx hb d_Ut_play_7 (by decide) (fun c_6 => ?_) (fun c_6 => ?_)
    · refine lv_iconst (v := (-1)) hx hb d_Ut_play_17 (by decide) ?_
      exact zret_i hx hb hr hlocks B (play_no (fun h => h.2.1 c_6)) d_Ut_play_18
    · refine lv_aload_n hx hb d_Ut_play_10 rfl (lv_at hl 0 rfl) ?_
      refine va_get (D := κ.1) (ci := 5) (v := .int (σ.1 23 0)) (C := "UnitThreads") (T := T_Ut) (N := 7) hx hb hts in_Ut hown B.1 B.2.1 0 (wa_0 κ σ) rfl 6 (by decide) (hts _ w_173) (fun _ h9 => h9) rfl d_Ut_play_11 ?_
      refine lv_if_eq (tgt := 19) hx hb d_Ut_play_14 (by decide) (fun c_7 => ?_) (fun c_7 => ?_)
      · refine lv_aload_n hx hb d_Ut_play_19 rfl (lv_at hl 0 rfl) ?_
        refine va_get (D := κ.1) (ci := 5) (v := .ref (aA κ 8)) (C := "UnitThreads") (T := T_Ut) (N := 7) hx hb hts in_Ut hown B.1 B.2.1 0 (wa_0 κ σ) rfl 2 (by decide) (hts _ w_169) (fun _ h9 => h9) rfl d_Ut_play_20 ?_
        refine lv_lload_n hx hb d_Ut_play_23 rfl (lv_at hl 1 rfl) ?_
        refine zput (ci := 2) (v := .long (v)) (ty := .long) (C := "UnitThreads$Order") (T := T_Or) (N := 3) hx hb hts in_Or ty_Or tyok_Or nm_Or hown B 8 (wa_8 κ σ) rfl 2 (by decide) (hts _ w_107) (fun _ h9 => h9) rfl (by decide +kernel) rfl rfl (Nat.le_of_ble_eq_true rfl) (wp_8_2 κ σ v) d_Ut_play_24 (fun H locs B => ?_)
        have B : BA κ A s.heap s (zl σ 1 0 v) H locs := B
        refine lv_iconst (v := nI 0) hx hb d_Ut_play_27 (by decide) ?_
        refine lv_istore (lv' := [(4, .int (nI 0)), (0, .ref (aA κ 0)), (1, .long (v)), (3, .int (p2))]) hx hb d_Ut_play_28 hl (by decide) rfl (fun ls hl => ?_)
        exact L_30 (tn p2) 0 b (zl σ 1 0 v) (by omega) ⟨c_5, c_6, c_7⟩ (zix c_5) (tn64 c_5 c_6) hI hb64 rfl _ _ B ls (lv_sub hl [1, 2, 3, 0] rfl)
      · refine lv_iconst (v := (-1)) hx hb d_Ut_play_17 (by decide) ?_
        exact zret_i hx hb hr hlocks B (play_no (fun h => c_7 h.2.2)) d_Ut_play_18
end
section
section ZM
variable {p : Program} {l : Launch} {e : Env} {R : Room} {s : State} {m : MethodId} {args : Array Value} {below : List Frame} {meth : Method} {c : Code} {H : Heap} {locs : List Loc} {cells slots : Nat} {Q : State → Prop}
variable {cc : ByteArray} {pc : Nat} {ls : Array Slot} {rest st0 : List Value} {D : va_G} {cl : List vw_C} {A : Nat → Prop} {a : Nat} {tys : List (ClassId × FieldType)} {nw : List zN} {w : zS → va_W} {σ : zS} {H0 : Heap}
theorem zzald (hexec : p.tables.exec = Jvm.exec) (hb : c.code = cc) (B : zB D cl tys nw w A H0 s σ H locs) (q0 t0 : Nat) {cA : ClassId} {N : Nat} {f : Nat → Int32} (ha : (w σ)[q0]? = some (a, .inl (cA, N, .inl f))) (ht : tys[t0]? = some (cA, .boolean)) {i : Int32} (k : Nat) (hi : i = nI k) (hk : k < N) (hN : N < 2 ^ 31) (hdg : decode cc pc = .ok (.baload, 1))
    (kk : W p l e R s m args below meth c H locs cells slots Q (F0 m (pc + 1) ls (.int (f k) :: rest))) : W p l e R s m args below meth c H locs cells slots Q (F0 m pc ls (.int i :: .ref a :: rest)) := by
  subst hi
  refine va_zald hexec hb B.1 B.2.1 q0 t0 ha ht (vp_in_nI hk hN) hdg ?_
  rw [nI_clamp (Nat.lt_trans hk hN)]
  exact kk
theorem zzast (hexec : p.tables.exec = Jvm.exec) (hb : c.code = cc) (B : zB D cl tys nw w A H0 s σ H locs) (q0 t0 : Nat) {cA : ClassId} {N f : Nat} (ha : (w σ)[q0]? = some (a, .inl (cA, N, .inl (σ.1 f)))) (ht : tys[t0]? = some (cA, .boolean)) {i x : Int32} (k : Nat) (hi : i = nI k) (hk : k < N) (hN : N < 2 ^ 31) {y : Int32} (hy : vp_nar .boolean x = y) (hset : (w σ).set q0 (a, .inl (cA, N, .inl ((zi σ f k y).1 f))) = w (zi σ f k y)) (hdg : decode cc pc = .ok (.bastore, 1))
    (kk : ∀ (H1 : Heap) (locs1 : List Loc), zB D cl tys nw w A H0 s (zi σ f k y) H1 locs1 → W p l e R s m args below meth c H1 locs1 cells slots Q (F0 m (pc + 1) ls rest)) : W p l e R s m args below meth c H locs cells slots Q (F0 m pc ls (.int x :: .int i :: .ref a :: rest)) := by
  subst hi
  subst hy
  rw [zi_upd] at hset
  refine va_zast hexec hb B.1 B.2.1 B.2.2.1 B.2.2.2.1 q0 t0 ha ht (vp_in_nI hk hN) hdg (fun H1 locs1 hP hD hS => ?_)
  rw [nI_clamp (Nat.lt_trans hk hN), hset] at hP hD
  exact kk H1 locs1 ⟨B.1, hP, hD, hS, B.2.2.2.2⟩
end ZM
theorem zb_vnar (b : Bool) : vp_nar .boolean (zb b) = zb b := by cases b <;> rfl
theorem zsub1 (k : Nat) : nI (k + 1) - 1 = nI k := nI_pred k
theorem zdec (k : Nat) : nI k + (-1) = nI k - 1 := (Int32.sub_eq_add_neg (a := nI k) (b := 1)).symm
theorem zmul8 {x : Int32} {N a : Nat} (h : x = nI a) : nI N * x = nI (N * a) := by rw [h, pk_mul]
/-! The reference's methods as functions of a state. Int fields: 25 isClosed, 26 done, 27 owners, 28 ownersAt, 29 bars, 30 kinds, 31 whose, 32 seconds, 33 what, 34 entries, 35 own, 36 waits, 37 heldAt, 38 turnSeconds, 39 turnUnits, 40 turnEnds, 41 turns, 42 takes, 43 left, 44 throwing, 45 asked. Long fields: 5 outputs, 6 safes, 7 outputsAt, 8 values. -/
def fm_in (v a b : Int32) : Bool := !decide (v < a) && !decide (b < v)
def fm_isUnit (n : Nat) (x : Int32) : Bool := fm_in x 0 (nI n - 1)
def fm_isOpen (σ : zS) (u : Nat) (x : Int32) : Bool := decide (σ.1 25 0 = 0 ∧ ¬ x < σ.1 35 u ∧ ¬ 300 ≤ σ.1 34 0)
def fm_add (σ : zS) (E : Nat) (a b c d : Int32) (v : Int64) : zS := zi (zl (zi (zi (zi (zi σ 30 E a) 31 E b) 32 E c) 33 E d) 8 E v) 34 0 (nI (E + 1))
def fm_find (σ : zS) (a b c d : Int32) : Nat → Nat → Int32
  | 0, _ => -1
  | n + 1, k => if σ.1 30 k = a ∧ σ.1 31 k = b ∧ σ.1 32 k = c ∧ (d = -1 ∨ σ.1 33 k = d) then nI k else fm_find σ a b c d n (k + 1)
def fm_ended (σ : zS) (u : Nat) : Nat → Nat → Bool → Bool
  | 0, _, b => b
  | c + 1, k, b => fm_ended σ u c (k + 1) (b && (!decide (σ.1 31 k = nI u) || !decide (σ.1 35 u ≤ σ.1 32 k)))
def fm_goes (σ : zS) (E u : Nat) : Bool := decide (σ.1 25 0 = 0 ∧ σ.1 37 u = -1 ∧ fm_ended σ u E 0 true = false)
def fm_going (σ : zS) (E : Nat) : Nat → Nat → Int32 → Int32
  | 0, _, r => r
  | c + 1, k, r => fm_going σ E c (k + 1) (r + (if fm_goes σ E k = true then 1 else 0))
def fm_giveN (σ : zS) (e : Nat) : Nat → Nat → Int32 → Int32
  | 0, _, r => r
  | c + 1, k, r => fm_giveN σ e c (k + 1) (r + (if σ.1 30 k = 1 ∧ σ.1 31 k = σ.1 31 e ∧ σ.1 33 k = σ.1 33 e ∧ ¬ σ.1 32 e ≤ σ.1 32 k then 1 else 0))
def fm_isGive (σ : zS) (E e : Nat) : Bool := decide (fm_giveN σ e E 0 0 - fm_giveN σ e E 0 0 / 2 * 2 = 1)
def fm_isNow (σ : zS) (e : Nat) (a : Int32) (u : Nat) : Bool := decide (σ.1 30 e = a ∧ σ.1 31 e = nI u ∧ σ.1 32 e = σ.1 35 u)
def fm_ask1 (u E k : Nat) (σ : zS) : zS := if fm_isNow σ k 1 u = true ∧ fm_isGive σ E k = false ∧ ¬ σ.1 27 (tn (σ.1 33 k)) = nI u then zi σ 45 (8 * tn (σ.1 33 k) + u) 1 else σ
def fm_turn0 (σ : zS) (t u : Nat) : zS := zi (zi (zi (zi σ 38 t (σ.1 26 0)) 39 t (nI u)) 40 t 0) 41 0 (nI (t + 1))
def fm_thr (σ : zS) (E t u : Nat) : Int32 := fm_find (fm_turn0 σ t u) 2 (nI u) (σ.1 35 u) (-1) E 0
def fm_turn (σ : zS) (E t u : Nat) : zS := if fm_thr σ E t u < 0 then zit (fm_ask1 u E) E 0 (zi (fm_turn0 σ t u) 44 u 0) else zi (zi (fm_turn0 σ t u) 44 u 1) 30 (tn (fm_thr σ E t u)) 3
/-- takes[u] = goes(u), and how many do -/
def fm_tk (E : Nat) : Nat → Nat → Nat → zS → Nat × zS
  | 0, _, m, σ => (m, σ)
  | c + 1, k, m, σ => fm_tk E c (k + 1) (if fm_goes σ E k = true then m + 1 else m) (zi σ 42 k (zb (fm_goes σ E k)))
def fm_left1 (u : Nat) (σ : zS) : zS := zi σ 43 u (vp_nar .boolean (σ.1 42 u))
/-- how many are left among c from k on -/
def fm_cl (σ : zS) : Nat → Nat → Nat
  | 0, _ => 0
  | c + 1, k => (if σ.1 43 k = 0 then 0 else 1) + fm_cl σ c (k + 1)
/-- the one with q of those left before it -/
def fm_who (σ : zS) : Nat → Nat → Nat → Nat
  | 0, k, _ => k
  | c + 1, k, q => if ¬ σ.1 43 k = 0 ∧ q ≤ 0 then k else fm_who σ c (k + 1) (if σ.1 43 k = 0 then q else q - 1)
def fm_next (n E t m : Nat) (g : Int64) (σ : zS) : zS := fm_turn (zi σ 43 (fm_who σ n 0 (tn (fx_pick (fx_lcg g) m))) 0) E t (fm_who σ n 0 (tn (fx_pick (fx_lcg g) m)))
/-- m turns, from the t-th on, with g -/
def fm_draw (n E : Nat) : Nat → Nat → Int64 → zS → Int64 × zS
  | 0, _, g, σ => (g, σ)
  | m + 1, t, g, σ => fm_draw n E m (t + 1) (fx_lcg g) (fm_next n E t (m + 1) g σ)
def fm_turnsOf (n E t : Nat) (g : Int64) (σ : zS) : Int64 × zS := fm_draw n E (fm_tk E n 0 0 σ).1 t g (zit fm_left1 n 0 (fm_tk E n 0 0 σ).2)
def fm_tell (u : Nat) (x : Int32) : Nat → zS → zS
  | 0, σ => σ
  | c + 1, σ => if σ.1 38 c = σ.1 26 0 then fm_tell u x c (zi σ 40 c (if σ.1 39 c = nI u then x else σ.1 40 c)) else σ
def fm_ownsAll (σ : zS) (E u : Nat) : Nat → Nat → Bool → Bool
  | 0, _, b => b
  | c + 1, k, b => fm_ownsAll σ E u c (k + 1) (b && (!fm_isNow σ k 1 u || (fm_isGive σ E k || decide (σ.1 27 (tn (σ.1 33 k)) = nI u))))
def fm_act1 (E u k : Nat) (σ : zS) : zS :=
  if fm_isNow σ k 0 u = true then zl σ 5 (tn (σ.1 33 k)) (σ.2 8 k)
  else if fm_isNow σ k 1 u = true ∧ fm_isGive σ E k = true ∧ σ.1 27 (tn (σ.1 33 k)) = nI u then zi σ 27 (tn (σ.1 33 k)) (-1) else σ
def fm_actD (E u : Nat) (σ : zS) : zS := zi (zit (fm_act1 E u) E 0 (zi σ 36 u 0)) 35 u ((zit (fm_act1 E u) E 0 (zi σ 36 u 0)).1 35 u + 1)
def fm_act (E t u : Nat) (σ : zS) : zS := if fm_ownsAll σ E u E 0 true = true then fm_actD E u σ else fm_tell u 1 t (zi σ 36 u 1)
def fm_safe1 (j : Nat) (σ : zS) : zS := zl σ 5 j (σ.2 6 j)
def fm_end1 (t u : Nat) (σ : zS) : zS := if ¬ σ.1 42 u = 0 ∧ ¬ σ.1 44 u = 0 then zit fm_safe1 4 (4 * u) (fm_tell u 2 t (zi (zi σ 37 u (σ.1 26 0)) 36 u 0)) else σ
def fm_end2u (b w u : Nat) (σ : zS) : zS := zi σ 27 w (if ¬ σ.1 45 (8 * w + u) = 0 ∧ σ.1 27 w = -1 ∧ σ.1 29 (16 * b + w) = 0 then nI u else σ.1 27 w)
def fm_end2 (n b w : Nat) (σ : zS) : zS := zit (fm_end2u b w) n 0 σ
def fm_end3 (E t u : Nat) (σ : zS) : zS := if ¬ σ.1 42 u = 0 ∧ σ.1 44 u = 0 then fm_act E t u σ else σ
def fm_end4 (b k : Nat) (σ : zS) : zS := zl σ 7 (32 * b + k) (σ.2 5 k)
def fm_end5 (b w : Nat) (σ : zS) : zS := zi σ 28 (16 * b + w) (σ.1 27 w)
def fm_endA (n E b t : Nat) (σ : zS) : zS := zit (fm_end3 E t) n 0 (zit (fm_end2 n b) 16 0 (zit (fm_end1 t) n 0 σ))
def fm_end (n E b t : Nat) (σ : zS) : zS := zi (zit (fm_end5 b) 16 0 (zit (fm_end4 b) 32 0 (fm_endA n E b t σ))) 26 0 (nI (b + 1))
def fm_ask0 (k : Nat) (σ : zS) : zS := zi σ 45 k 0
def fm_T (E n : Nat) (σ : zS) : Nat := (fm_tk E n 0 0 (zit fm_ask0 128 0 σ)).1
def fm_pass (n E b t : Nat) (g : Int64) (σ : zS) : zS := fm_end n E b (t + fm_T E n σ) (fm_turnsOf n E t g (zit fm_ask0 128 0 σ)).2
def fm_gg (n E t : Nat) (g : Int64) (σ : zS) : Int64 := (fm_turnsOf n E t g (zit fm_ask0 128 0 σ)).1
def fm_play (n E : Nat) : Nat → Nat → Nat → Nat → Int64 → zS → Nat × zS
  | 0, _, _, k, _, σ => (k, σ)
  | c + 1, b, t, k, g, σ => if ¬ 64 ≤ b ∧ ¬ fm_going σ E n 0 0 ≤ 0 then fm_play n E c (b + 1) (t + fm_T E n σ) (k + 1) (fm_gg n E t g σ) (fm_pass n E b t g σ) else (k, σ)
end
