/-- the words of the tables that keep: every method has them all -/
def zW : List Cond := lw_tbl.filter goodWord
theorem zW_tbl : ∀ w ∈ zW, w ∈ lw_tbl := fun w h => (List.mem_filter.mp h).1
theorem zW_good : ∀ w ∈ zW, (w.onTables && w.keeps) = true ∨ ∃ ty, w = .arrayClass ty := fun w h => good_of_word (List.mem_filter.mp h).2
theorem zW_of {w : Cond} (i : Nat) (h : tables_1[i]? = some w) (g : goodWord w = true) : w ∈ zW := List.mem_filter.mpr ⟨List.mem_append_right _ (List.mem_of_getElem? h), g⟩
theorem zW_sel {w : Cond} (i : Nat) (h : (k2_sels lw_privs)[i]? = some w) (g : goodWord w = true) : w ∈ zW := List.mem_filter.mpr ⟨List.mem_append_left _ (List.mem_of_getElem? h), g⟩
abbrev zws (y : MethodName) (cc : ByteArray) (n : Nat) (r : Option FieldType) : List Cond := Cond.code y cc n r :: zW
theorem zgoodC {y : MethodName} {cc : ByteArray} {n : Nat} {r : Option FieldType} (h : Cond.code y cc n r ∈ zW) : GoodIn zW (zws y cc n r) := fun w hw => by
  rcases List.mem_cons.mp hw with e | e
  · rw [e]; exact ⟨h, zW_good _ h⟩
  · exact ⟨e, zW_good _ e⟩
theorem zgoodV {own C : String} {i : Nat} {y : MethodName} {cc : ByteArray} {n : Nat} {r : Option FieldType} (h1 : Cond.methodLink own i y ∈ zW) (h2 : Cond.instanceMethod y ∈ zW) (h3 : Cond.selects C y y ∈ zW) (h4 : Cond.initialized C ∈ zW) (h : Cond.code y cc n r ∈ zW) : GoodIn zW (wsV own i C y (zws y cc n r)) := fun w hw => by
  rcases List.mem_append.mp hw with e | e
  · simp only [List.mem_cons, List.not_mem_nil, or_false] at e
    rcases e with rfl | rfl | rfl | rfl
    · exact ⟨h1, zW_good _ h1⟩
    · exact ⟨h2, zW_good _ h2⟩
    · exact ⟨h3, zW_good _ h3⟩
    · exact ⟨h4, zW_good _ h4⟩
  · exact zgoodC h w e
theorem zgoodS {own : String} {i : Nat} {y : MethodName} {cc : ByteArray} {n : Nat} {r : Option FieldType} (h1 : Cond.methodLink own i y ∈ zW) (h2 : Cond.static y ∈ zW) (h4 : Cond.initialized own ∈ zW) (h : Cond.code y cc n r ∈ zW) : GoodIn zW (wsS own i y (zws y cc n r)) := fun w hw => by
  rcases List.mem_append.mp hw with e | e
  · simp only [List.mem_cons, List.not_mem_nil, or_false] at e
    rcases e with rfl | rfl | rfl
    · exact ⟨h1, zW_good _ h1⟩
    · exact ⟨h2, zW_good _ h2⟩
    · exact ⟨h4, zW_good _ h4⟩
  · exact zgoodC h w e
theorem zgoodT {own : String} {i : Nat} {y : MethodName} {cc : ByteArray} {n : Nat} {r : Option FieldType} (h1 : Cond.methodLink own i y ∈ zW) (h2 : Cond.static y ∈ zW) (h4 : Cond.initialized y.cls ∈ zW) (h : Cond.code y cc n r ∈ zW) : GoodIn zW (va_wsS own i y (zws y cc n r)) := fun w hw => by
  rcases List.mem_append.mp hw with e | e
  · simp only [List.mem_cons, List.not_mem_nil, or_false] at e
    rcases e with rfl | rfl | rfl
    · exact ⟨h1, zW_good _ h1⟩
    · exact ⟨h2, zW_good _ h2⟩
    · exact ⟨h4, zW_good _ h4⟩
  · exact zgoodC h w e
abbrev y_Ut_init : MethodName := ⟨"UnitThreads", "<init>", "(I)V"⟩
abbrev y_Ob_init : MethodName := ⟨"java/lang/Object", "<init>", "()V"⟩
abbrev y_Ma_min : MethodName := ⟨"java/lang/Math", "min", "(II)I"⟩
abbrev y_Ma_max : MethodName := ⟨"java/lang/Math", "max", "(II)I"⟩
abbrev y_Un_init : MethodName := ⟨"UnitThreads$Unit", "<init>", "()V"⟩
abbrev y_En_init : MethodName := ⟨"UnitThreads$Entries", "<init>", "()V"⟩
abbrev y_Or_init : MethodName := ⟨"UnitThreads$Order", "<init>", "(I)V"⟩
abbrev y_Tu_init : MethodName := ⟨"UnitThreads$Turns", "<init>", "(I)V"⟩
abbrev y_Bo_init : MethodName := ⟨"UnitThreads$Board", "<init>", "(I)V"⟩
abbrev y_Ar_fill : MethodName := ⟨"java/util/Arrays", "fill", "([II)V"⟩
abbrev y_Ut_step : MethodName := ⟨"UnitThreads", "step", "(IIIJ)Z"⟩
abbrev y_Ut_takesEntry : MethodName := ⟨"UnitThreads", "takesEntry", "(II)Z"⟩
abbrev y_Ut_isUnit : MethodName := ⟨"UnitThreads", "isUnit", "(I)Z"⟩
abbrev y_Ut_isOutputOf : MethodName := ⟨"UnitThreads", "isOutputOf", "(II)Z"⟩
abbrev y_Ut_tell : MethodName := ⟨"UnitThreads", "tell", "(IIIIJ)V"⟩
abbrev y_En_add : MethodName := ⟨"UnitThreads$Entries", "add", "(IIIIJ)V"⟩
abbrev y_Ut_asks : MethodName := ⟨"UnitThreads", "asks", "(III)Z"⟩
abbrev y_Ut_isWay : MethodName := ⟨"UnitThreads", "isWay", "(I)Z"⟩
abbrev y_En_find : MethodName := ⟨"UnitThreads$Entries", "find", "(IIII)I"⟩
abbrev y_Ut_throwsAt : MethodName := ⟨"UnitThreads", "throwsAt", "(II)Z"⟩
abbrev y_Ut_safe : MethodName := ⟨"UnitThreads", "safe", "(IJ)Z"⟩
abbrev y_Bo_hasOutput : MethodName := ⟨"UnitThreads$Board", "hasOutput", "(I)Z"⟩
abbrev y_Ut_bar : MethodName := ⟨"UnitThreads", "bar", "(II)Z"⟩
abbrev y_Ut_hasWay : MethodName := ⟨"UnitThreads", "hasWay", "(II)Z"⟩
abbrev y_Ut_play : MethodName := ⟨"UnitThreads", "play", "(JI)I"⟩
abbrev y_Ut_acting : MethodName := ⟨"UnitThreads", "acting", "()I"⟩
abbrev y_Ut_modeOf : MethodName := ⟨"UnitThreads", "modeOf", "(I)I"⟩
abbrev y_Un_hasEnded : MethodName := ⟨"UnitThreads$Unit", "hasEnded", "()Z"⟩
abbrev y_Ut_passSecond : MethodName := ⟨"UnitThreads", "passSecond", "()V"⟩
abbrev y_En_brief : MethodName := ⟨"UnitThreads$Entries", "brief", "([LUnitThreads$Unit;)V"⟩
abbrev y_Or_gather : MethodName := ⟨"UnitThreads$Order", "gather", "([LUnitThreads$Unit;)V"⟩
abbrev y_Un_acts : MethodName := ⟨"UnitThreads$Unit", "acts", "()Z"⟩
abbrev y_Or_draw : MethodName := ⟨"UnitThreads$Order", "draw", "()V"⟩
abbrev y_Or_moveForward : MethodName := ⟨"UnitThreads$Order", "moveForward", "(II)V"⟩
abbrev y_Ut_takeTurns : MethodName := ⟨"UnitThreads", "takeTurns", "()V"⟩
abbrev y_Ut_holdThrowers : MethodName := ⟨"UnitThreads", "holdThrowers", "(I)V"⟩
abbrev y_En_markThrown : MethodName := ⟨"UnitThreads$Entries", "markThrown", "(I)V"⟩
abbrev y_Bo_makeSafe : MethodName := ⟨"UnitThreads$Board", "makeSafe", "(I)V"⟩
abbrev y_Ut_grantWays : MethodName := ⟨"UnitThreads", "grantWays", "(I)V"⟩
abbrev y_Ut_leastAsker : MethodName := ⟨"UnitThreads", "leastAsker", "(I)I"⟩
abbrev y_Un_asked : MethodName := ⟨"UnitThreads$Unit", "asked", "()I"⟩
abbrev y_Ut_settle : MethodName := ⟨"UnitThreads", "settle", "()V"⟩
abbrev y_Bo_ownsAll : MethodName := ⟨"UnitThreads$Board", "ownsAll", "(II)Z"⟩
abbrev y_En_doSteps : MethodName := ⟨"UnitThreads$Entries", "doSteps", "([LUnitThreads$Unit;[J)V"⟩
abbrev y_Un_given : MethodName := ⟨"UnitThreads$Unit", "given", "()I"⟩
abbrev y_Bo_giveBack : MethodName := ⟨"UnitThreads$Board", "giveBack", "(II)V"⟩
abbrev y_Bo_keep : MethodName := ⟨"UnitThreads$Board", "keep", "()V"⟩
abbrev y_Sy_arraycopy : MethodName := ⟨"java/lang/System", "arraycopy", "(Ljava/lang/Object;ILjava/lang/Object;II)V"⟩
abbrev y_Tu_add : MethodName := ⟨"UnitThreads$Turns", "add", "(III)V"⟩
abbrev y_Ut_output : MethodName := ⟨"UnitThreads", "output", "(II)J"⟩
abbrev y_Bo_valueAt : MethodName := ⟨"UnitThreads$Board", "valueAt", "(II)J"⟩
abbrev y_Bo_wasDone : MethodName := ⟨"UnitThreads$Board", "wasDone", "(I)Z"⟩
abbrev y_Ut_owner : MethodName := ⟨"UnitThreads", "owner", "(II)I"⟩
abbrev y_Bo_ownerAt : MethodName := ⟨"UnitThreads$Board", "ownerAt", "(II)I"⟩
abbrev y_Ut_state : MethodName := ⟨"UnitThreads", "state", "(I)I"⟩
abbrev y_Ut_restart : MethodName := ⟨"UnitThreads", "restart", "(I)Z"⟩
abbrev y_Ut_held : MethodName := ⟨"UnitThreads", "held", "(I)I"⟩
abbrev y_Ut_log : MethodName := ⟨"UnitThreads", "log", "(II)I"⟩
abbrev y_Tu_look : MethodName := ⟨"UnitThreads$Turns", "look", "(II)I"⟩
abbrev y_Ut_count : MethodName := ⟨"UnitThreads", "count", "(I)I"⟩
abbrev y_Ut_close : MethodName := ⟨"UnitThreads", "close", "()I"⟩
abbrev y_Bo_shut : MethodName := ⟨"UnitThreads$Board", "shut", "()V"⟩
abbrev y_La_cell : MethodName := ⟨"UnitThreadsLaw", "cell", "([II)I"⟩
abbrev y_Mo_init : MethodName := ⟨"UnitThreadsModel", "<init>", "(I)V"⟩
abbrev y_Mo_step : MethodName := ⟨"UnitThreadsModel", "step", "(IIIJ)Z"⟩
abbrev y_Mo_isUnit : MethodName := ⟨"UnitThreadsModel", "isUnit", "(I)Z"⟩
abbrev y_Mo_isIn : MethodName := ⟨"UnitThreadsModel", "isIn", "(III)Z"⟩
abbrev y_Mo_isOpen : MethodName := ⟨"UnitThreadsModel", "isOpen", "(II)Z"⟩
abbrev y_Mo_add : MethodName := ⟨"UnitThreadsModel", "add", "(IIIIJ)Z"⟩
abbrev y_Mo_asks : MethodName := ⟨"UnitThreadsModel", "asks", "(III)Z"⟩
abbrev y_Mo_find : MethodName := ⟨"UnitThreadsModel", "find", "(IIII)I"⟩
abbrev y_Mo_throwsAt : MethodName := ⟨"UnitThreadsModel", "throwsAt", "(II)Z"⟩
abbrev y_Mo_safe : MethodName := ⟨"UnitThreadsModel", "safe", "(IJ)Z"⟩
abbrev y_Mo_bar : MethodName := ⟨"UnitThreadsModel", "bar", "(II)Z"⟩
abbrev y_Mo_play : MethodName := ⟨"UnitThreadsModel", "play", "(JI)I"⟩
abbrev y_Mo_going : MethodName := ⟨"UnitThreadsModel", "going", "()I"⟩
abbrev y_Mo_goes : MethodName := ⟨"UnitThreadsModel", "goes", "(I)Z"⟩
abbrev y_Mo_hasEnded : MethodName := ⟨"UnitThreadsModel", "hasEnded", "(I)Z"⟩
abbrev y_Mo_turnsOf : MethodName := ⟨"UnitThreadsModel", "turnsOf", "(J)J"⟩
abbrev y_Mo_takeTurn : MethodName := ⟨"UnitThreadsModel", "takeTurn", "(I)V"⟩
abbrev y_Mo_isNow : MethodName := ⟨"UnitThreadsModel", "isNow", "(III)Z"⟩
abbrev y_Mo_isGive : MethodName := ⟨"UnitThreadsModel", "isGive", "(I)Z"⟩
abbrev y_Mo_end : MethodName := ⟨"UnitThreadsModel", "end", "()V"⟩
abbrev y_Mo_tellEnd : MethodName := ⟨"UnitThreadsModel", "tellEnd", "(II)V"⟩
abbrev y_Mo_act : MethodName := ⟨"UnitThreadsModel", "act", "(I)V"⟩
abbrev y_Mo_ownsAll : MethodName := ⟨"UnitThreadsModel", "ownsAll", "(I)Z"⟩
abbrev y_Mo_output : MethodName := ⟨"UnitThreadsModel", "output", "(II)J"⟩
abbrev y_Mo_owner : MethodName := ⟨"UnitThreadsModel", "owner", "(II)I"⟩
abbrev y_Mo_state : MethodName := ⟨"UnitThreadsModel", "state", "(I)I"⟩
abbrev y_Mo_restart : MethodName := ⟨"UnitThreadsModel", "restart", "(I)Z"⟩
abbrev y_Mo_held : MethodName := ⟨"UnitThreadsModel", "held", "(I)I"⟩
abbrev y_Mo_log : MethodName := ⟨"UnitThreadsModel", "log", "(II)I"⟩
abbrev y_Mo_count : MethodName := ⟨"UnitThreadsModel", "count", "(I)I"⟩
abbrev y_Mo_close : MethodName := ⟨"UnitThreadsModel", "close", "()I"⟩
def T_Un : u_T := fun k => match k with
  | 0 => ("UnitThreads$Unit", "ownSecond", "I", false)
  | 1 => ("UnitThreads$Unit", "lastEntry", "I", false)
  | 2 => ("UnitThreads$Unit", "mode", "I", false)
  | 3 => ("UnitThreads$Unit", "heldIn", "I", false)
  | 4 => ("UnitThreads$Unit", "nextThrow", "I", false)
  | 5 => ("UnitThreads$Unit", "waysNow", "I", false)
  | 6 => ("UnitThreads$Unit", "oddBefore", "I", false)
  | _ => ("UnitThreads$Unit", "outcome", "I", false)
def ty_Un : Nat → FieldType := fun k => match k with
  | 0 => .int
  | 1 => .int
  | 2 => .int
  | 3 => .int
  | 4 => .int
  | 5 => .int
  | 6 => .int
  | _ => .int
theorem nm_Un : ∀ a, a < 8 → ∀ b, b < 8 → a ≠ b → (T_Un a).2.1 ≠ (T_Un b).2.1 := by decide +kernel
theorem tyok_Un : ∀ k, k < 8 → parseFieldDescriptor (T_Un k).2.2.1 = some (ty_Un k) := by decide +kernel
def T_En : u_T := fun k => match k with
  | 0 => ("UnitThreads$Entries", "kinds", "[I", true)
  | 1 => ("UnitThreads$Entries", "units", "[I", true)
  | 2 => ("UnitThreads$Entries", "seconds", "[I", true)
  | 3 => ("UnitThreads$Entries", "targets", "[I", true)
  | 4 => ("UnitThreads$Entries", "values", "[J", true)
  | _ => ("UnitThreads$Entries", "size", "I", false)
def ty_En : Nat → FieldType := fun k => match k with
  | 0 => .array .int
  | 1 => .array .int
  | 2 => .array .int
  | 3 => .array .int
  | 4 => .array .long
  | _ => .int
theorem nm_En : ∀ a, a < 6 → ∀ b, b < 6 → a ≠ b → (T_En a).2.1 ≠ (T_En b).2.1 := by decide +kernel
theorem tyok_En : ∀ k, k < 6 → parseFieldDescriptor (T_En k).2.2.1 = some (ty_En k) := by decide +kernel
def T_Or : u_T := fun k => match k with
  | 0 => ("UnitThreads$Order", "units", "[I", true)
  | 1 => ("UnitThreads$Order", "size", "I", false)
  | _ => ("UnitThreads$Order", "g", "J", false)
def ty_Or : Nat → FieldType := fun k => match k with
  | 0 => .array .int
  | 1 => .int
  | _ => .long
theorem nm_Or : ∀ a, a < 3 → ∀ b, b < 3 → a ≠ b → (T_Or a).2.1 ≠ (T_Or b).2.1 := by decide +kernel
theorem tyok_Or : ∀ k, k < 3 → parseFieldDescriptor (T_Or k).2.2.1 = some (ty_Or k) := by decide +kernel
def T_Tu : u_T := fun k => match k with
  | 0 => ("UnitThreads$Turns", "seconds", "[I", true)
  | 1 => ("UnitThreads$Turns", "units", "[I", true)
  | 2 => ("UnitThreads$Turns", "outcomes", "[I", true)
  | _ => ("UnitThreads$Turns", "size", "I", false)
def ty_Tu : Nat → FieldType := fun k => match k with
  | 0 => .array .int
  | 1 => .array .int
  | 2 => .array .int
  | _ => .int
theorem nm_Tu : ∀ a, a < 4 → ∀ b, b < 4 → a ≠ b → (T_Tu a).2.1 ≠ (T_Tu b).2.1 := by decide +kernel
theorem tyok_Tu : ∀ k, k < 4 → parseFieldDescriptor (T_Tu k).2.2.1 = some (ty_Tu k) := by decide +kernel
def T_Bo : u_T := fun k => match k with
  | 0 => ("UnitThreads$Board", "values", "[J", true)
  | 1 => ("UnitThreads$Board", "safeValues", "[J", true)
  | 2 => ("UnitThreads$Board", "owners", "[I", true)
  | 3 => ("UnitThreads$Board", "pastValues", "[J", true)
  | 4 => ("UnitThreads$Board", "pastOwners", "[I", true)
  | _ => ("UnitThreads$Board", "seconds", "I", false)
def ty_Bo : Nat → FieldType := fun k => match k with
  | 0 => .array .long
  | 1 => .array .long
  | 2 => .array .int
  | 3 => .array .long
  | 4 => .array .int
  | _ => .int
theorem nm_Bo : ∀ a, a < 6 → ∀ b, b < 6 → a ≠ b → (T_Bo a).2.1 ≠ (T_Bo b).2.1 := by decide +kernel
theorem tyok_Bo : ∀ k, k < 6 → parseFieldDescriptor (T_Bo k).2.2.1 = some (ty_Bo k) := by decide +kernel
def T_Ut : u_T := fun k => match k with
  | 0 => ("UnitThreads", "crew", "[LUnitThreads$Unit;", true)
  | 1 => ("UnitThreads", "entries", "LUnitThreads$Entries;", true)
  | 2 => ("UnitThreads", "order", "LUnitThreads$Order;", true)
  | 3 => ("UnitThreads", "turns", "LUnitThreads$Turns;", true)
  | 4 => ("UnitThreads", "board", "LUnitThreads$Board;", true)
  | 5 => ("UnitThreads", "barred", "[I", true)
  | _ => ("UnitThreads", "closed", "Z", false)
def ty_Ut : Nat → FieldType := fun k => match k with
  | 0 => .array (.object "UnitThreads$Unit")
  | 1 => .object "UnitThreads$Entries"
  | 2 => .object "UnitThreads$Order"
  | 3 => .object "UnitThreads$Turns"
  | 4 => .object "UnitThreads$Board"
  | 5 => .array .int
  | _ => .boolean
theorem nm_Ut : ∀ a, a < 7 → ∀ b, b < 7 → a ≠ b → (T_Ut a).2.1 ≠ (T_Ut b).2.1 := by decide +kernel
theorem tyok_Ut : ∀ k, k < 7 → parseFieldDescriptor (T_Ut k).2.2.1 = some (ty_Ut k) := by decide +kernel
def T_Mo : u_T := fun k => match k with
  | 0 => ("UnitThreadsModel", "units", "I", true)
  | 1 => ("UnitThreadsModel", "isClosed", "Z", false)
  | 2 => ("UnitThreadsModel", "done", "I", false)
  | 3 => ("UnitThreadsModel", "outputs", "[J", true)
  | 4 => ("UnitThreadsModel", "safes", "[J", true)
  | 5 => ("UnitThreadsModel", "owners", "[I", true)
  | 6 => ("UnitThreadsModel", "outputsAt", "[J", true)
  | 7 => ("UnitThreadsModel", "ownersAt", "[I", true)
  | 8 => ("UnitThreadsModel", "bars", "[Z", true)
  | 9 => ("UnitThreadsModel", "kinds", "[I", true)
  | 10 => ("UnitThreadsModel", "whose", "[I", true)
  | 11 => ("UnitThreadsModel", "seconds", "[I", true)
  | 12 => ("UnitThreadsModel", "what", "[I", true)
  | 13 => ("UnitThreadsModel", "values", "[J", true)
  | 14 => ("UnitThreadsModel", "entries", "I", false)
  | 15 => ("UnitThreadsModel", "own", "[I", true)
  | 16 => ("UnitThreadsModel", "waits", "[Z", true)
  | 17 => ("UnitThreadsModel", "heldAt", "[I", true)
  | 18 => ("UnitThreadsModel", "turnSeconds", "[I", true)
  | 19 => ("UnitThreadsModel", "turnUnits", "[I", true)
  | 20 => ("UnitThreadsModel", "turnEnds", "[I", true)
  | 21 => ("UnitThreadsModel", "turns", "I", false)
  | 22 => ("UnitThreadsModel", "takes", "[Z", true)
  | 23 => ("UnitThreadsModel", "left", "[Z", true)
  | 24 => ("UnitThreadsModel", "throwing", "[Z", true)
  | _ => ("UnitThreadsModel", "asked", "[Z", true)
def ty_Mo : Nat → FieldType := fun k => match k with
  | 0 => .int
  | 1 => .boolean
  | 2 => .int
  | 3 => .array .long
  | 4 => .array .long
  | 5 => .array .int
  | 6 => .array .long
  | 7 => .array .int
  | 8 => .array .boolean
  | 9 => .array .int
  | 10 => .array .int
  | 11 => .array .int
  | 12 => .array .int
  | 13 => .array .long
  | 14 => .int
  | 15 => .array .int
  | 16 => .array .boolean
  | 17 => .array .int
  | 18 => .array .int
  | 19 => .array .int
  | 20 => .array .int
  | 21 => .int
  | 22 => .array .boolean
  | 23 => .array .boolean
  | 24 => .array .boolean
  | _ => .array .boolean
theorem nm_Mo : ∀ a, a < 26 → ∀ b, b < 26 → a ≠ b → (T_Mo a).2.1 ≠ (T_Mo b).2.1 := by decide +kernel
theorem tyok_Mo : ∀ k, k < 26 → parseFieldDescriptor (T_Mo k).2.2.1 = some (ty_Mo k) := by decide +kernel
abbrev vwCl : List vw_C := [("UnitThreads$Unit", T_Un, 8), ("UnitThreads$Entries", T_En, 6), ("UnitThreads$Order", T_Or, 3), ("UnitThreads$Turns", T_Tu, 4), ("UnitThreads$Board", T_Bo, 6), ("UnitThreads", T_Ut, 7), ("UnitThreadsModel", T_Mo, 26)]
