abbrev KA : Type := va_G × (Nat → Nat) × (ClassId × ClassId × ClassId × ClassId) × Nat
def aA (κ : KA) (i : Nat) : Nat := κ.2.1 i
def cI (κ : KA) : ClassId := κ.2.2.1.1
def cJ (κ : KA) : ClassId := κ.2.2.1.2.1
def cQ (κ : KA) : ClassId := κ.2.2.1.2.2.1
def cZ (κ : KA) : ClassId := κ.2.2.1.2.2.2
def nA (κ : KA) : Nat := κ.2.2.2
abbrev tysA (κ : KA) : List (ClassId × FieldType) := [(cI κ, .int), (cJ κ, .long), (cQ κ, .object "UnitThreads$Unit"), (cZ κ, .boolean)]
abbrev nwA : List zN := [("UnitThreads$Board", 48, y_Ut_hasWay, "UnitThreads"), ("UnitThreads$Board", 45, y_Ut_isWay, "UnitThreads")]
def uC (κ : KA) (σ : zS) (u : Nat) : Nat × va_E := (aA κ (64 + u), .inr (0, [.int (σ.1 0 u), .int (σ.1 1 u), .int (σ.1 2 u), .int (σ.1 3 u), .int (σ.1 4 u), .int (σ.1 5 u), .int (σ.1 6 u), .int (σ.1 7 u)]))
def sC (κ : KA) (σ : zS) : va_W := [(aA κ 0, .inr (5, [.ref (aA κ 1), .ref (aA κ 2), .ref (aA κ 8), .ref (aA κ 10), .ref (aA κ 14), .ref (aA κ 20), .int (σ.1 23 0)])),
  (aA κ 1, .inl (cQ κ, nA κ, .inr (.inr (.inr (.inr (fun u => some (aA κ (64 + u)))))))),
  (aA κ 2, .inr (1, [.ref (aA κ 3), .ref (aA κ 4), .ref (aA κ 5), .ref (aA κ 6), .ref (aA κ 7), .int (σ.1 12 0)])),
  (aA κ 3, .inl (cI κ, 300, .inl (σ.1 8))),
  (aA κ 4, .inl (cI κ, 300, .inl (σ.1 9))),
  (aA κ 5, .inl (cI κ, 300, .inl (σ.1 10))),
  (aA κ 6, .inl (cI κ, 300, .inl (σ.1 11))),
  (aA κ 7, .inl (cJ κ, 300, .inr (.inl (σ.2 0)))),
  (aA κ 8, .inr (2, [.ref (aA κ 9), .int (σ.1 14 0), .long (σ.2 1 0)])),
  (aA κ 9, .inl (cI κ, nA κ, .inl (σ.1 13))),
  (aA κ 10, .inr (3, [.ref (aA κ 11), .ref (aA κ 12), .ref (aA κ 13), .int (σ.1 18 0)])),
  (aA κ 11, .inl (cI κ, nA κ * 64, .inl (σ.1 15))),
  (aA κ 12, .inl (cI κ, nA κ * 64, .inl (σ.1 16))),
  (aA κ 13, .inl (cI κ, nA κ * 64, .inl (σ.1 17))),
  (aA κ 14, .inr (4, [.ref (aA κ 15), .ref (aA κ 16), .ref (aA κ 17), .ref (aA κ 18), .ref (aA κ 19), .int (σ.1 21 0)])),
  (aA κ 15, .inl (cJ κ, nA κ * 4, .inr (.inl (σ.2 2)))),
  (aA κ 16, .inl (cJ κ, nA κ * 4, .inr (.inl (σ.2 3)))),
  (aA κ 17, .inl (cI κ, 16, .inl (σ.1 19))),
  (aA κ 18, .inl (cJ κ, 64 * (nA κ * 4), .inr (.inl (σ.2 4)))),
  (aA κ 19, .inl (cI κ, 1024, .inl (σ.1 20))),
  (aA κ 20, .inl (cI κ, 64, .inl (σ.1 22))),
  (aA κ 21, .inr (6, [.int (nI (nA κ)), .int (σ.1 25 0), .int (σ.1 26 0), .ref (aA κ 22), .ref (aA κ 23), .ref (aA κ 24), .ref (aA κ 25), .ref (aA κ 26), .ref (aA κ 27), .ref (aA κ 28), .ref (aA κ 29), .ref (aA κ 30), .ref (aA κ 31), .ref (aA κ 32), .int (σ.1 34 0), .ref (aA κ 33), .ref (aA κ 34), .ref (aA κ 35), .ref (aA κ 36), .ref (aA κ 37), .ref (aA κ 38), .int (σ.1 41 0), .ref (aA κ 39), .ref (aA κ 40), .ref (aA κ 41), .ref (aA κ 42)])),
  (aA κ 22, .inl (cJ κ, 32, .inr (.inl (σ.2 5)))),
  (aA κ 23, .inl (cJ κ, 32, .inr (.inl (σ.2 6)))),
  (aA κ 24, .inl (cI κ, 16, .inl (σ.1 27))),
  (aA κ 25, .inl (cJ κ, 2048, .inr (.inl (σ.2 7)))),
  (aA κ 26, .inl (cI κ, 1024, .inl (σ.1 28))),
  (aA κ 27, .inl (cZ κ, 1024, .inl (σ.1 29))),
  (aA κ 28, .inl (cI κ, 300, .inl (σ.1 30))),
  (aA κ 29, .inl (cI κ, 300, .inl (σ.1 31))),
  (aA κ 30, .inl (cI κ, 300, .inl (σ.1 32))),
  (aA κ 31, .inl (cI κ, 300, .inl (σ.1 33))),
  (aA κ 32, .inl (cJ κ, 300, .inr (.inl (σ.2 8)))),
  (aA κ 33, .inl (cI κ, 8, .inl (σ.1 35))),
  (aA κ 34, .inl (cZ κ, 8, .inl (σ.1 36))),
  (aA κ 35, .inl (cI κ, 8, .inl (σ.1 37))),
  (aA κ 36, .inl (cI κ, 512, .inl (σ.1 38))),
  (aA κ 37, .inl (cI κ, 512, .inl (σ.1 39))),
  (aA κ 38, .inl (cI κ, 512, .inl (σ.1 40))),
  (aA κ 39, .inl (cZ κ, 8, .inl (σ.1 42))),
  (aA κ 40, .inl (cZ κ, 8, .inl (σ.1 43))),
  (aA κ 41, .inl (cZ κ, 8, .inl (σ.1 44))),
  (aA κ 42, .inl (cZ κ, 128, .inl (σ.1 45)))]
def wA (κ : KA) (σ : zS) : va_W := sC κ σ ++ (List.range (nA κ)).map (uC κ σ)
abbrev BA (κ : KA) (A : Nat → Prop) (H0 : Heap) (s : State) (σ : zS) (H : Heap) (locs : List Loc) : Prop := zB κ.1 vwCl (tysA κ) nwA (wA κ) A H0 s σ H locs
theorem wa_0 (κ : KA) (σ : zS) : (wA κ σ)[0]? = some (aA κ 0, .inr (5, [.ref (aA κ 1), .ref (aA κ 2), .ref (aA κ 8), .ref (aA κ 10), .ref (aA κ 14), .ref (aA κ 20), .int (σ.1 23 0)])) := rfl
theorem wa_1 (κ : KA) (σ : zS) : (wA κ σ)[1]? = some (aA κ 1, .inl (cQ κ, nA κ, .inr (.inr (.inr (.inr (fun u => some (aA κ (64 + u)))))))) := rfl
theorem wa_2 (κ : KA) (σ : zS) : (wA κ σ)[2]? = some (aA κ 2, .inr (1, [.ref (aA κ 3), .ref (aA κ 4), .ref (aA κ 5), .ref (aA κ 6), .ref (aA κ 7), .int (σ.1 12 0)])) := rfl
theorem wa_3 (κ : KA) (σ : zS) : (wA κ σ)[3]? = some (aA κ 3, .inl (cI κ, 300, .inl (σ.1 8))) := rfl
theorem wa_4 (κ : KA) (σ : zS) : (wA κ σ)[4]? = some (aA κ 4, .inl (cI κ, 300, .inl (σ.1 9))) := rfl
theorem wa_5 (κ : KA) (σ : zS) : (wA κ σ)[5]? = some (aA κ 5, .inl (cI κ, 300, .inl (σ.1 10))) := rfl
theorem wa_6 (κ : KA) (σ : zS) : (wA κ σ)[6]? = some (aA κ 6, .inl (cI κ, 300, .inl (σ.1 11))) := rfl
theorem wa_7 (κ : KA) (σ : zS) : (wA κ σ)[7]? = some (aA κ 7, .inl (cJ κ, 300, .inr (.inl (σ.2 0)))) := rfl
theorem wa_8 (κ : KA) (σ : zS) : (wA κ σ)[8]? = some (aA κ 8, .inr (2, [.ref (aA κ 9), .int (σ.1 14 0), .long (σ.2 1 0)])) := rfl
theorem wa_9 (κ : KA) (σ : zS) : (wA κ σ)[9]? = some (aA κ 9, .inl (cI κ, nA κ, .inl (σ.1 13))) := rfl
theorem wa_10 (κ : KA) (σ : zS) : (wA κ σ)[10]? = some (aA κ 10, .inr (3, [.ref (aA κ 11), .ref (aA κ 12), .ref (aA κ 13), .int (σ.1 18 0)])) := rfl
theorem wa_11 (κ : KA) (σ : zS) : (wA κ σ)[11]? = some (aA κ 11, .inl (cI κ, nA κ * 64, .inl (σ.1 15))) := rfl
theorem wa_12 (κ : KA) (σ : zS) : (wA κ σ)[12]? = some (aA κ 12, .inl (cI κ, nA κ * 64, .inl (σ.1 16))) := rfl
theorem wa_13 (κ : KA) (σ : zS) : (wA κ σ)[13]? = some (aA κ 13, .inl (cI κ, nA κ * 64, .inl (σ.1 17))) := rfl
theorem wa_14 (κ : KA) (σ : zS) : (wA κ σ)[14]? = some (aA κ 14, .inr (4, [.ref (aA κ 15), .ref (aA κ 16), .ref (aA κ 17), .ref (aA κ 18), .ref (aA κ 19), .int (σ.1 21 0)])) := rfl
theorem wa_15 (κ : KA) (σ : zS) : (wA κ σ)[15]? = some (aA κ 15, .inl (cJ κ, nA κ * 4, .inr (.inl (σ.2 2)))) := rfl
theorem wa_16 (κ : KA) (σ : zS) : (wA κ σ)[16]? = some (aA κ 16, .inl (cJ κ, nA κ * 4, .inr (.inl (σ.2 3)))) := rfl
theorem wa_17 (κ : KA) (σ : zS) : (wA κ σ)[17]? = some (aA κ 17, .inl (cI κ, 16, .inl (σ.1 19))) := rfl
theorem wa_18 (κ : KA) (σ : zS) : (wA κ σ)[18]? = some (aA κ 18, .inl (cJ κ, 64 * (nA κ * 4), .inr (.inl (σ.2 4)))) := rfl
theorem wa_19 (κ : KA) (σ : zS) : (wA κ σ)[19]? = some (aA κ 19, .inl (cI κ, 1024, .inl (σ.1 20))) := rfl
theorem wa_20 (κ : KA) (σ : zS) : (wA κ σ)[20]? = some (aA κ 20, .inl (cI κ, 64, .inl (σ.1 22))) := rfl
theorem wa_21 (κ : KA) (σ : zS) : (wA κ σ)[21]? = some (aA κ 21, .inr (6, [.int (nI (nA κ)), .int (σ.1 25 0), .int (σ.1 26 0), .ref (aA κ 22), .ref (aA κ 23), .ref (aA κ 24), .ref (aA κ 25), .ref (aA κ 26), .ref (aA κ 27), .ref (aA κ 28), .ref (aA κ 29), .ref (aA κ 30), .ref (aA κ 31), .ref (aA κ 32), .int (σ.1 34 0), .ref (aA κ 33), .ref (aA κ 34), .ref (aA κ 35), .ref (aA κ 36), .ref (aA κ 37), .ref (aA κ 38), .int (σ.1 41 0), .ref (aA κ 39), .ref (aA κ 40), .ref (aA κ 41), .ref (aA κ 42)])) := rfl
theorem wa_22 (κ : KA) (σ : zS) : (wA κ σ)[22]? = some (aA κ 22, .inl (cJ κ, 32, .inr (.inl (σ.2 5)))) := rfl
theorem wa_23 (κ : KA) (σ : zS) : (wA κ σ)[23]? = some (aA κ 23, .inl (cJ κ, 32, .inr (.inl (σ.2 6)))) := rfl
theorem wa_24 (κ : KA) (σ : zS) : (wA κ σ)[24]? = some (aA κ 24, .inl (cI κ, 16, .inl (σ.1 27))) := rfl
theorem wa_25 (κ : KA) (σ : zS) : (wA κ σ)[25]? = some (aA κ 25, .inl (cJ κ, 2048, .inr (.inl (σ.2 7)))) := rfl
theorem wa_26 (κ : KA) (σ : zS) : (wA κ σ)[26]? = some (aA κ 26, .inl (cI κ, 1024, .inl (σ.1 28))) := rfl
theorem wa_27 (κ : KA) (σ : zS) : (wA κ σ)[27]? = some (aA κ 27, .inl (cZ κ, 1024, .inl (σ.1 29))) := rfl
theorem wa_28 (κ : KA) (σ : zS) : (wA κ σ)[28]? = some (aA κ 28, .inl (cI κ, 300, .inl (σ.1 30))) := rfl
theorem wa_29 (κ : KA) (σ : zS) : (wA κ σ)[29]? = some (aA κ 29, .inl (cI κ, 300, .inl (σ.1 31))) := rfl
theorem wa_30 (κ : KA) (σ : zS) : (wA κ σ)[30]? = some (aA κ 30, .inl (cI κ, 300, .inl (σ.1 32))) := rfl
theorem wa_31 (κ : KA) (σ : zS) : (wA κ σ)[31]? = some (aA κ 31, .inl (cI κ, 300, .inl (σ.1 33))) := rfl
theorem wa_32 (κ : KA) (σ : zS) : (wA κ σ)[32]? = some (aA κ 32, .inl (cJ κ, 300, .inr (.inl (σ.2 8)))) := rfl
theorem wa_33 (κ : KA) (σ : zS) : (wA κ σ)[33]? = some (aA κ 33, .inl (cI κ, 8, .inl (σ.1 35))) := rfl
theorem wa_34 (κ : KA) (σ : zS) : (wA κ σ)[34]? = some (aA κ 34, .inl (cZ κ, 8, .inl (σ.1 36))) := rfl
theorem wa_35 (κ : KA) (σ : zS) : (wA κ σ)[35]? = some (aA κ 35, .inl (cI κ, 8, .inl (σ.1 37))) := rfl
theorem wa_36 (κ : KA) (σ : zS) : (wA κ σ)[36]? = some (aA κ 36, .inl (cI κ, 512, .inl (σ.1 38))) := rfl
theorem wa_37 (κ : KA) (σ : zS) : (wA κ σ)[37]? = some (aA κ 37, .inl (cI κ, 512, .inl (σ.1 39))) := rfl
theorem wa_38 (κ : KA) (σ : zS) : (wA κ σ)[38]? = some (aA κ 38, .inl (cI κ, 512, .inl (σ.1 40))) := rfl
theorem wa_39 (κ : KA) (σ : zS) : (wA κ σ)[39]? = some (aA κ 39, .inl (cZ κ, 8, .inl (σ.1 42))) := rfl
theorem wa_40 (κ : KA) (σ : zS) : (wA κ σ)[40]? = some (aA κ 40, .inl (cZ κ, 8, .inl (σ.1 43))) := rfl
theorem wa_41 (κ : KA) (σ : zS) : (wA κ σ)[41]? = some (aA κ 41, .inl (cZ κ, 8, .inl (σ.1 44))) := rfl
theorem wa_42 (κ : KA) (σ : zS) : (wA κ σ)[42]? = some (aA κ 42, .inl (cZ κ, 128, .inl (σ.1 45))) := rfl
theorem sC_len (κ : KA) (σ : zS) : (sC κ σ).length = 43 := rfl
theorem wa_u (κ : KA) (σ : zS) {u : Nat} (hu : u < nA κ) : (wA κ σ)[43 + u]? = some (aA κ (64 + u), .inr (0, [.int (σ.1 0 u), .int (σ.1 1 u), .int (σ.1 2 u), .int (σ.1 3 u), .int (σ.1 4 u), .int (σ.1 5 u), .int (σ.1 6 u), .int (σ.1 7 u)])) := by
  show (sC κ σ ++ (List.range (nA κ)).map (uC κ σ))[43 + u]? = _
  rw [List.getElem?_append_right (by rw [sC_len]; omega), sC_len, show 43 + u - 43 = u by omega, List.getElem?_map, List.getElem?_range hu]
  rfl
theorem range_set {α : Type} {n u : Nat} (hu : u < n) {g g' : Nat → α} {x : α} (h1 : g' u = x) (h2 : ∀ j, j ≠ u → g' j = g j) : ((List.range n).map g).set u x = (List.range n).map g' := by
  apply List.ext_getElem?
  intro i
  by_cases h : i = u
  · subst h
    rw [List.getElem?_set_self (by simpa using hu), List.getElem?_map, List.getElem?_range hu]
    simp [h1]
  · rw [List.getElem?_set_ne (Ne.symm h), List.getElem?_map, List.getElem?_map]
    cases hr : (List.range n)[i]? with
    | none => rfl
    | some j =>
      have hj : j = i := by
        have hl := (List.getElem?_eq_some_iff.mp hr).1
        have := (List.getElem?_eq_some_iff.mp hr).2
        rw [List.getElem_range] at this
        exact this.symm
      subst hj
      simp [h2 j h]
theorem wp_0_6 (κ : KA) (σ : zS) (v : Int32) : (wA κ σ).set 0 (aA κ 0, .inr (5, ([.ref (aA κ 1), .ref (aA κ 2), .ref (aA κ 8), .ref (aA κ 10), .ref (aA κ 14), .ref (aA κ 20), .int (σ.1 23 0)] : List Value).set 6 (.int v))) = wA κ (zi σ 23 0 v) := rfl
theorem wp_2_5 (κ : KA) (σ : zS) (v : Int32) : (wA κ σ).set 2 (aA κ 2, .inr (1, ([.ref (aA κ 3), .ref (aA κ 4), .ref (aA κ 5), .ref (aA κ 6), .ref (aA κ 7), .int (σ.1 12 0)] : List Value).set 5 (.int v))) = wA κ (zi σ 12 0 v) := rfl
theorem ws_3 (κ : KA) (σ : zS) (k : Nat) (x : Int32) : (wA κ σ).set 3 (aA κ 3, .inl (cI κ, 300, .inl ((zi σ 8 k x).1 8))) = wA κ (zi σ 8 k x) := rfl
theorem ws_4 (κ : KA) (σ : zS) (k : Nat) (x : Int32) : (wA κ σ).set 4 (aA κ 4, .inl (cI κ, 300, .inl ((zi σ 9 k x).1 9))) = wA κ (zi σ 9 k x) := rfl
theorem ws_5 (κ : KA) (σ : zS) (k : Nat) (x : Int32) : (wA κ σ).set 5 (aA κ 5, .inl (cI κ, 300, .inl ((zi σ 10 k x).1 10))) = wA κ (zi σ 10 k x) := rfl
theorem ws_6 (κ : KA) (σ : zS) (k : Nat) (x : Int32) : (wA κ σ).set 6 (aA κ 6, .inl (cI κ, 300, .inl ((zi σ 11 k x).1 11))) = wA κ (zi σ 11 k x) := rfl
theorem ws_7 (κ : KA) (σ : zS) (k : Nat) (x : Int64) : (wA κ σ).set 7 (aA κ 7, .inl (cJ κ, 300, .inr (.inl ((zl σ 0 k x).2 0)))) = wA κ (zl σ 0 k x) := rfl
theorem wp_8_1 (κ : KA) (σ : zS) (v : Int32) : (wA κ σ).set 8 (aA κ 8, .inr (2, ([.ref (aA κ 9), .int (σ.1 14 0), .long (σ.2 1 0)] : List Value).set 1 (.int v))) = wA κ (zi σ 14 0 v) := rfl
theorem wp_8_2 (κ : KA) (σ : zS) (v : Int64) : (wA κ σ).set 8 (aA κ 8, .inr (2, ([.ref (aA κ 9), .int (σ.1 14 0), .long (σ.2 1 0)] : List Value).set 2 (.long v))) = wA κ (zl σ 1 0 v) := rfl
theorem ws_9 (κ : KA) (σ : zS) (k : Nat) (x : Int32) : (wA κ σ).set 9 (aA κ 9, .inl (cI κ, nA κ, .inl ((zi σ 13 k x).1 13))) = wA κ (zi σ 13 k x) := rfl
theorem wp_10_3 (κ : KA) (σ : zS) (v : Int32) : (wA κ σ).set 10 (aA κ 10, .inr (3, ([.ref (aA κ 11), .ref (aA κ 12), .ref (aA κ 13), .int (σ.1 18 0)] : List Value).set 3 (.int v))) = wA κ (zi σ 18 0 v) := rfl
theorem ws_11 (κ : KA) (σ : zS) (k : Nat) (x : Int32) : (wA κ σ).set 11 (aA κ 11, .inl (cI κ, nA κ * 64, .inl ((zi σ 15 k x).1 15))) = wA κ (zi σ 15 k x) := rfl
theorem ws_12 (κ : KA) (σ : zS) (k : Nat) (x : Int32) : (wA κ σ).set 12 (aA κ 12, .inl (cI κ, nA κ * 64, .inl ((zi σ 16 k x).1 16))) = wA κ (zi σ 16 k x) := rfl
theorem ws_13 (κ : KA) (σ : zS) (k : Nat) (x : Int32) : (wA κ σ).set 13 (aA κ 13, .inl (cI κ, nA κ * 64, .inl ((zi σ 17 k x).1 17))) = wA κ (zi σ 17 k x) := rfl
theorem wp_14_5 (κ : KA) (σ : zS) (v : Int32) : (wA κ σ).set 14 (aA κ 14, .inr (4, ([.ref (aA κ 15), .ref (aA κ 16), .ref (aA κ 17), .ref (aA κ 18), .ref (aA κ 19), .int (σ.1 21 0)] : List Value).set 5 (.int v))) = wA κ (zi σ 21 0 v) := rfl
theorem ws_15 (κ : KA) (σ : zS) (k : Nat) (x : Int64) : (wA κ σ).set 15 (aA κ 15, .inl (cJ κ, nA κ * 4, .inr (.inl ((zl σ 2 k x).2 2)))) = wA κ (zl σ 2 k x) := rfl
theorem ws_16 (κ : KA) (σ : zS) (k : Nat) (x : Int64) : (wA κ σ).set 16 (aA κ 16, .inl (cJ κ, nA κ * 4, .inr (.inl ((zl σ 3 k x).2 3)))) = wA κ (zl σ 3 k x) := rfl
theorem ws_17 (κ : KA) (σ : zS) (k : Nat) (x : Int32) : (wA κ σ).set 17 (aA κ 17, .inl (cI κ, 16, .inl ((zi σ 19 k x).1 19))) = wA κ (zi σ 19 k x) := rfl
theorem ws_18 (κ : KA) (σ : zS) (k : Nat) (x : Int64) : (wA κ σ).set 18 (aA κ 18, .inl (cJ κ, 64 * (nA κ * 4), .inr (.inl ((zl σ 4 k x).2 4)))) = wA κ (zl σ 4 k x) := rfl
theorem ws_19 (κ : KA) (σ : zS) (k : Nat) (x : Int32) : (wA κ σ).set 19 (aA κ 19, .inl (cI κ, 1024, .inl ((zi σ 20 k x).1 20))) = wA κ (zi σ 20 k x) := rfl
theorem ws_20 (κ : KA) (σ : zS) (k : Nat) (x : Int32) : (wA κ σ).set 20 (aA κ 20, .inl (cI κ, 64, .inl ((zi σ 22 k x).1 22))) = wA κ (zi σ 22 k x) := rfl
theorem wp_21_1 (κ : KA) (σ : zS) (v : Int32) : (wA κ σ).set 21 (aA κ 21, .inr (6, ([.int (nI (nA κ)), .int (σ.1 25 0), .int (σ.1 26 0), .ref (aA κ 22), .ref (aA κ 23), .ref (aA κ 24), .ref (aA κ 25), .ref (aA κ 26), .ref (aA κ 27), .ref (aA κ 28), .ref (aA κ 29), .ref (aA κ 30), .ref (aA κ 31), .ref (aA κ 32), .int (σ.1 34 0), .ref (aA κ 33), .ref (aA κ 34), .ref (aA κ 35), .ref (aA κ 36), .ref (aA κ 37), .ref (aA κ 38), .int (σ.1 41 0), .ref (aA κ 39), .ref (aA κ 40), .ref (aA κ 41), .ref (aA κ 42)] : List Value).set 1 (.int v))) = wA κ (zi σ 25 0 v) := rfl
theorem wp_21_2 (κ : KA) (σ : zS) (v : Int32) : (wA κ σ).set 21 (aA κ 21, .inr (6, ([.int (nI (nA κ)), .int (σ.1 25 0), .int (σ.1 26 0), .ref (aA κ 22), .ref (aA κ 23), .ref (aA κ 24), .ref (aA κ 25), .ref (aA κ 26), .ref (aA κ 27), .ref (aA κ 28), .ref (aA κ 29), .ref (aA κ 30), .ref (aA κ 31), .ref (aA κ 32), .int (σ.1 34 0), .ref (aA κ 33), .ref (aA κ 34), .ref (aA κ 35), .ref (aA κ 36), .ref (aA κ 37), .ref (aA κ 38), .int (σ.1 41 0), .ref (aA κ 39), .ref (aA κ 40), .ref (aA κ 41), .ref (aA κ 42)] : List Value).set 2 (.int v))) = wA κ (zi σ 26 0 v) := rfl
theorem wp_21_14 (κ : KA) (σ : zS) (v : Int32) : (wA κ σ).set 21 (aA κ 21, .inr (6, ([.int (nI (nA κ)), .int (σ.1 25 0), .int (σ.1 26 0), .ref (aA κ 22), .ref (aA κ 23), .ref (aA κ 24), .ref (aA κ 25), .ref (aA κ 26), .ref (aA κ 27), .ref (aA κ 28), .ref (aA κ 29), .ref (aA κ 30), .ref (aA κ 31), .ref (aA κ 32), .int (σ.1 34 0), .ref (aA κ 33), .ref (aA κ 34), .ref (aA κ 35), .ref (aA κ 36), .ref (aA κ 37), .ref (aA κ 38), .int (σ.1 41 0), .ref (aA κ 39), .ref (aA κ 40), .ref (aA κ 41), .ref (aA κ 42)] : List Value).set 14 (.int v))) = wA κ (zi σ 34 0 v) := rfl
theorem wp_21_21 (κ : KA) (σ : zS) (v : Int32) : (wA κ σ).set 21 (aA κ 21, .inr (6, ([.int (nI (nA κ)), .int (σ.1 25 0), .int (σ.1 26 0), .ref (aA κ 22), .ref (aA κ 23), .ref (aA κ 24), .ref (aA κ 25), .ref (aA κ 26), .ref (aA κ 27), .ref (aA κ 28), .ref (aA κ 29), .ref (aA κ 30), .ref (aA κ 31), .ref (aA κ 32), .int (σ.1 34 0), .ref (aA κ 33), .ref (aA κ 34), .ref (aA κ 35), .ref (aA κ 36), .ref (aA κ 37), .ref (aA κ 38), .int (σ.1 41 0), .ref (aA κ 39), .ref (aA κ 40), .ref (aA κ 41), .ref (aA κ 42)] : List Value).set 21 (.int v))) = wA κ (zi σ 41 0 v) := rfl
theorem ws_22 (κ : KA) (σ : zS) (k : Nat) (x : Int64) : (wA κ σ).set 22 (aA κ 22, .inl (cJ κ, 32, .inr (.inl ((zl σ 5 k x).2 5)))) = wA κ (zl σ 5 k x) := rfl
theorem ws_23 (κ : KA) (σ : zS) (k : Nat) (x : Int64) : (wA κ σ).set 23 (aA κ 23, .inl (cJ κ, 32, .inr (.inl ((zl σ 6 k x).2 6)))) = wA κ (zl σ 6 k x) := rfl
theorem ws_24 (κ : KA) (σ : zS) (k : Nat) (x : Int32) : (wA κ σ).set 24 (aA κ 24, .inl (cI κ, 16, .inl ((zi σ 27 k x).1 27))) = wA κ (zi σ 27 k x) := rfl
theorem ws_25 (κ : KA) (σ : zS) (k : Nat) (x : Int64) : (wA κ σ).set 25 (aA κ 25, .inl (cJ κ, 2048, .inr (.inl ((zl σ 7 k x).2 7)))) = wA κ (zl σ 7 k x) := rfl
theorem ws_26 (κ : KA) (σ : zS) (k : Nat) (x : Int32) : (wA κ σ).set 26 (aA κ 26, .inl (cI κ, 1024, .inl ((zi σ 28 k x).1 28))) = wA κ (zi σ 28 k x) := rfl
theorem ws_27 (κ : KA) (σ : zS) (k : Nat) (x : Int32) : (wA κ σ).set 27 (aA κ 27, .inl (cZ κ, 1024, .inl ((zi σ 29 k x).1 29))) = wA κ (zi σ 29 k x) := rfl
theorem ws_28 (κ : KA) (σ : zS) (k : Nat) (x : Int32) : (wA κ σ).set 28 (aA κ 28, .inl (cI κ, 300, .inl ((zi σ 30 k x).1 30))) = wA κ (zi σ 30 k x) := rfl
theorem ws_29 (κ : KA) (σ : zS) (k : Nat) (x : Int32) : (wA κ σ).set 29 (aA κ 29, .inl (cI κ, 300, .inl ((zi σ 31 k x).1 31))) = wA κ (zi σ 31 k x) := rfl
theorem ws_30 (κ : KA) (σ : zS) (k : Nat) (x : Int32) : (wA κ σ).set 30 (aA κ 30, .inl (cI κ, 300, .inl ((zi σ 32 k x).1 32))) = wA κ (zi σ 32 k x) := rfl
theorem ws_31 (κ : KA) (σ : zS) (k : Nat) (x : Int32) : (wA κ σ).set 31 (aA κ 31, .inl (cI κ, 300, .inl ((zi σ 33 k x).1 33))) = wA κ (zi σ 33 k x) := rfl
theorem ws_32 (κ : KA) (σ : zS) (k : Nat) (x : Int64) : (wA κ σ).set 32 (aA κ 32, .inl (cJ κ, 300, .inr (.inl ((zl σ 8 k x).2 8)))) = wA κ (zl σ 8 k x) := rfl
theorem ws_33 (κ : KA) (σ : zS) (k : Nat) (x : Int32) : (wA κ σ).set 33 (aA κ 33, .inl (cI κ, 8, .inl ((zi σ 35 k x).1 35))) = wA κ (zi σ 35 k x) := rfl
theorem ws_34 (κ : KA) (σ : zS) (k : Nat) (x : Int32) : (wA κ σ).set 34 (aA κ 34, .inl (cZ κ, 8, .inl ((zi σ 36 k x).1 36))) = wA κ (zi σ 36 k x) := rfl
theorem ws_35 (κ : KA) (σ : zS) (k : Nat) (x : Int32) : (wA κ σ).set 35 (aA κ 35, .inl (cI κ, 8, .inl ((zi σ 37 k x).1 37))) = wA κ (zi σ 37 k x) := rfl
theorem ws_36 (κ : KA) (σ : zS) (k : Nat) (x : Int32) : (wA κ σ).set 36 (aA κ 36, .inl (cI κ, 512, .inl ((zi σ 38 k x).1 38))) = wA κ (zi σ 38 k x) := rfl
theorem ws_37 (κ : KA) (σ : zS) (k : Nat) (x : Int32) : (wA κ σ).set 37 (aA κ 37, .inl (cI κ, 512, .inl ((zi σ 39 k x).1 39))) = wA κ (zi σ 39 k x) := rfl
theorem ws_38 (κ : KA) (σ : zS) (k : Nat) (x : Int32) : (wA κ σ).set 38 (aA κ 38, .inl (cI κ, 512, .inl ((zi σ 40 k x).1 40))) = wA κ (zi σ 40 k x) := rfl
theorem ws_39 (κ : KA) (σ : zS) (k : Nat) (x : Int32) : (wA κ σ).set 39 (aA κ 39, .inl (cZ κ, 8, .inl ((zi σ 42 k x).1 42))) = wA κ (zi σ 42 k x) := rfl
theorem ws_40 (κ : KA) (σ : zS) (k : Nat) (x : Int32) : (wA κ σ).set 40 (aA κ 40, .inl (cZ κ, 8, .inl ((zi σ 43 k x).1 43))) = wA κ (zi σ 43 k x) := rfl
theorem ws_41 (κ : KA) (σ : zS) (k : Nat) (x : Int32) : (wA κ σ).set 41 (aA κ 41, .inl (cZ κ, 8, .inl ((zi σ 44 k x).1 44))) = wA κ (zi σ 44 k x) := rfl
theorem ws_42 (κ : KA) (σ : zS) (k : Nat) (x : Int32) : (wA κ σ).set 42 (aA κ 42, .inl (cZ κ, 128, .inl ((zi σ 45 k x).1 45))) = wA κ (zi σ 45 k x) := rfl
theorem wq_0 (κ : KA) (σ : zS) {u : Nat} (hu : u < nA κ) (v : Int32) : (wA κ σ).set (43 + u) (aA κ (64 + u), .inr (0, ([.int (σ.1 0 u), .int (σ.1 1 u), .int (σ.1 2 u), .int (σ.1 3 u), .int (σ.1 4 u), .int (σ.1 5 u), .int (σ.1 6 u), .int (σ.1 7 u)] : List Value).set 0 (.int v))) = wA κ (zi σ 0 u v) := by
  show (sC κ σ ++ (List.range (nA κ)).map (uC κ σ)).set (43 + u) _ = sC κ σ ++ (List.range (nA κ)).map (uC κ (zi σ 0 u v))
  rw [List.set_append_right _ _ (by rw [sC_len]; omega), sC_len, show 43 + u - 43 = u by omega]
  refine congrArg _ (range_set hu ?_ (fun j hj => ?_))
  · simp [uC, zi]
  · simp [uC, zi, hj]
theorem wq_1 (κ : KA) (σ : zS) {u : Nat} (hu : u < nA κ) (v : Int32) : (wA κ σ).set (43 + u) (aA κ (64 + u), .inr (0, ([.int (σ.1 0 u), .int (σ.1 1 u), .int (σ.1 2 u), .int (σ.1 3 u), .int (σ.1 4 u), .int (σ.1 5 u), .int (σ.1 6 u), .int (σ.1 7 u)] : List Value).set 1 (.int v))) = wA κ (zi σ 1 u v) := by
  show (sC κ σ ++ (List.range (nA κ)).map (uC κ σ)).set (43 + u) _ = sC κ σ ++ (List.range (nA κ)).map (uC κ (zi σ 1 u v))
  rw [List.set_append_right _ _ (by rw [sC_len]; omega), sC_len, show 43 + u - 43 = u by omega]
  refine congrArg _ (range_set hu ?_ (fun j hj => ?_))
  · simp [uC, zi]
  · simp [uC, zi, hj]
theorem wq_2 (κ : KA) (σ : zS) {u : Nat} (hu : u < nA κ) (v : Int32) : (wA κ σ).set (43 + u) (aA κ (64 + u), .inr (0, ([.int (σ.1 0 u), .int (σ.1 1 u), .int (σ.1 2 u), .int (σ.1 3 u), .int (σ.1 4 u), .int (σ.1 5 u), .int (σ.1 6 u), .int (σ.1 7 u)] : List Value).set 2 (.int v))) = wA κ (zi σ 2 u v) := by
  show (sC κ σ ++ (List.range (nA κ)).map (uC κ σ)).set (43 + u) _ = sC κ σ ++ (List.range (nA κ)).map (uC κ (zi σ 2 u v))
  rw [List.set_append_right _ _ (by rw [sC_len]; omega), sC_len, show 43 + u - 43 = u by omega]
  refine congrArg _ (range_set hu ?_ (fun j hj => ?_))
  · simp [uC, zi]
  · simp [uC, zi, hj]
theorem wq_3 (κ : KA) (σ : zS) {u : Nat} (hu : u < nA κ) (v : Int32) : (wA κ σ).set (43 + u) (aA κ (64 + u), .inr (0, ([.int (σ.1 0 u), .int (σ.1 1 u), .int (σ.1 2 u), .int (σ.1 3 u), .int (σ.1 4 u), .int (σ.1 5 u), .int (σ.1 6 u), .int (σ.1 7 u)] : List Value).set 3 (.int v))) = wA κ (zi σ 3 u v) := by
  show (sC κ σ ++ (List.range (nA κ)).map (uC κ σ)).set (43 + u) _ = sC κ σ ++ (List.range (nA κ)).map (uC κ (zi σ 3 u v))
  rw [List.set_append_right _ _ (by rw [sC_len]; omega), sC_len, show 43 + u - 43 = u by omega]
  refine congrArg _ (range_set hu ?_ (fun j hj => ?_))
  · simp [uC, zi]
  · simp [uC, zi, hj]
theorem wq_4 (κ : KA) (σ : zS) {u : Nat} (hu : u < nA κ) (v : Int32) : (wA κ σ).set (43 + u) (aA κ (64 + u), .inr (0, ([.int (σ.1 0 u), .int (σ.1 1 u), .int (σ.1 2 u), .int (σ.1 3 u), .int (σ.1 4 u), .int (σ.1 5 u), .int (σ.1 6 u), .int (σ.1 7 u)] : List Value).set 4 (.int v))) = wA κ (zi σ 4 u v) := by
  show (sC κ σ ++ (List.range (nA κ)).map (uC κ σ)).set (43 + u) _ = sC κ σ ++ (List.range (nA κ)).map (uC κ (zi σ 4 u v))
  rw [List.set_append_right _ _ (by rw [sC_len]; omega), sC_len, show 43 + u - 43 = u by omega]
  refine congrArg _ (range_set hu ?_ (fun j hj => ?_))
  · simp [uC, zi]
  · simp [uC, zi, hj]
theorem wq_5 (κ : KA) (σ : zS) {u : Nat} (hu : u < nA κ) (v : Int32) : (wA κ σ).set (43 + u) (aA κ (64 + u), .inr (0, ([.int (σ.1 0 u), .int (σ.1 1 u), .int (σ.1 2 u), .int (σ.1 3 u), .int (σ.1 4 u), .int (σ.1 5 u), .int (σ.1 6 u), .int (σ.1 7 u)] : List Value).set 5 (.int v))) = wA κ (zi σ 5 u v) := by
  show (sC κ σ ++ (List.range (nA κ)).map (uC κ σ)).set (43 + u) _ = sC κ σ ++ (List.range (nA κ)).map (uC κ (zi σ 5 u v))
  rw [List.set_append_right _ _ (by rw [sC_len]; omega), sC_len, show 43 + u - 43 = u by omega]
  refine congrArg _ (range_set hu ?_ (fun j hj => ?_))
  · simp [uC, zi]
  · simp [uC, zi, hj]
theorem wq_6 (κ : KA) (σ : zS) {u : Nat} (hu : u < nA κ) (v : Int32) : (wA κ σ).set (43 + u) (aA κ (64 + u), .inr (0, ([.int (σ.1 0 u), .int (σ.1 1 u), .int (σ.1 2 u), .int (σ.1 3 u), .int (σ.1 4 u), .int (σ.1 5 u), .int (σ.1 6 u), .int (σ.1 7 u)] : List Value).set 6 (.int v))) = wA κ (zi σ 6 u v) := by
  show (sC κ σ ++ (List.range (nA κ)).map (uC κ σ)).set (43 + u) _ = sC κ σ ++ (List.range (nA κ)).map (uC κ (zi σ 6 u v))
  rw [List.set_append_right _ _ (by rw [sC_len]; omega), sC_len, show 43 + u - 43 = u by omega]
  refine congrArg _ (range_set hu ?_ (fun j hj => ?_))
  · simp [uC, zi]
  · simp [uC, zi, hj]
theorem wq_7 (κ : KA) (σ : zS) {u : Nat} (hu : u < nA κ) (v : Int32) : (wA κ σ).set (43 + u) (aA κ (64 + u), .inr (0, ([.int (σ.1 0 u), .int (σ.1 1 u), .int (σ.1 2 u), .int (σ.1 3 u), .int (σ.1 4 u), .int (σ.1 5 u), .int (σ.1 6 u), .int (σ.1 7 u)] : List Value).set 7 (.int v))) = wA κ (zi σ 7 u v) := by
  show (sC κ σ ++ (List.range (nA κ)).map (uC κ σ)).set (43 + u) _ = sC κ σ ++ (List.range (nA κ)).map (uC κ (zi σ 7 u v))
  rw [List.set_append_right _ _ (by rw [sC_len]; omega), sC_len, show 43 + u - 43 = u by omega]
  refine congrArg _ (range_set hu ?_ (fun j hj => ?_))
  · simp [uC, zi]
  · simp [uC, zi, hj]
