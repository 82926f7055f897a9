/-! small facts of the reference's functions -/
theorem fm_in_nat {x : Int32} {N : Nat} (h : fm_in x 0 (nI N) = true) (hN : N < 2 ^ 31) : x = nI (tn x) ∧ tn x ≤ N := by
  simp only [fm_in, Bool.and_eq_true, Bool.not_eq_true', decide_eq_false_iff_not] at h
  obtain ⟨j, hj, rfl⟩ := nI_of h.1
  rw [tn_nI hj]
  refine ⟨rfl, ?_⟩
  rcases Nat.lt_or_ge N j with q | q
  · exact absurd (nI_lt q hj) h.2
  · exact q
theorem zpred {n : Nat} (h : 1 ≤ n) : nI n - 1 = nI (n - 1) := pk_sub h
theorem fm_in_lt {x : Int32} {N : Nat} (h : fm_in x 0 (nI N - 1) = true) (hN : N < 2 ^ 31) : x = nI (tn x) ∧ tn x < N := by
  rcases Nat.eq_zero_or_pos N with q | q
  · subst q
    simp only [fm_in, Bool.and_eq_true, Bool.not_eq_true', decide_eq_false_iff_not] at h
    obtain ⟨j, hj, rfl⟩ := nI_of h.1
    exact absurd (show nI 0 - 1 < nI j from Int32.lt_iff_toInt_lt.mpr (by rw [nI_toInt hj, show (nI 0 - 1).toInt = -1 from by decide]; omega)) h.2
  · rw [zpred q] at h
    obtain ⟨h1, h2⟩ := fm_in_nat h (by omega)
    exact ⟨h1, by omega⟩
theorem fm_isUnit_in {n : Nat} {x : Int32} (h : fm_isUnit n x = true) (hn : n ≤ 8) : x = nI (tn x) ∧ tn x < n := fm_in_lt h (by omega)
theorem fm_out_in {n : Nat} {x : Int32} (h : fm_in x 0 (4 * nI n - 1) = true) (hn : n ≤ 8) : x = nI (tn x) ∧ tn x < n * 4 := by
  rw [show (4 : Int32) * nI n = nI (n * 4) from (pk_mul 4 n).trans (by rw [Nat.mul_comm])] at h
  exact fm_in_lt h (by omega)
theorem fm_isOpen_lt {E u : Nat} {σ : zS} {x : Int32} (h : fm_isOpen σ u x = true) (hE : σ.1 34 0 = nI E) (hE3 : E ≤ 300) : E < 300 := by
  have h2 := (of_decide_eq_true h).2.2
  rw [hE] at h2
  rcases Nat.lt_or_ge E 300 with q | q
  · exact q
  · exact absurd (show (300 : Int32) ≤ nI E from nI_le (a := 300) q (by omega)) h2
/-- an index from -1 on: not -1, at most N - 1 -/
theorem fm_in_m1 {x : Int32} {N : Nat} (h : fm_in x (-1) (nI N - 1) = true) (h1 : ¬ x = -1) (hN : N < 2 ^ 31) : x = nI (tn x) ∧ tn x < N := by
  refine fm_in_lt ?_ hN
  simp only [fm_in, Bool.and_eq_true, Bool.not_eq_true', decide_eq_false_iff_not] at h ⊢
  refine ⟨fun q => ?_, h.2⟩
  have a := Int32.lt_iff_toInt_lt.mp q
  have b : ¬ x.toInt < (-1 : Int32).toInt := fun z => h.1 (Int32.lt_iff_toInt_lt.mpr z)
  rw [show (-1 : Int32).toInt = -1 from by decide] at b
  rw [show (0 : Int32).toInt = 0 from by decide] at a
  have e : x.toInt = -1 := by omega
  exact h1 (Int32.toInt_inj.mp (e.trans (by decide)))
def fm_stepB (n : Nat) (σ : zS) (a b c : Int32) : Bool := fm_isUnit n a && (fm_in b 0 200 && (fm_in c (4 * a) (4 * a + 3) && fm_isOpen σ (tn a) b))
def fm_stepS (n E : Nat) (σ : zS) (a b c : Int32) (v : Int64) : zS := if fm_stepB n σ a b c = true then fm_add σ E 0 a b c v else σ
def fm_asksB (n E : Nat) (σ : zS) (a b c : Int32) : Bool := fm_isUnit n a && (fm_in b 0 200 && (fm_in c 0 15 && (fm_isOpen σ (tn a) b && decide (fm_find σ 1 a b c E 0 < 0))))
def fm_asksS (n E : Nat) (σ : zS) (a b c : Int32) : zS := if fm_asksB n E σ a b c = true then fm_add σ E 1 a b c 0 else σ
def fm_throwB (n E : Nat) (σ : zS) (a b : Int32) : Bool := fm_isUnit n a && (fm_in b 0 200 && (fm_isOpen σ (tn a) b && decide (fm_find σ 2 a b (-1) E 0 < 0)))
def fm_throwS (n E : Nat) (σ : zS) (a b : Int32) : zS := if fm_throwB n E σ a b = true then fm_add σ E 2 a b 0 0 else σ
def fm_safeB (n : Nat) (σ : zS) (a : Int32) : Bool := fm_in a 0 (4 * nI n - 1) && decide (σ.1 25 0 = 0)
def fm_safeS (n : Nat) (σ : zS) (a : Int32) (v : Int64) : zS := if fm_safeB n σ a = true then zl σ 6 (tn a) v else σ
def fm_barB (σ : zS) (a b : Int32) : Bool := decide (fm_in a 0 15 = true ∧ fm_in b 0 63 = true ∧ σ.1 25 0 = 0 ∧ ¬ b < σ.1 26 0 ∧ σ.1 29 (16 * tn b + tn a) = 0)
def fm_barS (σ : zS) (a b : Int32) : zS := if fm_barB σ a b = true then zi σ 29 (16 * tn b + tn a) 1 else σ
def fm_output (n : Nat) (σ : zS) (a b : Int32) : Int64 := if fm_in a 0 (4 * nI n - 1) = true ∧ fm_in b (-1) (σ.1 26 0 - 1) = true then (if b = -1 then σ.2 5 (tn a) else σ.2 7 (32 * tn b + tn a)) else 0
def fm_owner (σ : zS) (a b : Int32) : Int32 := if fm_in a 0 15 = true ∧ fm_in b (-1) (σ.1 26 0 - 1) = true then (if b = -1 then σ.1 27 (tn a) else σ.1 28 (16 * tn b + tn a)) else -1
def fm_state (n E : Nat) (σ : zS) (a : Int32) : Int32 := if fm_isUnit n a = true then (if σ.1 25 0 = 0 then (if σ.1 37 (tn a) = -1 then (if fm_ended σ (tn a) E 0 true = true then 3 else if σ.1 36 (tn a) = 0 then 0 else 1) else 2) else 4) else -1
def fm_restB (n : Nat) (σ : zS) (a : Int32) : Bool := decide (fm_isUnit n a = true ∧ σ.1 25 0 = 0 ∧ ¬ σ.1 37 (tn a) = -1)
def fm_restS (n : Nat) (σ : zS) (a : Int32) : zS := if fm_restB n σ a = true then zi σ 37 (tn a) (-1) else σ
def fm_held (n : Nat) (σ : zS) (a : Int32) : Int32 := if fm_isUnit n a = true ∧ σ.1 25 0 = 0 then σ.1 37 (tn a) else -1
def fm_log (σ : zS) (a b : Int32) : Int32 := if fm_in a 0 (σ.1 41 0 - 1) = true then (if b = 0 then σ.1 38 (tn a) else if b = 1 then σ.1 39 (tn a) else if b = 2 then σ.1 40 (tn a) else -1) else -1
def fm_count (n E : Nat) (σ : zS) (a : Int32) : Int32 := if fm_in a 4 (3 + nI n) = true then σ.1 35 (tn (a - 4)) else if a = 0 then σ.1 26 0 else if a = 1 then σ.1 41 0 else if a = 2 then σ.1 34 0 else if a = 3 then fm_going σ E n 0 0 else -1
theorem fm_cnt_in {n : Nat} {a : Int32} (h : fm_in a 4 (3 + nI n) = true) (hn : n ≤ 8) : a - 4 = nI (tn (a - 4)) ∧ tn (a - 4) < n := by
  simp only [fm_in, Bool.and_eq_true, Bool.not_eq_true', decide_eq_false_iff_not] at h
  rw [show (3 : Int32) + nI n = nI (3 + n) from nI_add 3 n] at h
  have h0 : ¬ a < 0 := fun q => h.1 (Int32.lt_iff_toInt_lt.mpr (by
    have := Int32.lt_iff_toInt_lt.mp q
    rw [show (4 : Int32).toInt = 4 from by decide]
    rw [show (0 : Int32).toInt = 0 from by decide] at this
    omega))
  obtain ⟨j, hj, rfl⟩ := nI_of h0
  have h4 : 4 ≤ j := by
    rcases Nat.lt_or_ge j 4 with q | q
    · exact absurd (show nI j < nI 4 from nI_lt q (by omega)) h.1
    · exact q
  have h5 : j ≤ 3 + n := by
    rcases Nat.lt_or_ge (3 + n) j with q | q
    · exact absurd (nI_lt q hj) h.2
    · exact q
  rw [show nI j - 4 = nI (j - 4) from pk_sub h4, tn_nI (by omega)]
  exact ⟨rfl, by omega⟩
def fm_closeN (σ : zS) (E : Nat) : Nat → Nat → Int32 → Int32
  | 0, _, r => r
  | c + 1, k, r => fm_closeN σ E c (k + 1) (r + (if fm_goes σ E k = true ∨ ¬ σ.1 37 k = -1 then 1 else 0))
def fm_closeR (n E : Nat) (σ : zS) : Int32 := if σ.1 25 0 = 0 then fm_closeN σ E n 0 0 else 0
def fm_own1 (k : Nat) (σ : zS) : zS := zi σ 27 k (-1)
def fm_closeS (σ : zS) : zS := zi (if σ.1 25 0 = 0 then zit fm_own1 16 0 (zit fm_safe1 32 0 σ) else σ) 25 0 1
theorem fm_find_in (σ : zS) (a b c d : Int32) : ∀ (n k : Nat), k + n < 2 ^ 31 → fm_find σ a b c d n k = -1 ∨ zin (fm_find σ a b c d n k) (k + n)
  | 0, _, _ => Or.inl rfl
  | n + 1, k, h => by
    unfold fm_find
    split
    · exact Or.inr (zin_nI (by omega) h)
    · rcases fm_find_in σ a b c d n (k + 1) (by omega) with q | q
      · exact Or.inl q
      · exact Or.inr ⟨q.1, by have := q.2; omega⟩
theorem fm_find_ok {σ : zS} {a b c d : Int32} {E : Nat} (h : ¬ fm_find σ a b c d E 0 < 0) (hE : E ≤ 300) : zin (fm_find σ a b c d E 0) E := by
  rcases fm_find_in σ a b c d E 0 (by omega) with q | q
  · rw [q] at h; exact absurd (by decide) h
  · rw [Nat.zero_add] at q; exact q
