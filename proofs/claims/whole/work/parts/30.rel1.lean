/-! How class (x) and reference (y) stand to one another. -/
def REnt (E : Nat) (x y : zS) : Prop := x.1 12 0 = nI E ∧ y.1 34 0 = nI E ∧ E ≤ 300 ∧ ∀ e, e < E → x.1 8 e = y.1 30 e ∧ x.1 9 e = y.1 31 e ∧ x.1 10 e = y.1 32 e ∧ x.1 11 e = y.1 33 e ∧ x.2 0 e = y.2 8 e
def IEnt (n E : Nat) (x : zS) : Prop := ∀ e, e < E → zin (x.1 9 e) n ∧ zin (x.1 10 e) 201 ∧ (x.1 8 e = 0 → zin (x.1 11 e) (n * 4) ∧ tn (x.1 11 e) / 4 = tn (x.1 9 e)) ∧ (x.1 8 e = 1 → zin (x.1 11 e) 16) ∧ (x.1 8 e = 2 → x.1 11 e = 0)
def IThr (E : Nat) (x : zS) : Prop := ∀ e f, e < E → f < E → x.1 8 e = 2 → x.1 8 f = 2 → x.1 9 e = x.1 9 f → x.1 10 e = x.1 10 f → e = f
def RMode (x y : zS) (u : Nat) : Prop := (x.1 2 u = 0 ∧ y.1 37 u = -1 ∧ y.1 36 u = 0) ∨ (x.1 2 u = 1 ∧ y.1 37 u = -1 ∧ y.1 36 u = 1) ∨ (x.1 2 u = 2 ∧ y.1 37 u = x.1 3 u ∧ ¬ x.1 3 u = -1 ∧ y.1 36 u = 0 ∧ x.1 0 u ≤ x.1 1 u)
def RUnit (n E b : Nat) (x y : zS) : Prop := ∀ u, u < n → x.1 0 u = y.1 35 u ∧ zin (x.1 0 u) (b + 1) ∧ (∀ e, e < E → x.1 9 e = nI u → x.1 10 e ≤ x.1 1 u) ∧ (x.1 1 u = -1 ∨ ∃ e, e < E ∧ x.1 9 e = nI u ∧ x.1 10 e = x.1 1 u) ∧ RMode x y u
def RBoard (n b : Nat) (x y : zS) : Prop := x.1 21 0 = nI b ∧ y.1 26 0 = nI b ∧ b ≤ 64 ∧ (∀ w, w < 16 → x.1 19 w = y.1 27 w) ∧ (∀ s w, s < b → w < 16 → x.1 20 (s * 16 + w) = y.1 28 (16 * s + w)) ∧ (∀ k, k < n * 4 → x.2 2 k = y.2 5 k) ∧ (∀ k, k < n * 4 → x.2 3 k = y.2 6 k) ∧ ∀ s k, s < b → k < n * 4 → x.2 4 (s * (n * 4) + k) = y.2 7 (32 * s + k)
def RBar (x y : zS) : Prop := ∀ s w, s < 64 → w < 16 → y.1 29 (16 * s + w) = zb (fx_hasWay (x.1 22 s) (nI w))
def RTurn (n b t : Nat) (x y : zS) : Prop := x.1 18 0 = nI t ∧ y.1 41 0 = nI t ∧ t ≤ n * b ∧ ∀ k, k < t → x.1 15 k = y.1 38 k ∧ x.1 16 k = y.1 39 k ∧ x.1 17 k = y.1 40 k ∧ zin (y.1 38 k) b
def RCl (x y : zS) : Prop := x.1 23 0 = y.1 25 0 ∧ (x.1 23 0 = 0 ∨ x.1 23 0 = 1)
def Rl (n E b t : Nat) (x y : zS) : Prop := REnt E x y ∧ IEnt n E x ∧ IThr E x ∧ RUnit n E b x y ∧ RBoard n b x y ∧ RBar x y ∧ RTurn n b t x y ∧ RCl x y
theorem fm_ended_iff (y : zS) (u : Nat) : ∀ (c k : Nat) (b : Bool), fm_ended y u c k b = true ↔ b = true ∧ ∀ e, k ≤ e → e < k + c → (¬ y.1 31 e = nI u ∨ ¬ y.1 35 u ≤ y.1 32 e)
  | 0, k, b => by
    unfold fm_ended
    exact ⟨fun h => ⟨h, fun e h1 h2 => absurd h2 (by omega)⟩, fun h => h.1⟩
  | c + 1, k, b => by
    unfold fm_ended
    rw [fm_ended_iff y u c (k + 1)]
    simp only [Bool.and_eq_true, Bool.or_eq_true, Bool.not_eq_true', decide_eq_false_iff_not]
    constructor
    · rintro ⟨⟨h1, h2⟩, h3⟩
      refine ⟨h1, fun e h4 h5 => ?_⟩
      by_cases q : e = k
      · subst q; exact h2
      · exact h3 e (by omega) (by omega)
    · rintro ⟨h1, h2⟩
      exact ⟨⟨h1, h2 k (by omega) (by omega)⟩, fun e h4 h5 => h2 e (by omega) (by omega)⟩
theorem zin_toInt {x : Int32} {N : Nat} (h : zin x N) (hN : N ≤ 2 ^ 31) : x.toInt = (tn x : Int) := by
  have h2 := h.2
  have e : x.toInt = (nI (tn x)).toInt := congrArg Int32.toInt h.1
  rw [e, nI_toInt (by omega)]
theorem ended_eq {n E b t : Nat} {x y : zS} (h : Rl n E b t x y) {u : Nat} (hu : u < n) : fx_ended x u = fm_ended y u E 0 true := by
  obtain ⟨⟨-, -, -, hE⟩, -, -, hU, hB, -, -, -⟩ := h
  obtain ⟨h1, h2, h3, h4, -⟩ := hU u hu
  have hb := hB.2.2.1
  rw [Bool.eq_iff_iff, fm_ended_iff]
  simp only [fx_ended, Bool.not_eq_true', decide_eq_false_iff_not, true_and]
  have hz := zin_toInt h2 (by omega)
  constructor
  · intro hn e _ he
    rw [Nat.zero_add] at he
    obtain ⟨-, a2, a3, -, -⟩ := hE e he
    rw [← a2, ← a3, ← h1]
    by_cases q : x.1 9 e = nI u
    · refine Or.inr (fun z => hn ?_)
      have := h3 e he q
      rw [Int32.le_iff_toInt_le] at this z ⊢
      omega
    · exact Or.inl q
  · intro ha hn
    rcases h4 with q | ⟨e, he, q1, q2⟩
    · rw [q, Int32.le_iff_toInt_le, hz, show (-1 : Int32).toInt = -1 from by decide] at hn
      omega
    · obtain ⟨-, a2, a3, -, -⟩ := hE e he
      rcases ha e (by omega) (by omega) with z | z
      · exact z (by rw [← a2]; exact q1)
      · exact z (by rw [← a3, ← h1, q2]; exact hn)
theorem isUnit_eq {n : Nat} (h0 : 1 ≤ n) (hn : n ≤ 8) (a : Int32) : fx_isUnit n a = fm_isUnit n a := by
  unfold fx_isUnit fm_isUnit fm_in
  rw [zpred h0]
  congr 2
  rw [Bool.eq_iff_iff]
  simp only [decide_eq_true_eq, Int32.le_iff_toInt_le, Int32.lt_iff_toInt_lt, nI_toInt (show n < 2 ^ 31 by omega), nI_toInt (show n - 1 < 2 ^ 31 by omega)]
  omega
theorem isWay_eq (a : Int32) : fx_isWay a = fm_in a 0 15 := by
  have e : decide ((16 : Int32) ≤ a) = decide (15 < a) := by
    rw [Bool.eq_iff_iff]
    simp only [decide_eq_true_eq, Int32.le_iff_toInt_le, Int32.lt_iff_toInt_lt, show (16 : Int32).toInt = 16 from by decide, show (15 : Int32).toInt = 15 from by decide]
    omega
  unfold fx_isWay fm_in
  rw [e]
theorem hasOut_eq {n : Nat} (h0 : 1 ≤ n) (hn : n ≤ 8) (a : Int32) : fx_hasOut n a = fm_in a 0 (4 * nI n - 1) := by
  unfold fx_hasOut fm_in
  rw [show (4 : Int32) * nI n = nI (n * 4) from (pk_mul 4 n).trans (by rw [Nat.mul_comm]), zpred (show 1 ≤ n * 4 by omega)]
  congr 2
  rw [Bool.eq_iff_iff]
  simp only [decide_eq_true_eq, Int32.le_iff_toInt_le, Int32.lt_iff_toInt_lt, nI_toInt (show n * 4 < 2 ^ 31 by omega), nI_toInt (show n * 4 - 1 < 2 ^ 31 by omega)]
  omega
theorem done_in {b : Nat} (hb : b ≤ 64) (a : Int32) (h1 : ¬ a = -1) : fm_in a (-1) (nI b - 1) = true ↔ (¬ a < 0 ∧ ¬ nI b ≤ a) := by
  have e1 : (nI b - 1).toInt = (b : Int) - 1 := by
    rcases Nat.eq_zero_or_pos b with q | q
    · subst q; decide
    · rw [zpred q, nI_toInt (by omega)]; omega
  have h2 : ¬ a.toInt = -1 := fun q => h1 (Int32.toInt_inj.mp (q.trans (by decide)))
  simp only [fm_in, Bool.and_eq_true, Bool.not_eq_true', decide_eq_false_iff_not, Int32.le_iff_toInt_le, Int32.lt_iff_toInt_lt, e1, nI_toInt (show b < 2 ^ 31 by omega), show (-1 : Int32).toInt = -1 from by decide, show (0 : Int32).toInt = 0 from by decide]
  omega
theorem now_in {b : Nat} (hb : b ≤ 64) : fm_in (-1) (-1) (nI b - 1) = true := by
  have e1 : (nI b - 1).toInt = (b : Int) - 1 := by
    rcases Nat.eq_zero_or_pos b with q | q
    · subst q; decide
    · rw [zpred q, nI_toInt (by omega)]; omega
  simp only [fm_in, Bool.and_eq_true, Bool.not_eq_true', decide_eq_false_iff_not, Int32.lt_iff_toInt_lt, e1, show (-1 : Int32).toInt = -1 from by decide]
  omega
theorem op_output {n E b t : Nat} {x y : zS} (h : Rl n E b t x y) (h0 : 1 ≤ n) (hn : n ≤ 8) (p q : Int32) : fx_valueAt n x p q = fm_output n y p q := by
  obtain ⟨-, -, -, -, ⟨hb1, hb2, hb3, -, -, ho, -, hp⟩, -, -, -⟩ := h
  unfold fx_valueAt fm_output
  rw [← hasOut_eq h0 hn, hb2]
  by_cases h1 : fx_hasOut n p = true
  · have hk := fx_hasOut_in h1 hn
    by_cases h2 : q = -1
    · rw [if_pos h1, if_pos h2, h2, if_pos ⟨h1, now_in hb3⟩, if_pos rfl]
      exact ho _ hk.2
    · rw [if_pos h1, if_neg h2]
      by_cases h3 : fx_wasDone x q = true
      · have hq := fx_wasDone_in h3 hb1 hb3
        have h4 : fm_in q (-1) (nI b - 1) = true := by
          rw [done_in hb3 q h2]
          simp only [fx_wasDone, Bool.and_eq_true, Bool.not_eq_true', decide_eq_false_iff_not] at h3
          rw [hb1] at h3
          exact h3
        rw [if_pos h3, if_pos ⟨h1, h4⟩, if_neg h2]
        exact hp _ _ hq.2 hk.2
      · have h4 : ¬ fm_in q (-1) (nI b - 1) = true := by
          rw [done_in hb3 q h2]
          intro z
          apply h3
          simp only [fx_wasDone, Bool.and_eq_true, Bool.not_eq_true', decide_eq_false_iff_not]
          rw [hb1]
          exact z
        rw [if_neg h3, if_neg (fun z => h4 z.2)]
  · rw [if_neg h1, if_neg (fun z => h1 z.1)]
theorem op_owner {n E b t : Nat} {x y : zS} (h : Rl n E b t x y) (p q : Int32) : fx_ownerAt x p q = fm_owner y p q := by
  obtain ⟨-, -, -, -, ⟨hb1, hb2, hb3, ho, hp, -, -, -⟩, -, -, -⟩ := h
  unfold fx_ownerAt fm_owner
  rw [← isWay_eq, hb2]
  by_cases h1 : fx_isWay p = true
  · have hk := fx_isWay_in h1
    by_cases h2 : q = -1
    · rw [if_pos h1, if_pos h2, h2, if_pos ⟨h1, now_in hb3⟩, if_pos rfl]
      exact ho _ hk.2
    · rw [if_pos h1, if_neg h2]
      by_cases h3 : fx_wasDone x q = true
      · have hq := fx_wasDone_in h3 hb1 hb3
        have h4 : fm_in q (-1) (nI b - 1) = true := by
          rw [done_in hb3 q h2]
          simp only [fx_wasDone, Bool.and_eq_true, Bool.not_eq_true', decide_eq_false_iff_not] at h3
          rw [hb1] at h3
          exact h3
        rw [if_pos h3, if_pos ⟨h1, h4⟩, if_neg h2]
        exact hp _ _ hq.2 hk.2
      · have h4 : ¬ fm_in q (-1) (nI b - 1) = true := by
          rw [done_in hb3 q h2]
          intro z
          apply h3
          simp only [fx_wasDone, Bool.and_eq_true, Bool.not_eq_true', decide_eq_false_iff_not]
          rw [hb1]
          exact z
        rw [if_neg h3, if_neg (fun z => h4 z.2)]
  · rw [if_neg h1, if_neg (fun z => h1 z.1)]
theorem op_state {n E b t : Nat} {x y : zS} (h : Rl n E b t x y) (h0 : 1 ≤ n) (hn : n ≤ 8) (a : Int32) : fx_state n x a = fm_state n E y a := by
  have hh := h
  obtain ⟨-, -, -, hU, -, -, -, hc⟩ := h
  unfold fx_state fm_state
  rw [← isUnit_eq h0 hn]
  by_cases h1 : fx_isUnit n a = true
  · have hu := fx_isUnit_in h1 hn
    obtain ⟨-, -, -, -, hm⟩ := hU _ hu.2
    rw [if_pos h1, if_pos h1, ← hc.1]
    unfold fx_mode
    by_cases h2 : x.1 23 0 = 0
    · rw [if_pos h2, if_pos h2, ← ended_eq hh hu.2]
      rcases hm with ⟨m1, m2, m3⟩ | ⟨m1, m2, m3⟩ | ⟨m1, m2, m3, m4, m5⟩
      · rw [if_pos m2, m1, m3]; rfl
      · rw [if_pos m2, m1, m3]
        by_cases q : fx_ended x (tn a) = true
        · rw [if_pos q, if_pos q]
        · rw [if_neg q, if_neg q, if_neg (by decide)]
      · have he : ¬ fx_ended x (tn a) = true := by
          simp only [fx_ended, Bool.not_eq_true', decide_eq_false_iff_not, not_not_intro m5, not_false_eq_true]
        rw [if_neg he, if_neg (by rw [m2]; exact m3), m1]
    · rw [if_neg h2, if_neg h2]
  · rw [if_neg h1, if_neg h1]
theorem mode2_iff {n E b t : Nat} {x y : zS} (h : Rl n E b t x y) {u : Nat} (hu : u < n) : fx_mode x u = 2 ↔ (x.1 23 0 = 0 ∧ ¬ y.1 37 u = -1) := by
  obtain ⟨-, -, -, hU, -, -, -, hc⟩ := h
  obtain ⟨-, -, -, -, hm⟩ := hU u hu
  unfold fx_mode
  by_cases h2 : x.1 23 0 = 0
  · rw [if_pos h2]
    rcases hm with ⟨m1, m2, m3⟩ | ⟨m1, m2, m3⟩ | ⟨m1, m2, m3, m4, m5⟩
    · by_cases q : fx_ended x u = true
      · rw [if_pos q, m2]; exact ⟨fun z => absurd z (by decide), fun z => absurd rfl z.2⟩
      · rw [if_neg q, m1, m2]; exact ⟨fun z => absurd z (by decide), fun z => absurd rfl z.2⟩
    · by_cases q : fx_ended x u = true
      · rw [if_pos q, m2]; exact ⟨fun z => absurd z (by decide), fun z => absurd rfl z.2⟩
      · rw [if_neg q, m1, m2]; exact ⟨fun z => absurd z (by decide), fun z => absurd rfl z.2⟩
    · have he : ¬ fx_ended x u = true := by
        simp only [fx_ended, Bool.not_eq_true', decide_eq_false_iff_not, not_not_intro m5, not_false_eq_true]
      rw [if_neg he, m1, m2]
      exact ⟨fun _ => ⟨h2, m3⟩, fun _ => rfl⟩
  · rw [if_neg h2]
    exact ⟨fun z => absurd z (by decide), fun z => absurd z.1 h2⟩
theorem op_held {n E b t : Nat} {x y : zS} (h : Rl n E b t x y) (h0 : 1 ≤ n) (hn : n ≤ 8) (a : Int32) : fx_held n x a = fm_held n y a := by
  have hh := h
  obtain ⟨-, -, -, hU, -, -, -, hc⟩ := h
  unfold fx_held fm_held
  rw [← isUnit_eq h0 hn, ← hc.1]
  by_cases h1 : fx_isUnit n a = true
  · have hu := fx_isUnit_in h1 hn
    have h2 := mode2_iff hh hu.2
    obtain ⟨-, -, -, -, hm⟩ := hU _ hu.2
    by_cases h3 : fx_mode x (tn a) = 2
    · rw [if_pos ⟨h1, h3⟩, if_pos ⟨h1, (h2.mp h3).1⟩]
      rcases hm with ⟨m1, m2, m3⟩ | ⟨m1, m2, m3⟩ | ⟨m1, m2, m3, m4, m5⟩
      · exact absurd m2 (h2.mp h3).2
      · exact absurd m2 (h2.mp h3).2
      · exact m2.symm
    · rw [if_neg (fun z => h3 z.2)]
      by_cases h4 : x.1 23 0 = 0
      · rw [if_pos ⟨h1, h4⟩]
        by_cases h5 : y.1 37 (tn a) = -1
        · exact h5.symm
        · exact absurd (h2.mpr ⟨h4, h5⟩) h3
      · rw [if_neg (fun z => h4 z.2)]
  · rw [if_neg (fun z => h1 z.1), if_neg (fun z => h1 z.1)]
theorem op_log {n E b t : Nat} {x y : zS} (h : Rl n E b t x y) (hn : n ≤ 8) (p q : Int32) : fx_look x p q = fm_log y p q := by
  obtain ⟨-, -, -, -, ⟨-, -, hb, -⟩, -, ⟨h1, h2, h3, h4⟩, -⟩ := h
  have ht : t ≤ 512 := Nat.le_trans h3 (Nat.mul_le_mul hn hb)
  unfold fx_look fm_log
  rw [h1, h2]
  by_cases hp : fm_in p 0 (nI t - 1) = true
  · obtain ⟨e1, e2⟩ := fm_in_lt hp (by omega)
    obtain ⟨a1, a2, a3, -⟩ := h4 _ e2
    have hc : ¬ p < 0 ∧ p < nI t := by
      rw [e1]
      exact ⟨nI_pos (by omega), nI_lt e2 (by omega)⟩
    rw [if_pos hc, if_pos hp, a1, a2, a3]
  · rw [if_neg hp, if_neg]
    intro hc
    apply hp
    have e1 := zix hc.1
    have e2 := zixlt' hc.1 hc.2 (by omega)
    rw [zpred (by omega)]
    simp only [fm_in, Bool.and_eq_true, Bool.not_eq_true', decide_eq_false_iff_not]
    refine ⟨hc.1, fun z => ?_⟩
    rw [e1] at z
    have := (nI_ltI (a := t - 1) (b := tn p) (by omega) (by omega)).mp z
    omega
