/-! further functions of the class, and what they leave as it was -/
theorem fx_takes_in {n : Nat} {σ : zS} {u x : Int32} (h : fx_takes n σ u x = true) (hn : n ≤ 8) : u = nI (tn u) ∧ tn u < n := fx_isUnit_in (of_decide_eq_true h).1 hn
theorem fx_takes_lt {n E : Nat} {σ : zS} {u x : Int32} (h : fx_takes n σ u x = true) (hE : σ.1 12 0 = nI E) (hE3 : E ≤ 300) : E < 300 := by
  have h2 := (of_decide_eq_true h).2.2.2.2.2
  rw [hE] at h2
  rcases Nat.lt_or_ge E 300 with q | q
  · exact q
  · exact absurd (show (300 : Int32) ≤ nI E from nI_le (a := 300) q (by omega)) h2
def fx_stepB (n : Nat) (σ : zS) (a b c : Int32) : Bool := fx_takes n σ a b && fx_isOut a c
def fx_stepS (n E : Nat) (σ : zS) (a b c : Int32) (v : Int64) : zS := if fx_stepB n σ a b c = true then fx_tell σ E 0 (tn a) b c v else σ
def fx_asksB (n E : Nat) (σ : zS) (a b c : Int32) : Bool := fx_takes n σ a b && (fx_isWay c && decide (fx_find σ 1 a b c E 0 = -1))
def fx_asksS (n E : Nat) (σ : zS) (a b c : Int32) : zS := if fx_asksB n E σ a b c = true then fx_tell σ E 1 (tn a) b c 0 else σ
def fx_throwB (n E : Nat) (σ : zS) (a b : Int32) : Bool := fx_takes n σ a b && decide (fx_find σ 2 a b 0 E 0 = -1)
def fx_throwS (n E : Nat) (σ : zS) (a b : Int32) : zS := if fx_throwB n E σ a b = true then fx_tell σ E 2 (tn a) b 0 0 else σ
def fx_safeB (n : Nat) (σ : zS) (a : Int32) : Bool := fx_hasOut n a && decide (σ.1 23 0 = 0)
def fx_safeS (n : Nat) (σ : zS) (a : Int32) (v : Int64) : zS := if fx_safeB n σ a = true then zl σ 3 (tn a) v else σ
def fx_barB (σ : zS) (a b : Int32) : Bool := decide (fx_isWay a = true ∧ ¬ b < 0 ∧ ¬ 64 ≤ b ∧ σ.1 23 0 = 0 ∧ ¬ b < σ.1 21 0 ∧ fx_hasWay (σ.1 22 (tn b)) a = false)
def fx_barS (σ : zS) (a b : Int32) : zS := if fx_barB σ a b = true then zi σ 22 (tn b) (σ.1 22 (tn b) ||| ((1 : Int32) <<< (a &&& 31))) else σ
def fx_state (n : Nat) (σ : zS) (a : Int32) : Int32 := if fx_isUnit n a = true then fx_mode σ (tn a) else -1
def fx_restB (n : Nat) (σ : zS) (a : Int32) : Bool := fx_isUnit n a && decide (fx_mode σ (tn a) = 2)
def fx_restS (n : Nat) (σ : zS) (a : Int32) : zS := if fx_restB n σ a = true then zi σ 2 (tn a) 0 else σ
def fx_held (n : Nat) (σ : zS) (a : Int32) : Int32 := if fx_isUnit n a = true ∧ fx_mode σ (tn a) = 2 then σ.1 3 (tn a) else -1
def fx_count (n : Nat) (σ : zS) (a : Int32) : Int32 :=
  if a = 0 then σ.1 21 0 else if a = 1 then σ.1 18 0 else if a = 2 then σ.1 12 0 else if a = 3 then fx_acting σ n 0 0
  else if fx_isUnit n (a - 4) = true then σ.1 0 (tn (a - 4)) else -1
def fx_closeN (σ : zS) : Nat → Nat → Int32 → Int32
  | 0, _, r => r
  | c + 1, k, r => fx_closeN σ c (k + 1) (if fx_mode σ k = 3 then r else r + 1)
def fx_closeR (n : Nat) (σ : zS) : Int32 := if σ.1 23 0 = 0 then fx_closeN σ n 0 0 else 0
def fx_closeS (n : Nat) (σ : zS) : zS := if σ.1 23 0 = 0 then zi (fx_shut n σ) 23 0 1 else σ
def fx_log1 (x : Int32) (i : Nat) (σ : zS) : zS := fx_turn σ (tn (σ.1 18 0)) x (σ.1 13 i) (σ.1 7 (tn (σ.1 13 i)))
def fx_S2 (n E : Nat) (σ : zS) : zS := fx_gather n (fx_brief n E σ)
def fx_N (n E : Nat) (σ : zS) : Nat := tn ((fx_S2 n E σ).1 14 0)
def fx_S4 (n E : Nat) (σ : zS) : zS := fx_takeTurns n (fx_N n E σ) (fx_draw (fx_N n E σ) (fx_S2 n E σ))
def fx_S5 (n E b : Nat) (σ : zS) : zS := fx_hold n (nI b) (fx_S4 n E σ)
def fx_S8 (n E b : Nat) (σ : zS) : zS := fx_keep n b (fx_settle n E (fx_grant n (σ.1 22 b) (fx_S5 n E b σ)))
def fx_pass (n E b : Nat) (σ : zS) : zS := zit (fx_log1 (nI b)) (fx_N n E σ) 0 (fx_S8 n E b σ)
def fx_play (n E : Nat) : Nat → Nat → Nat → zS → Nat × zS
  | 0, _, k, σ => (k, σ)
  | c + 1, b, k, σ => if ¬ 64 ≤ b ∧ ¬ fx_acting σ n 0 0 ≤ 0 then fx_play n E c (b + 1) (k + 1) (fx_pass n E b σ) else (k, σ)
-- what is left as it was
theorem fx_makeSafe_1 (σ : zS) (u : Nat) : (fx_makeSafe σ u).1 = σ.1 := funext fun g => zit_k1 (fun _ _ => rfl) 4 (u * 4) σ
theorem kp_brief {g : Nat} (h : g ∉ [4, 5, 6]) (n E : Nat) (σ : zS) : (fx_brief n E σ).1 g = σ.1 g := by
  simp only [List.mem_cons, List.not_mem_nil, or_false, not_or] at h
  refine (zit_k1 (fun k τ => ?_) _ _ _).trans (zit_k1 (fun k τ => ?_) _ _ _)
  · unfold fx_brief1
    split
    · exact zi_nf _ _ h.1
    · split
      · exact zi_nf _ _ h.2.1
      · split
        · exact zi_nf _ _ h.2.2
        · rfl
  · unfold fx_brief0
    rw [zi_nf _ _ h.2.2, zi_nf _ _ h.2.1, zi_nf _ _ h.1]
theorem kp_gather {g : Nat} (h : g ∉ [13, 14]) (n : Nat) (σ : zS) : (fx_gather n σ).1 g = σ.1 g := by
  simp only [List.mem_cons, List.not_mem_nil, or_false, not_or] at h
  refine (zit_k1 (fun k τ => ?_) _ _ _).trans (zi_nf _ _ h.2)
  unfold fx_gather1
  split
  · rw [zi_nf _ _ h.2, zi_nf _ _ h.1]
  · rfl
theorem kp_draw {g : Nat} (h : g ≠ 13) (N : Nat) (σ : zS) : (fx_draw N σ).1 g = σ.1 g :=
  zit_k1 (step := fx_draw1 N) (fun k τ => fx_move_k1 h _ _ _) N 0 σ
theorem kp_turns {g : Nat} (h : g ≠ 7) (n N : Nat) (σ : zS) : (fx_takeTurns n N σ).1 g = σ.1 g :=
  (zit_k1 (fun k τ => zi_nf _ _ h) _ _ _).trans (zit_k1 (fun k τ => zi_nf _ _ h) _ _ _)
theorem kp_hold {g : Nat} (h : g ∉ [8, 2, 3]) (n : Nat) (x : Int32) (σ : zS) : (fx_hold n x σ).1 g = σ.1 g := by
  simp only [List.mem_cons, List.not_mem_nil, or_false, not_or] at h
  refine zit_k1 (fun k τ => ?_) _ _ _
  unfold fx_hold1
  split
  · rw [fx_makeSafe_1, zi_nf _ _ h.2.2, zi_nf _ _ h.2.1, zi_nf _ _ h.1]
  · rfl
theorem kp_grant {g : Nat} (h : g ≠ 19) (n : Nat) (b : Int32) (σ : zS) : (fx_grant n b σ).1 g = σ.1 g := by
  unfold fx_grant
  refine zit_k1 (step := fx_grant1 n b) (fun k τ => ?_) 16 0 σ
  unfold fx_grant1
  split
  · exact zi_nf _ _ h
  · rfl
theorem kp_give {g : Nat} (h : g ≠ 19) (σ : zS) (u b : Int32) : (fx_giveBack σ u b).1 g = σ.1 g := by
  unfold fx_giveBack
  refine zit_k1 (step := fx_give1 u b) (fun k τ => ?_) 16 0 σ
  unfold fx_give1
  split
  · exact zi_nf _ _ h
  · rfl
theorem kp_steps (E : Nat) (σ : zS) : (fx_doSteps E σ).1 = σ.1 := funext fun g => zit_k1 (fun k τ => by unfold fx_steps1; split <;> rfl) _ _ _
theorem kp_set1 {g : Nat} (h : g ≠ 7) (c k : Nat) (σ : zS) : (zit fx_set1 c k σ).1 g = σ.1 g := by
  refine zit_k1 (fun k τ => ?_) _ _ _
  unfold fx_set1
  split
  · exact zi_nf _ _ h
  · rfl
theorem kp_set2 {g : Nat} (h : g ∉ [19, 0, 2]) (c k : Nat) (σ : zS) : (zit fx_set2 c k σ).1 g = σ.1 g := by
  simp only [List.mem_cons, List.not_mem_nil, or_false, not_or] at h
  refine zit_k1 (fun k τ => ?_) _ _ _
  unfold fx_set2
  split
  · rw [zi_nf _ _ h.2.2, zi_nf _ _ h.2.1, kp_give h.1]
  · split
    · exact zi_nf _ _ h.2.2
    · rfl
theorem kp_settle {g : Nat} (h : g ∉ [7, 19, 0, 2]) (n E : Nat) (σ : zS) : (fx_settle n E σ).1 g = σ.1 g := by
  simp only [List.mem_cons, List.not_mem_nil, or_false, not_or] at h
  refine (kp_set2 (by simp only [List.mem_cons, List.not_mem_nil, or_false, not_or]; exact h.2) _ _ _).trans ?_
  rw [kp_steps]
  exact kp_set1 h.1 _ _ _
theorem kp_keep {g : Nat} (h : g ∉ [20, 21]) (n b : Nat) (σ : zS) : (fx_keep n b σ).1 g = σ.1 g := by
  simp only [List.mem_cons, List.not_mem_nil, or_false, not_or] at h
  unfold fx_keep
  rw [zi_nf _ _ h.2]
  funext j
  exact if_neg h.1
theorem kp_log {g : Nat} (h : g ∉ [15, 16, 17, 18]) (x : Int32) (c k : Nat) (σ : zS) : (zit (fx_log1 x) c k σ).1 g = σ.1 g := by
  simp only [List.mem_cons, List.not_mem_nil, or_false, not_or] at h
  refine zit_k1 (fun k τ => ?_) _ _ _
  unfold fx_log1 fx_turn
  rw [zi_nf _ _ h.2.2.2, zi_nf _ _ h.2.2.1, zi_nf _ _ h.2.1, zi_nf _ _ h.1]
