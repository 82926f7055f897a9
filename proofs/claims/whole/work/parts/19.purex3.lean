/-! what a second of the class keeps: the facts that its walk needs -/
theorem zit_inv {step : Nat → zS → zS} (P : Nat → zS → Prop) {e : Nat} (h : ∀ k σ, k < e → P k σ → P (k + 1) (step k σ)) : ∀ (c k : Nat) (σ : zS), k + c = e → P k σ → P e (zit step c k σ)
  | 0, k, σ, hk, hP => by
    have : k = e := by omega
    subst this
    exact hP
  | c + 1, k, σ, hk, hP => zit_inv P h c (k + 1) (step k σ) (by omega) (h k σ (by omega) hP)
theorem zin_nI {k N : Nat} (h : k < N) (hN : N < 2 ^ 31) : zin (nI k) N := by
  unfold zin
  rw [tn_nI (by omega)]
  exact ⟨rfl, h⟩
theorem gather_facts {n : Nat} (hn : n ≤ 8) (σ : zS) : ∃ N, (fx_gather n σ).1 14 0 = nI N ∧ N ≤ n ∧ ∀ i, i < N → zin ((fx_gather n σ).1 13 i) n := by
  refine zit_inv (step := fx_gather1) (e := n) (fun k τ => ∃ N, τ.1 14 0 = nI N ∧ N ≤ k ∧ ∀ i, i < N → zin (τ.1 13 i) n) ?_ n 0 (zi σ 14 0 0) (by omega) ⟨0, rfl, Nat.le_refl _, fun i h => absurd h (Nat.not_lt_zero i)⟩
  intro k τ hk hP
  obtain ⟨N, h1, h2, h3⟩ := hP
  unfold fx_gather1
  split
  · rw [h1, tn_nI (by omega)]
    refine ⟨N + 1, ?_, by omega, fun i hi => ?_⟩
    · rw [zi_eq, nI_1]
    · rw [zi_nf _ _ (by decide)]
      by_cases e : i = N
      · subst e
        rw [zi_eq]
        exact zin_nI hk (by omega)
      · rw [zi_ni _ _ e]
        exact h3 i (by omega)
  · exact ⟨N, h1, by omega, h3⟩
theorem shift_facts {n N : Nat} : ∀ (c i : Nat) (σ : zS), i < N → (∀ i, i < N → zin (σ.1 13 i) n) → ∀ i', i' < N → zin ((fx_shift c i σ).1 13 i') n
  | 0, _, _, _, h => h
  | c + 1, i, σ, hi, h => shift_facts c (i - 1) _ (by omega) (fun a ha => by
    by_cases e : a = i
    · subst e
      rw [zi_eq]
      exact h _ (by omega)
    · rw [zi_ni _ _ e]
      exact h a ha)
theorem move_facts {n N : Nat} (σ : zS) {f t : Nat} (hf : f < N) (ht : t ≤ f) (h : ∀ i, i < N → zin (σ.1 13 i) n) : ∀ i, i < N → zin ((fx_move σ f t).1 13 i) n := by
  intro i hi
  unfold fx_move
  by_cases e : i = t
  · subst e
    rw [zi_eq]
    exact h f hf
  · rw [zi_ni _ _ e]
    exact shift_facts _ _ _ hf h i hi
theorem draw_facts {n N : Nat} (hN : N ≤ 8) (σ : zS) (h : ∀ i, i < N → zin (σ.1 13 i) n) : ∀ i, i < N → zin ((fx_draw N σ).1 13 i) n := by
  refine zit_inv (step := fx_draw1 N) (e := N) (fun k τ => ∀ i, i < N → zin (τ.1 13 i) n) ?_ N 0 σ (by omega) h
  intro k τ hk hP
  have h1 := (fx_pick_in (fx_lcg (τ.2 1 0)) (r := N - k) (by omega) (by omega)).2
  exact move_facts _ (by omega) (Nat.le_add_right _ _) hP
theorem brief_throw {n E : Nat} (hE : E ≤ 300) (σ : zS) : ∀ u, u < n → (fx_brief n E σ).1 4 u = -1 ∨ zin ((fx_brief n E σ).1 4 u) E := by
  refine zit_inv (step := fx_brief1) (e := E) (fun k τ => ∀ u, u < n → τ.1 4 u = -1 ∨ zin (τ.1 4 u) E) ?_ E 0 _ (by omega) ?_
  · intro k τ hk hP u hu
    unfold fx_brief1
    split
    · by_cases e : u = tn (τ.1 9 k)
      · subst e
        rw [zi_eq]
        exact Or.inr (zin_nI hk (by omega))
      · rw [zi_ni _ _ e]
        exact hP u hu
    · split
      · rw [zi_nf _ _ (by decide)]; exact hP u hu
      · split
        · rw [zi_nf _ _ (by decide)]; exact hP u hu
        · exact hP u hu
  · refine fun u hu => Or.inl ?_
    refine zit_inv (step := fx_brief0) (e := n) (fun k τ => ∀ u, u < k → τ.1 4 u = -1) ?_ n 0 σ (by omega) (fun u h => absurd h (Nat.not_lt_zero u)) u hu
    intro k τ hk hP u hu
    unfold fx_brief0
    rw [zi_nf _ _ (by decide), zi_nf _ _ (by decide)]
    by_cases e : u = k
    · subst e; rw [zi_eq]
    · rw [zi_ni _ _ e]; exact hP u (by omega)
theorem turns_throw {n N : Nat} (σ : zS) : ∀ u, u < n → (fx_takeTurns n N σ).1 7 u = 2 → ¬ σ.1 4 u = -1 := by
  intro u hu h
  have h0 : ∀ u, u < n → (zit fx_turn0 n 0 σ).1 7 u = -1 := by
    refine zit_inv (step := fx_turn0) (e := n) (fun k τ => ∀ u, u < k → τ.1 7 u = -1) ?_ n 0 σ (by omega) (fun u h => absurd h (Nat.not_lt_zero u))
    intro k τ hk hP u hu
    unfold fx_turn0
    by_cases e : u = k
    · subst e; rw [zi_eq]
    · rw [zi_ni _ _ e]; exact hP u (by omega)
  have h1 : (zit fx_turn1 N 0 (zit fx_turn0 n 0 σ)).1 4 = σ.1 4 ∧ ∀ u, u < n → (zit fx_turn1 N 0 (zit fx_turn0 n 0 σ)).1 7 u = 2 → ¬ σ.1 4 u = -1 := by
    refine zit_inv (step := fx_turn1) (e := N) (fun k τ => τ.1 4 = σ.1 4 ∧ ∀ u, u < n → τ.1 7 u = 2 → ¬ σ.1 4 u = -1) ?_ N 0 _ (by omega) ⟨zit_k1 (fun k τ => zi_nf _ _ (by decide)) _ _ _, fun u hu h => by
      rw [h0 u hu] at h
      exact absurd h (by decide)⟩
    intro k τ hk hP
    refine ⟨(zi_nf _ _ (by decide)).trans hP.1, fun u hu h => ?_⟩
    unfold fx_turn1 at h
    by_cases e : u = tn (τ.1 13 k)
    · subst e
      rw [zi_eq, hP.1] at h
      intro q
      rw [if_pos q] at h
      exact absurd h (by decide)
    · rw [zi_ni _ _ e] at h
      exact hP.2 u hu h
  exact h1.2 u hu h
theorem hold_kinds {n : Nat} {x : Int32} (σ : zS) : ∀ e, (fx_hold n x σ).1 8 e = 3 ∨ (fx_hold n x σ).1 8 e = σ.1 8 e := by
  refine zit_inv (step := fx_hold1 x) (e := n) (fun k τ => ∀ e, τ.1 8 e = 3 ∨ τ.1 8 e = σ.1 8 e) ?_ n 0 σ (by omega) (fun e => Or.inr rfl)
  intro k τ hk hP e
  unfold fx_hold1
  split
  · rw [fx_makeSafe_1, zi_nf _ _ (by decide), zi_nf _ _ (by decide)]
    by_cases q : e = tn (τ.1 4 k)
    · subst q; rw [zi_eq]; exact Or.inl rfl
    · rw [zi_ni _ _ q]; exact hP e
  · exact hP e
/-- what the class keeps between calls, as far as its walks need it -/
def InvX (n E b : Nat) (σ : zS) : Prop := σ.1 12 0 = nI E ∧ (∀ e, e < E → zin (σ.1 9 e) n) ∧ (∀ e, e < E → σ.1 8 e = 0 → zin (σ.1 11 e) (n * 4)) ∧ σ.1 21 0 = nI b ∧ ∃ t, σ.1 18 0 = nI t ∧ t ≤ n * b
theorem kp_S4 {g : Nat} (h : g ∉ [4, 5, 6, 13, 14, 7]) (n E : Nat) (σ : zS) : (fx_S4 n E σ).1 g = σ.1 g := by
  simp only [List.mem_cons, List.not_mem_nil, or_false, not_or] at h
  unfold fx_S4 fx_S2
  rw [kp_turns h.2.2.2.2.2, kp_draw h.2.2.2.1, kp_gather (by simp [h]), kp_brief (by simp [h])]
theorem kp_S5 {g : Nat} (h : g ∉ [4, 5, 6, 13, 14, 7, 8, 2, 3]) (n E b : Nat) (σ : zS) : (fx_S5 n E b σ).1 g = σ.1 g := by
  simp only [List.mem_cons, List.not_mem_nil, or_false, not_or] at h
  unfold fx_S5
  rw [kp_hold (by simp [h]), kp_S4 (by simp [h])]
theorem fx_N_facts {n E : Nat} (hn : n ≤ 8) (σ : zS) : (fx_S2 n E σ).1 14 0 = nI (fx_N n E σ) ∧ fx_N n E σ ≤ n ∧ ∀ i, i < fx_N n E σ → zin ((fx_S2 n E σ).1 13 i) n := by
  obtain ⟨N, h1, h2, h3⟩ := gather_facts hn (fx_brief n E σ)
  have e : fx_N n E σ = N := by
    show tn ((fx_gather n (fx_brief n E σ)).1 14 0) = N
    rw [h1, tn_nI (by omega)]
  rw [e]
  exact ⟨h1, h2, h3⟩
theorem S4_throw {n E : Nat} (hE : E ≤ 300) (σ : zS) : ∀ u, u < n → (fx_S4 n E σ).1 7 u = 2 → zin ((fx_S4 n E σ).1 4 u) E := by
  intro u hu h
  have h1 := turns_throw _ u hu h
  have e : (fx_S4 n E σ).1 4 = (fx_brief n E σ).1 4 := by
    unfold fx_S4 fx_S2
    rw [kp_turns (by decide), kp_draw (by decide), kp_gather (by decide)]
  rw [e]
  have e2 : (fx_draw (fx_N n E σ) (fx_S2 n E σ)).1 4 = (fx_brief n E σ).1 4 := by
    unfold fx_S2
    rw [kp_draw (by decide), kp_gather (by decide)]
  rw [e2] at h1
  rcases brief_throw hE σ u hu with q | q
  · exact absurd q h1
  · exact q
theorem S5_kinds {n E b : Nat} (σ : zS) (e : Nat) : (fx_S5 n E b σ).1 8 e = 3 ∨ (fx_S5 n E b σ).1 8 e = σ.1 8 e := by
  rcases hold_kinds (n := n) (x := nI b) (fx_S4 n E σ) e with q | q
  · exact Or.inl q
  · refine Or.inr (q.trans ?_)
    rw [kp_S4 (by decide)]
theorem log_facts {x : Int32} : ∀ (c k t : Nat) (σ : zS), t + c < 2 ^ 31 → σ.1 18 0 = nI t → (zit (fx_log1 x) c k σ).1 18 0 = nI (t + c)
  | 0, _, _, _, _, h => h
  | c + 1, k, t, σ, hb, h => by
    have := log_facts (x := x) c (k + 1) (t + 1) (fx_log1 x k σ) (by omega) (by
      unfold fx_log1 fx_turn
      rw [zi_eq, h, tn_nI (by omega)])
    rw [show t + (c + 1) = t + 1 + c by omega]
    exact this
theorem InvX_S7 {n E b : Nat} {σ : zS} (h : InvX n E b σ) : (fx_grant n (σ.1 22 b) (fx_S5 n E b σ)).1 12 0 = nI E ∧ (∀ e, e < E → zin ((fx_grant n (σ.1 22 b) (fx_S5 n E b σ)).1 9 e) n) ∧ (∀ e, e < E → (fx_grant n (σ.1 22 b) (fx_S5 n E b σ)).1 8 e = 0 → zin ((fx_grant n (σ.1 22 b) (fx_S5 n E b σ)).1 11 e) (n * 4)) := by
  rw [kp_grant (by decide), kp_grant (by decide), kp_grant (by decide), kp_grant (by decide), kp_S5 (g := 12) (by decide), kp_S5 (g := 9) (by decide), kp_S5 (g := 11) (by decide)]
  refine ⟨h.1, h.2.1, fun e he q => h.2.2.1 e he ?_⟩
  rcases S5_kinds (n := n) (E := E) (b := b) σ e with z | z
  · rw [z] at q; exact absurd q (by decide)
  · rw [← z]; exact q
theorem kp_S8 {g : Nat} (h : g ∉ [4, 5, 6, 13, 14, 7, 8, 2, 3, 19, 0, 20, 21]) (n E b : Nat) (σ : zS) : (fx_S8 n E b σ).1 g = σ.1 g := by
  simp only [List.mem_cons, List.not_mem_nil, or_false, not_or] at h
  unfold fx_S8
  rw [kp_keep (by simp [h]), kp_settle (by simp [h]), kp_grant h.2.2.2.2.2.2.2.2.2.1, kp_S5 (by simp [h])]
theorem kp_pass {g : Nat} (h : g ∉ [4, 5, 6, 13, 14, 7, 8, 2, 3, 19, 0, 20, 21, 15, 16, 17, 18]) (n E b : Nat) (σ : zS) : (fx_pass n E b σ).1 g = σ.1 g := by
  simp only [List.mem_cons, List.not_mem_nil, or_false, not_or] at h
  unfold fx_pass
  rw [kp_log (by simp [h]), kp_S8 (by simp [h])]
theorem InvX_pass {n E b : Nat} {σ : zS} (h : InvX n E b σ) (hb : b < 64) (hn : n ≤ 8) : InvX n E (b + 1) (fx_pass n E b σ) := by
  refine ⟨?_, ?_, ?_, ?_, ?_⟩
  · rw [kp_pass (by decide)]; exact h.1
  · rw [kp_pass (by decide)]; exact h.2.1
  · rw [kp_pass (g := 11) (by decide)]
    intro e he q
    refine h.2.2.1 e he ?_
    have e1 : (fx_pass n E b σ).1 8 = (fx_S5 n E b σ).1 8 := by
      unfold fx_pass fx_S8
      rw [kp_log (by decide), kp_keep (by decide), kp_settle (by decide), kp_grant (by decide)]
    rw [e1] at q
    rcases S5_kinds (n := n) (E := E) (b := b) σ e with z | z
    · rw [z] at q; exact absurd q (by decide)
    · rw [← z]; exact q
  · unfold fx_pass
    rw [kp_log (by decide)]
    exact zi_eq _ _ _ _
  · obtain ⟨t, h1, h2⟩ := h.2.2.2.2
    have h3 := (fx_N_facts (E := E) hn σ).2.1
    have h4 : n * b ≤ 8 * 64 := Nat.mul_le_mul hn (by omega)
    refine ⟨t + fx_N n E σ, ?_, ?_⟩
    · unfold fx_pass
      refine log_facts _ _ _ _ (by omega) ?_
      rw [kp_S8 (by decide)]
      exact h1
    · rw [Nat.mul_add]; omega
def fx_playR (n E b : Nat) (σ : zS) (v : Int64) (x : Int32) : Int32 := if ¬ x < 0 ∧ ¬ 64 < x ∧ σ.1 23 0 = 0 then nI (fx_play n E (tn x) b 0 (zl σ 1 0 v)).1 else -1
def fx_playS (n E b : Nat) (σ : zS) (v : Int64) (x : Int32) : zS := if ¬ x < 0 ∧ ¬ 64 < x ∧ σ.1 23 0 = 0 then (fx_play n E (tn x) b 0 (zl σ 1 0 v)).2 else σ
theorem play_ret {n E b k : Nat} {σ τ : zS} {v : Int64} {x : Int32} (hok : ¬ x < 0 ∧ ¬ 64 < x ∧ σ.1 23 0 = 0) (e : fx_play n E (tn x) b 0 (zl σ 1 0 v) = (k, τ)) : nI k = fx_playR n E b σ v x ∧ τ = fx_playS n E b σ v x := by
  unfold fx_playR fx_playS
  rw [if_pos hok, if_pos hok, e]
  exact ⟨rfl, rfl⟩
theorem play_no {n E b : Nat} {σ : zS} {v : Int64} {x : Int32} (h : ¬ (¬ x < 0 ∧ ¬ 64 < x ∧ σ.1 23 0 = 0)) : -1 = fx_playR n E b σ v x ∧ σ = fx_playS n E b σ v x := by
  unfold fx_playR fx_playS
  rw [if_neg h, if_neg h]
  exact ⟨rfl, rfl⟩
theorem tn64 {x : Int32} (h : ¬ x < 0) (h2 : ¬ 64 < x) : tn x ≤ 64 := by
  obtain ⟨j, hj, rfl⟩ := nI_of h
  rw [tn_nI hj]
  rcases Nat.lt_or_ge 64 j with q | q
  · exact absurd (show (64 : Int32) < nI j from nI_lt q hj) h2
  · exact q
