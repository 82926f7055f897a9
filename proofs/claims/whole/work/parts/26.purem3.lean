/-! a second of the reference: what its walk needs -/
theorem InvM_ask0 {E b t : Nat} {σ : zS} (h : InvM E b t σ) : InvM E b t (zit fm_ask0 128 0 σ) := by
  have k : ∀ g, g ≠ 45 → (zit fm_ask0 128 0 σ).1 g = σ.1 g := fun g hg => zit_k1 (step := fm_ask0) (fun _ _ => zi_nf _ _ hg) 128 0 σ
  exact InvM_of h (k _ (by decide)) (k _ (by decide)) (k _ (by decide)) (k _ (by decide)) (k _ (by decide))
theorem InvM_draw {n E b : Nat} : ∀ (m t : Nat) (g : Int64) (σ : zS), InvM E b t σ → InvM E b (t + m) (fm_draw n E m t g σ).2
  | 0, _, _, _, h => h
  | m + 1, t, g, σ, h => by
    have := InvM_draw (n := n) m (t + 1) (fx_lcg g) (fm_next n E t (m + 1) g σ) (InvM_turn (σ := zi σ 43 _ 0) h)
    rw [show t + (m + 1) = t + 1 + m by omega]
    exact this
theorem InvM_turnsOf {n E b t : Nat} {g : Int64} {σ : zS} (h : InvM E b t σ) : InvM E b (t + (fm_tk E n 0 0 σ).1) (fm_turnsOf n E t g σ).2 := by
  obtain ⟨h1, h2, h3, h4, h5⟩ := fm_tk_facts E n 0 0 σ
  obtain ⟨k1, k2, k3⟩ := fm_left_facts n (fm_tk E n 0 0 σ).2 (fun u hu => ⟨_, h5 u (by omega) (by omega)⟩)
  refine InvM_draw _ _ _ _ (InvM_of h ?_ ?_ ?_ ?_ ?_)
  · rw [k1 _ (by decide), h2 _ (by decide)]
  · rw [k1 _ (by decide), h2 _ (by decide)]
  · rw [k1 _ (by decide), h2 _ (by decide)]
  · rw [k1 _ (by decide), h2 _ (by decide)]
  · rw [k1 _ (by decide), h2 _ (by decide)]
theorem InvM_zit {E b t : Nat} {step : Nat → zS → zS} (hs : ∀ k σ, InvM E b t σ → InvM E b t (step k σ)) : ∀ (c k : Nat) (σ : zS), InvM E b t σ → InvM E b t (zit step c k σ)
  | 0, _, _, h => h
  | c + 1, k, σ, h => InvM_zit hs c (k + 1) (step k σ) (hs k σ h)
theorem InvM_end3 {E b t t1 u : Nat} {σ : zS} (h : InvM E b t σ) : InvM E b t (fm_end3 E t1 u σ) := InvM_of h (km_end3 (by decide) _ _ _ _) (km_end3 (by decide) _ _ _ _) (km_end3 (by decide) _ _ _ _) (km_end3 (by decide) _ _ _ _) (km_end3 (by decide) _ _ _ _)
theorem km_endF {g : Nat} (h : g ∉ [28, 26]) (b : Nat) (σ : zS) : (fm_endF b σ).1 g = σ.1 g := by
  simp only [List.mem_cons, List.not_mem_nil, or_false, not_or] at h
  unfold fm_endF
  rw [zi_nf _ _ h.2, zit_k1 (step := fm_end5 b) (fun _ _ => zi_nf _ _ h.1), zit_k1 (step := fm_end4 b) (fun _ _ => rfl)]
theorem InvM_pass {n E b t : Nat} {g : Int64} {σ : zS} (h : InvM E b t σ) : InvM E (b + 1) (t + fm_T E n σ) (fm_pass n E b t g σ) := by
  have h1 : InvM E b (t + fm_T E n σ) (fm_turnsOf n E t g (zit fm_ask0 128 0 σ)).2 := InvM_turnsOf (InvM_ask0 h)
  have h2 : InvM E b (t + fm_T E n σ) (fm_endA n E b (t + fm_T E n σ) (fm_turnsOf n E t g (zit fm_ask0 128 0 σ)).2) :=
    InvM_zit (fun _ _ q => InvM_end3 q) _ _ _ (InvM_zit (fun _ _ q => InvM_end2 q) _ _ _ (InvM_zit (fun _ _ q => InvM_end1 q) _ _ _ h1))
  unfold fm_pass fm_end
  refine ⟨?_, ?_, ?_, zi_eq _ _ _ _, ?_⟩
  · rw [km_endF (by decide)]; exact h2.1
  · rw [km_endF (by decide), km_endF (by decide)]; exact h2.2.1
  · rw [km_endF (by decide), km_endF (by decide)]; exact h2.2.2.1
  · rw [km_endF (by decide)]; exact h2.2.2.2.2
theorem fm_T_le (n E : Nat) (σ : zS) : fm_T E n σ ≤ n := by
  unfold fm_T
  rw [(fm_tk_facts E n 0 0 _).1, Nat.zero_add]
  exact fm_gn_le _ _ _ _
def fm_playR (n E b t : Nat) (σ : zS) (v : Int64) (x : Int32) : Int32 := if fm_in x 0 64 = true ∧ σ.1 25 0 = 0 then nI (fm_play n E (tn x) b t 0 v σ).1 else -1
def fm_playS (n E b t : Nat) (σ : zS) (v : Int64) (x : Int32) : zS := if fm_in x 0 64 = true ∧ σ.1 25 0 = 0 then (fm_play n E (tn x) b t 0 v σ).2 else σ
theorem mplay_ret {n E b t k : Nat} {σ τ : zS} {v : Int64} {x : Int32} (hok : fm_in x 0 64 = true ∧ σ.1 25 0 = 0) (e : fm_play n E (tn x) b t 0 v σ = (k, τ)) : nI k = fm_playR n E b t σ v x ∧ τ = fm_playS n E b t σ v x := by
  unfold fm_playR fm_playS
  rw [if_pos hok, if_pos hok, e]
  exact ⟨rfl, rfl⟩
theorem mplay_no {n E b t : Nat} {σ : zS} {v : Int64} {x : Int32} (h : ¬ (fm_in x 0 64 = true ∧ σ.1 25 0 = 0)) : -1 = fm_playR n E b t σ v x ∧ σ = fm_playS n E b t σ v x := by
  unfold fm_playR fm_playS
  rw [if_neg h, if_neg h]
  exact ⟨rfl, rfl⟩
