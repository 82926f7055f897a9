/-! what each side leaves of the other -/
def keepM (σ τ : zS) : Prop := (∀ g, 24 ≤ g → τ.1 g = σ.1 g) ∧ ∀ g, 5 ≤ g → τ.2 g = σ.2 g
def keepX (σ τ : zS) : Prop := (∀ g, g < 24 → τ.1 g = σ.1 g) ∧ ∀ g, g < 5 → τ.2 g = σ.2 g
theorem kM_refl (σ : zS) : keepM σ σ := ⟨fun _ _ => rfl, fun _ _ => rfl⟩
theorem kX_refl (σ : zS) : keepX σ σ := ⟨fun _ _ => rfl, fun _ _ => rfl⟩
theorem kM_tr {σ τ ρ : zS} (h : keepM σ τ) (k : keepM τ ρ) : keepM σ ρ := ⟨fun g hg => (k.1 g hg).trans (h.1 g hg), fun g hg => (k.2 g hg).trans (h.2 g hg)⟩
theorem kX_tr {σ τ ρ : zS} (h : keepX σ τ) (k : keepX τ ρ) : keepX σ ρ := ⟨fun g hg => (k.1 g hg).trans (h.1 g hg), fun g hg => (k.2 g hg).trans (h.2 g hg)⟩
theorem kM_zi {σ τ : zS} {f i : Nat} {v : Int32} (h : keepM σ τ) (hf : f < 24) : keepM σ (zi τ f i v) := ⟨fun g hg => (zi_nf _ _ (by omega)).trans (h.1 g hg), h.2⟩
theorem kM_zl {σ τ : zS} {f i : Nat} {v : Int64} (h : keepM σ τ) (hf : f < 5) : keepM σ (zl τ f i v) := ⟨h.1, fun g hg => (zl_nf _ _ (by omega)).trans (h.2 g hg)⟩
theorem kM_zfi {σ τ : zS} {f : Nat} {v : Nat → Int32} (h : keepM σ τ) (hf : f < 24) : keepM σ (zfi τ f v) := ⟨fun g hg => (funext fun j => if_neg (by omega)).trans (h.1 g hg), h.2⟩
theorem kM_zfl {σ τ : zS} {f : Nat} {v : Nat → Int64} (h : keepM σ τ) (hf : f < 5) : keepM σ (zfl τ f v) := ⟨h.1, fun g hg => (funext fun j => if_neg (by omega)).trans (h.2 g hg)⟩
theorem kX_zi {σ τ : zS} {f i : Nat} {v : Int32} (h : keepX σ τ) (hf : 24 ≤ f) : keepX σ (zi τ f i v) := ⟨fun g hg => (zi_nf _ _ (by omega)).trans (h.1 g hg), h.2⟩
theorem kX_zl {σ τ : zS} {f i : Nat} {v : Int64} (h : keepX σ τ) (hf : 5 ≤ f) : keepX σ (zl τ f i v) := ⟨h.1, fun g hg => (zl_nf _ _ (by omega)).trans (h.2 g hg)⟩
theorem kM_zit {step : Nat → zS → zS} (hs : ∀ k τ, keepM τ (step k τ)) : ∀ (c k : Nat) (σ : zS), keepM σ (zit step c k σ)
  | 0, _, σ => kM_refl σ
  | c + 1, k, σ => kM_tr (hs k σ) (kM_zit hs c (k + 1) (step k σ))
theorem kX_zit {step : Nat → zS → zS} (hs : ∀ k τ, keepX τ (step k τ)) : ∀ (c k : Nat) (σ : zS), keepX σ (zit step c k σ)
  | 0, _, σ => kX_refl σ
  | c + 1, k, σ => kX_tr (hs k σ) (kX_zit hs c (k + 1) (step k σ))
theorem kM_tell (σ : zS) (E : Nat) (a : Int32) (u : Nat) (c d : Int32) (v : Int64) : keepM σ (fx_tell σ E a u c d v) := by
  unfold fx_tell fx_add
  exact kM_zi (kM_zi (kM_zl (kM_zi (kM_zi (kM_zi (kM_zi (kM_refl σ) (by decide)) (by decide)) (by decide)) (by decide)) (by decide)) (by decide)) (by decide)
theorem kM_step (n E : Nat) (σ : zS) (a b c : Int32) (v : Int64) : keepM σ (fx_stepS n E σ a b c v) := by
  unfold fx_stepS; split
  · exact kM_tell _ _ _ _ _ _ _
  · exact kM_refl σ
theorem kM_asks (n E : Nat) (σ : zS) (a b c : Int32) : keepM σ (fx_asksS n E σ a b c) := by
  unfold fx_asksS; split
  · exact kM_tell _ _ _ _ _ _ _
  · exact kM_refl σ
theorem kM_throw (n E : Nat) (σ : zS) (a b : Int32) : keepM σ (fx_throwS n E σ a b) := by
  unfold fx_throwS; split
  · exact kM_tell _ _ _ _ _ _ _
  · exact kM_refl σ
theorem kM_safe (n : Nat) (σ : zS) (a : Int32) (v : Int64) : keepM σ (fx_safeS n σ a v) := by
  unfold fx_safeS; split
  · exact kM_zl (kM_refl σ) (by decide)
  · exact kM_refl σ
theorem kM_bar (σ : zS) (a b : Int32) : keepM σ (fx_barS σ a b) := by
  unfold fx_barS; split
  · exact kM_zi (kM_refl σ) (by decide)
  · exact kM_refl σ
theorem kM_rest (n : Nat) (σ : zS) (a : Int32) : keepM σ (fx_restS n σ a) := by
  unfold fx_restS; split
  · exact kM_zi (kM_refl σ) (by decide)
  · exact kM_refl σ
theorem kM_close (n : Nat) (σ : zS) : keepM σ (fx_closeS n σ) := by
  unfold fx_closeS; split
  · refine kM_zi ?_ (by decide)
    unfold fx_shut
    exact kM_tr (kM_zfl (kM_refl σ) (by decide)) (kM_zit (fun k τ => kM_zi (kM_refl τ) (by decide)) 16 0 _)
  · exact kM_refl σ
theorem kM_brief (n E : Nat) (σ : zS) : keepM σ (fx_brief n E σ) := by
  unfold fx_brief
  refine kM_tr (kM_zit (step := fx_brief0) (fun k τ => kM_zi (kM_zi (kM_zi (kM_refl τ) (by decide)) (by decide)) (by decide)) n 0 σ) (kM_zit (step := fx_brief1) (fun k τ => ?_) E 0 _)
  unfold fx_brief1
  split
  · exact kM_zi (kM_refl τ) (by decide)
  · split
    · exact kM_zi (kM_refl τ) (by decide)
    · split
      · exact kM_zi (kM_refl τ) (by decide)
      · exact kM_refl τ
theorem kM_gather (n : Nat) (σ : zS) : keepM σ (fx_gather n σ) := by
  unfold fx_gather
  refine kM_tr (kM_zi (kM_refl σ) (by decide)) (kM_zit (step := fx_gather1) (fun k τ => ?_) n 0 _)
  unfold fx_gather1
  split
  · exact kM_zi (kM_zi (kM_refl τ) (by decide)) (by decide)
  · exact kM_refl τ
theorem kM_shift : ∀ (c i : Nat) (σ : zS), keepM σ (fx_shift c i σ)
  | 0, _, σ => kM_refl σ
  | c + 1, i, σ => kM_tr (kM_zi (kM_refl σ) (by decide)) (kM_shift c (i - 1) _)
theorem kM_draw (N : Nat) (σ : zS) : keepM σ (fx_draw N σ) := by
  unfold fx_draw
  refine kM_zit (step := fx_draw1 N) (fun k τ => ?_) N 0 σ
  unfold fx_draw1 fx_move
  exact kM_zi (kM_tr (kM_zl (kM_refl τ) (by decide)) (kM_shift _ _ _)) (by decide)
theorem kM_turns (n N : Nat) (σ : zS) : keepM σ (fx_takeTurns n N σ) := by
  unfold fx_takeTurns
  exact kM_tr (kM_zit (step := fx_turn0) (fun k τ => kM_zi (kM_refl τ) (by decide)) n 0 σ) (kM_zit (step := fx_turn1) (fun k τ => kM_zi (kM_refl τ) (by decide)) N 0 _)
theorem kM_hold (n : Nat) (x : Int32) (σ : zS) : keepM σ (fx_hold n x σ) := by
  unfold fx_hold
  refine kM_zit (step := fx_hold1 x) (fun k τ => ?_) n 0 σ
  unfold fx_hold1
  split
  · unfold fx_makeSafe
    exact kM_tr (kM_zi (kM_zi (kM_zi (kM_refl τ) (by decide)) (by decide)) (by decide)) (kM_zit (step := fx_safe1) (fun k τ => kM_zl (kM_refl τ) (by decide)) 4 _ _)
  · exact kM_refl τ
theorem kM_grant (n : Nat) (x : Int32) (σ : zS) : keepM σ (fx_grant n x σ) := by
  unfold fx_grant
  refine kM_zit (step := fx_grant1 n x) (fun k τ => ?_) 16 0 σ
  unfold fx_grant1
  split
  · exact kM_zi (kM_refl τ) (by decide)
  · exact kM_refl τ
theorem kM_give (σ : zS) (u b : Int32) : keepM σ (fx_giveBack σ u b) := by
  unfold fx_giveBack
  refine kM_zit (step := fx_give1 u b) (fun k τ => ?_) 16 0 σ
  unfold fx_give1
  split
  · exact kM_zi (kM_refl τ) (by decide)
  · exact kM_refl τ
theorem kM_settle (n E : Nat) (σ : zS) : keepM σ (fx_settle n E σ) := by
  unfold fx_settle fx_doSteps
  refine kM_tr (kM_tr (kM_zit (step := fx_set1) (fun k τ => ?_) n 0 σ) (kM_zit (step := fx_steps1) (fun k τ => ?_) E 0 _)) (kM_zit (step := fx_set2) (fun k τ => ?_) n 0 _)
  · unfold fx_set1
    split
    · exact kM_zi (kM_refl τ) (by decide)
    · exact kM_refl τ
  · unfold fx_steps1
    split
    · exact kM_zl (kM_refl τ) (by decide)
    · exact kM_refl τ
  · unfold fx_set2
    split
    · exact kM_zi (kM_zi (kM_give _ _ _) (by decide)) (by decide)
    · split
      · exact kM_zi (kM_refl τ) (by decide)
      · exact kM_refl τ
theorem kM_keep (n b : Nat) (σ : zS) : keepM σ (fx_keep n b σ) := by
  unfold fx_keep
  exact kM_zi (kM_zfi (kM_zfl (kM_refl σ) (by decide)) (by decide)) (by decide)
theorem kM_pass (n E b : Nat) (σ : zS) : keepM σ (fx_pass n E b σ) := by
  unfold fx_pass fx_S8 fx_S5 fx_S4 fx_S2
  refine kM_tr (kM_tr (kM_tr (kM_tr (kM_tr (kM_tr (kM_tr (kM_tr (kM_brief n E σ) (kM_gather n _)) (kM_draw _ _)) (kM_turns n _ _)) (kM_hold n _ _)) (kM_grant n _ _)) (kM_settle n E _)) (kM_keep n b _)) (kM_zit (step := fx_log1 (nI b)) (fun k τ => ?_) _ 0 _)
  unfold fx_log1 fx_turn
  exact kM_zi (kM_zi (kM_zi (kM_zi (kM_refl τ) (by decide)) (by decide)) (by decide)) (by decide)
theorem kM_playn (n E : Nat) : ∀ (c b k : Nat) (σ : zS), keepM σ (fx_play n E c b k σ).2
  | 0, _, _, σ => kM_refl σ
  | c + 1, b, k, σ => by
    unfold fx_play
    split
    · exact kM_tr (kM_pass n E b σ) (kM_playn n E c (b + 1) (k + 1) _)
    · exact kM_refl σ
theorem kM_play (n E b : Nat) (σ : zS) (v : Int64) (q : Int32) : keepM σ (fx_playS n E b σ v q) := by
  unfold fx_playS
  split
  · exact kM_tr (kM_zl (kM_refl σ) (by decide)) (kM_playn n E _ b 0 _)
  · exact kM_refl σ
-- the reference
theorem kX_add (σ : zS) (E : Nat) (a b c d : Int32) (v : Int64) : keepX σ (fm_add σ E a b c d v) := by
  unfold fm_add
  exact kX_zi (kX_zl (kX_zi (kX_zi (kX_zi (kX_zi (kX_refl σ) (by decide)) (by decide)) (by decide)) (by decide)) (by decide)) (by decide)
theorem kX_step (n E : Nat) (σ : zS) (a b c : Int32) (v : Int64) : keepX σ (fm_stepS n E σ a b c v) := by
  unfold fm_stepS; split
  · exact kX_add _ _ _ _ _ _ _
  · exact kX_refl σ
theorem kX_asks (n E : Nat) (σ : zS) (a b c : Int32) : keepX σ (fm_asksS n E σ a b c) := by
  unfold fm_asksS; split
  · exact kX_add _ _ _ _ _ _ _
  · exact kX_refl σ
theorem kX_throw (n E : Nat) (σ : zS) (a b : Int32) : keepX σ (fm_throwS n E σ a b) := by
  unfold fm_throwS; split
  · exact kX_add _ _ _ _ _ _ _
  · exact kX_refl σ
theorem kX_safe (n : Nat) (σ : zS) (a : Int32) (v : Int64) : keepX σ (fm_safeS n σ a v) := by
  unfold fm_safeS; split
  · exact kX_zl (kX_refl σ) (by decide)
  · exact kX_refl σ
theorem kX_bar (σ : zS) (a b : Int32) : keepX σ (fm_barS σ a b) := by
  unfold fm_barS; split
  · exact kX_zi (kX_refl σ) (by decide)
  · exact kX_refl σ
theorem kX_rest (n : Nat) (σ : zS) (a : Int32) : keepX σ (fm_restS n σ a) := by
  unfold fm_restS; split
  · exact kX_zi (kX_refl σ) (by decide)
  · exact kX_refl σ
theorem kX_close (σ : zS) : keepX σ (fm_closeS σ) := by
  unfold fm_closeS
  refine kX_zi ?_ (by decide)
  split
  · exact kX_tr (kX_zit (step := fm_safe1) (fun k τ => kX_zl (kX_refl τ) (by decide)) 32 0 σ) (kX_zit (step := fm_own1) (fun k τ => kX_zi (kX_refl τ) (by decide)) 16 0 _)
  · exact kX_refl σ
theorem kX_tell (u : Nat) (x : Int32) : ∀ (c : Nat) (σ : zS), keepX σ (fm_tell u x c σ)
  | 0, σ => kX_refl σ
  | c + 1, σ => by
    unfold fm_tell
    split
    · exact kX_tr (kX_zi (kX_refl σ) (by decide)) (kX_tell u x c _)
    · exact kX_refl σ
theorem kX_turn (σ : zS) (E t u : Nat) : keepX σ (fm_turn σ E t u) := by
  have h0 : keepX σ (fm_turn0 σ t u) := by
    unfold fm_turn0
    exact kX_zi (kX_zi (kX_zi (kX_zi (kX_refl σ) (by decide)) (by decide)) (by decide)) (by decide)
  unfold fm_turn
  split
  · refine kX_tr (kX_zi h0 (by decide)) (kX_zit (step := fm_ask1 u E) (fun k τ => ?_) E 0 _)
    unfold fm_ask1
    split
    · exact kX_zi (kX_refl τ) (by decide)
    · exact kX_refl τ
  · exact kX_zi (kX_zi h0 (by decide)) (by decide)
theorem kX_tk (E : Nat) : ∀ (c k m : Nat) (σ : zS), keepX σ (fm_tk E c k m σ).2
  | 0, _, _, σ => kX_refl σ
  | c + 1, k, m, σ => by
    unfold fm_tk
    exact kX_tr (kX_zi (kX_refl σ) (by decide)) (kX_tk E c (k + 1) _ _)
theorem kX_draw (n E : Nat) : ∀ (m t : Nat) (g : Int64) (σ : zS), keepX σ (fm_draw n E m t g σ).2
  | 0, _, _, σ => kX_refl σ
  | m + 1, t, g, σ => by
    unfold fm_draw
    refine kX_tr ?_ (kX_draw n E m (t + 1) _ _)
    unfold fm_next
    exact kX_tr (kX_zi (kX_refl σ) (by decide)) (kX_turn _ _ _ _)
theorem kX_turnsOf (n E t : Nat) (g : Int64) (σ : zS) : keepX σ (fm_turnsOf n E t g σ).2 := by
  unfold fm_turnsOf
  exact kX_tr (kX_tr (kX_tk E n 0 0 σ) (kX_zit (step := fm_left1) (fun k τ => kX_zi (kX_refl τ) (by decide)) n 0 _)) (kX_draw n E _ t g _)
theorem kX_act (E t u : Nat) (σ : zS) : keepX σ (fm_act E t u σ) := by
  unfold fm_act
  split
  · unfold fm_actD
    refine kX_zi (kX_tr (kX_zi (kX_refl σ) (by decide)) (kX_zit (step := fm_act1 E u) (fun k τ => ?_) E 0 _)) (by decide)
    unfold fm_act1
    split
    · exact kX_zl (kX_refl τ) (by decide)
    · split
      · exact kX_zi (kX_refl τ) (by decide)
      · exact kX_refl τ
  · exact kX_tr (kX_zi (kX_refl σ) (by decide)) (kX_tell _ _ _ _)
theorem kX_endA (n E b t : Nat) (σ : zS) : keepX σ (fm_endA n E b t σ) := by
  unfold fm_endA
  refine kX_tr (kX_tr (kX_zit (step := fm_end1 t) (fun k τ => ?_) n 0 σ) (kX_zit (step := fm_end2 n b) (fun k τ => ?_) 16 0 _)) (kX_zit (step := fm_end3 E t) (fun k τ => ?_) n 0 _)
  · unfold fm_end1
    split
    · exact kX_tr (kX_tr (kX_zi (kX_zi (kX_refl τ) (by decide)) (by decide)) (kX_tell _ _ _ _)) (kX_zit (step := fm_safe1) (fun k τ => kX_zl (kX_refl τ) (by decide)) 4 _ _)
    · exact kX_refl τ
  · unfold fm_end2
    exact kX_zit (step := fm_end2u b k) (fun j ρ => kX_zi (kX_refl ρ) (by decide)) n 0 τ
  · unfold fm_end3
    split
    · exact kX_act E t k τ
    · exact kX_refl τ
theorem kX_endF (b : Nat) (σ : zS) : keepX σ (fm_endF b σ) := by
  unfold fm_endF
  exact kX_zi (kX_tr (kX_zit (step := fm_end4 b) (fun k τ => kX_zl (kX_refl τ) (by decide)) 32 0 σ) (kX_zit (step := fm_end5 b) (fun k τ => kX_zi (kX_refl τ) (by decide)) 16 0 _)) (by decide)
theorem kX_pass (n E b t : Nat) (g : Int64) (σ : zS) : keepX σ (fm_pass n E b t g σ) := by
  unfold fm_pass fm_end
  exact kX_tr (kX_tr (kX_tr (kX_zit (step := fm_ask0) (fun k τ => kX_zi (kX_refl τ) (by decide)) 128 0 σ) (kX_turnsOf n E t g _)) (kX_endA n E b _ _)) (kX_endF b _)
theorem kX_playn (n E : Nat) : ∀ (c b t k : Nat) (g : Int64) (σ : zS), keepX σ (fm_play n E c b t k g σ).2
  | 0, _, _, _, _, σ => kX_refl σ
  | c + 1, b, t, k, g, σ => by
    unfold fm_play
    split
    · exact kX_tr (kX_pass n E b t g σ) (kX_playn n E c (b + 1) _ (k + 1) _ _)
    · exact kX_refl σ
theorem kX_play (n E b t : Nat) (σ : zS) (v : Int64) (q : Int32) : keepX σ (fm_playS n E b t σ v q) := by
  unfold fm_playS
  split
  · exact kX_playn n E _ b t 0 v σ
  · exact kX_refl σ
theorem Rl_X {n E b t : Nat} {x z y : zS} (h : Rl n E b t x y) (s1 : ∀ g, g < 24 → z.1 g = x.1 g) (s2 : ∀ g, g < 5 → g ≠ 1 → z.2 g = x.2 g) : Rl n E b t z y := by
  unfold Rl REnt IEnt IThr RUnit RMode RBoard RBar RTurn RCl at h ⊢
  rw [s1 0 (by decide), s1 1 (by decide), s1 2 (by decide), s1 3 (by decide), s1 8 (by decide), s1 9 (by decide), s1 10 (by decide), s1 11 (by decide), s1 12 (by decide), s1 15 (by decide), s1 16 (by decide), s1 17 (by decide), s1 18 (by decide), s1 19 (by decide), s1 20 (by decide), s1 21 (by decide), s1 22 (by decide), s1 23 (by decide), s2 0 (by decide) (by decide), s2 2 (by decide) (by decide), s2 3 (by decide) (by decide), s2 4 (by decide) (by decide)]
  exact h
theorem Rl_M {n E b t : Nat} {x y z : zS} (h : Rl n E b t x y) (k : keepM y z) : Rl n E b t x z := by
  obtain ⟨s1, s2⟩ := k
  unfold Rl REnt IEnt IThr RUnit RMode RBoard RBar RTurn RCl at h ⊢
  rw [s1 25 (by decide), s1 26 (by decide), s1 27 (by decide), s1 28 (by decide), s1 29 (by decide), s1 30 (by decide), s1 31 (by decide), s1 32 (by decide), s1 33 (by decide), s1 34 (by decide), s1 35 (by decide), s1 36 (by decide), s1 37 (by decide), s1 38 (by decide), s1 39 (by decide), s1 40 (by decide), s1 41 (by decide), s2 5 (by decide), s2 6 (by decide), s2 7 (by decide), s2 8 (by decide)]
  exact h
theorem Rl_K {n E b t : Nat} {x z y : zS} (h : Rl n E b t x y) (k : keepX x z) : Rl n E b t z y := Rl_X h k.1 (fun g hg _ => k.2 g hg)
theorem playn_eq {n E : Nat} (hn : n ≤ 8) : ∀ (c b t k : Nat) (g : Int64) (x y : zS), Rl n E b t x y → x.1 23 0 = 0 → x.2 1 0 = g → (fx_play n E c b k x).1 = (fm_play n E c b t k g y).1 ∧ ∃ b2 t2, Rl n E b2 t2 (fx_play n E c b k x).2 (fm_play n E c b t k g y).2 := by
  intro c
  induction c with
  | zero => exact fun b t k g x y h _ _ => ⟨rfl, b, t, h⟩
  | succ c ih =>
    intro b t k g x y h hc hg
    have ha := acting_eq h n 0 0 (by omega)
    unfold fx_play fm_play
    rw [ha]
    by_cases q : ¬ 64 ≤ b ∧ ¬ fm_going y E n 0 0 ≤ 0
    · rw [if_pos q, if_pos q]
      obtain ⟨p1, p2, p3⟩ := pass_eq h hn (by omega) hc hg
      refine ih (b + 1) (t + fm_T E n y) (k + 1) (fm_gg n E t g y) (fx_pass n E b x) (fm_pass n E b t g y) p2 ?_ p3
      rw [kp_pass (by decide)]
      exact hc
    · rw [if_neg q, if_neg q]
      exact ⟨rfl, b, t, h⟩
theorem op_play {n E b t : Nat} {x y : zS} (h : Rl n E b t x y) (hn : n ≤ 8) (v : Int64) (q : Int32) : fx_playR n E b x v q = fm_playR n E b t y v q ∧ ∃ b2 t2, Rl n E b2 t2 (fx_playS n E b x v q) (fm_playS n E b t y v q) := by
  have hcl := h.2.2.2.2.2.2.2.1
  have hcond : (¬ q < 0 ∧ ¬ 64 < q ∧ x.1 23 0 = 0) ↔ (fm_in q 0 64 = true ∧ y.1 25 0 = 0) := by
    simp only [fm_in, Bool.and_eq_true, Bool.not_eq_true', decide_eq_false_iff_not]
    rw [hcl]
    exact ⟨fun z => ⟨⟨z.1, z.2.1⟩, z.2.2⟩, fun z => ⟨z.1.1, z.1.2, z.2⟩⟩
  unfold fx_playR fm_playR fx_playS fm_playS
  by_cases z : ¬ q < 0 ∧ ¬ 64 < q ∧ x.1 23 0 = 0
  · rw [if_pos z, if_pos z, if_pos (hcond.mp z), if_pos (hcond.mp z)]
    have h2 : Rl n E b t (zl x 1 0 v) y := Rl_X h (fun _ _ => rfl) (fun g _ hg => zl_nf _ _ hg)
    obtain ⟨p1, p2⟩ := playn_eq hn (tn q) b t 0 v (zl x 1 0 v) y h2 z.2.2 (zl_eq _ _ _ _)
    exact ⟨by rw [p1], p2⟩
  · rw [if_neg z, if_neg z, if_neg (fun w => z (hcond.mpr w)), if_neg (fun w => z (hcond.mpr w))]
    exact ⟨rfl, b, t, h⟩
