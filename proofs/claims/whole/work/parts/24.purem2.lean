/-! what the reference's functions leave as it was -/
theorem km_tell {g : Nat} (h : g ≠ 40) (u : Nat) (x : Int32) : ∀ (c : Nat) (σ : zS), (fm_tell u x c σ).1 g = σ.1 g
  | 0, _ => rfl
  | c + 1, σ => by
    unfold fm_tell
    split
    · rw [km_tell h u x c]; exact zi_nf _ _ h
    · rfl
theorem km_turn {g : Nat} (h : g ∉ [38, 39, 40, 41, 44, 30, 45]) (σ : zS) (E t u : Nat) : (fm_turn σ E t u).1 g = σ.1 g := by
  simp only [List.mem_cons, List.not_mem_nil, or_false, not_or] at h
  have h0 : (fm_turn0 σ t u).1 g = σ.1 g := by
    unfold fm_turn0
    rw [zi_nf _ _ h.2.2.2.1, zi_nf _ _ h.2.2.1, zi_nf _ _ h.2.1, zi_nf _ _ h.1]
  unfold fm_turn
  split
  · refine (zit_k1 (step := fm_ask1 u E) (fun k τ => ?_) E 0 _).trans ?_
    · unfold fm_ask1
      split
      · exact zi_nf _ _ h.2.2.2.2.2.2
      · rfl
    · rw [zi_nf _ _ h.2.2.2.2.1]; exact h0
  · rw [zi_nf _ _ h.2.2.2.2.2.1, zi_nf _ _ h.2.2.2.2.1]; exact h0
theorem km_turn30 (σ : zS) (E t u e : Nat) : (fm_turn σ E t u).1 30 e = 3 ∨ (fm_turn σ E t u).1 30 e = σ.1 30 e := by
  unfold fm_turn
  split
  · refine Or.inr ?_
    refine congrFun ((zit_k1 (step := fm_ask1 u E) (fun k τ => ?_) E 0 _).trans rfl) e
    unfold fm_ask1
    split
    · exact zi_nf _ _ (by decide)
    · rfl
  · by_cases q : e = tn (fm_thr σ E t u)
    · subst q; rw [zi_eq]; exact Or.inl rfl
    · rw [zi_ni _ _ q]; exact Or.inr rfl
theorem km_turn41 (σ : zS) (E t u : Nat) : (fm_turn σ E t u).1 41 0 = nI (t + 1) := by
  unfold fm_turn
  split
  · refine (congrFun (zit_k1 (step := fm_ask1 u E) (g := 41) (fun k τ => ?_) E 0 _) 0).trans ?_
    · unfold fm_ask1
      split
      · exact zi_nf _ _ (by decide)
      · rfl
    · rfl
  · rfl
theorem km_act1 {g : Nat} (h : g ≠ 27) (E u c k : Nat) (σ : zS) : (zit (fm_act1 E u) c k σ).1 g = σ.1 g := by
  refine zit_k1 (step := fm_act1 E u) (fun k τ => ?_) c k σ
  unfold fm_act1
  split
  · rfl
  · split
    · exact zi_nf _ _ h
    · rfl
theorem km_act {g : Nat} (h : g ∉ [27, 35, 36, 40]) (E t u : Nat) (σ : zS) : (fm_act E t u σ).1 g = σ.1 g := by
  simp only [List.mem_cons, List.not_mem_nil, or_false, not_or] at h
  unfold fm_act
  split
  · unfold fm_actD
    rw [zi_nf _ _ h.2.1, km_act1 h.1, zi_nf _ _ h.2.2.1]
  · rw [km_tell h.2.2.2, zi_nf _ _ h.2.2.1]
theorem km_end1 {g : Nat} (h : g ∉ [37, 36, 40]) (t u : Nat) (σ : zS) : (fm_end1 t u σ).1 g = σ.1 g := by
  simp only [List.mem_cons, List.not_mem_nil, or_false, not_or] at h
  unfold fm_end1
  split
  · rw [zit_k1 (step := fm_safe1) (fun _ _ => rfl), km_tell h.2.2, zi_nf _ _ h.2.1, zi_nf _ _ h.1]
  · rfl
theorem km_end2 {g : Nat} (h : g ≠ 27) (n b w : Nat) (σ : zS) : (fm_end2 n b w σ).1 g = σ.1 g :=
  zit_k1 (step := fm_end2u b w) (fun k τ => zi_nf _ _ h) n 0 σ
theorem km_end3 {g : Nat} (h : g ∉ [27, 35, 36, 40]) (E t u : Nat) (σ : zS) : (fm_end3 E t u σ).1 g = σ.1 g := by
  unfold fm_end3
  split
  · exact km_act h E t u σ
  · rfl
/-- what the reference keeps, as far as its walks need it -/
def InvM (E b t : Nat) (σ : zS) : Prop := σ.1 34 0 = nI E ∧ (∀ e, e < E → σ.1 30 e = 1 → zin (σ.1 33 e) 16) ∧ (∀ e, e < E → σ.1 30 e = 0 → zin (σ.1 33 e) 32) ∧ σ.1 26 0 = nI b ∧ σ.1 41 0 = nI t
theorem InvM_of {E b t : Nat} {σ τ : zS} (h : InvM E b t σ) (h34 : τ.1 34 = σ.1 34) (h30 : τ.1 30 = σ.1 30) (h33 : τ.1 33 = σ.1 33) (h26 : τ.1 26 = σ.1 26) (h41 : τ.1 41 = σ.1 41) : InvM E b t τ := by
  unfold InvM
  rw [h34, h30, h33, h26, h41]
  exact h
theorem InvM_act {E b t u : Nat} {σ : zS} (h : InvM E b t σ) : InvM E b t (fm_act E t u σ) := InvM_of h (km_act (by decide) _ _ _ _) (km_act (by decide) _ _ _ _) (km_act (by decide) _ _ _ _) (km_act (by decide) _ _ _ _) (km_act (by decide) _ _ _ _)
theorem InvM_end1 {E b t t1 u : Nat} {σ : zS} (h : InvM E b t σ) : InvM E b t (fm_end1 t1 u σ) := InvM_of h (km_end1 (by decide) _ _ _) (km_end1 (by decide) _ _ _) (km_end1 (by decide) _ _ _) (km_end1 (by decide) _ _ _) (km_end1 (by decide) _ _ _)
theorem InvM_end2 {n E b t b1 w : Nat} {σ : zS} (h : InvM E b t σ) : InvM E b t (fm_end2 n b1 w σ) := InvM_of h (km_end2 (by decide) _ _ _ _) (km_end2 (by decide) _ _ _ _) (km_end2 (by decide) _ _ _ _) (km_end2 (by decide) _ _ _ _) (km_end2 (by decide) _ _ _ _)
theorem InvM_turn {E b t u : Nat} {σ : zS} (h : InvM E b t σ) : InvM E b (t + 1) (fm_turn σ E t u) := by
  refine ⟨?_, ?_, ?_, ?_, km_turn41 _ _ _ _⟩
  · rw [km_turn (by decide)]; exact h.1
  · intro e he q
    rw [km_turn (g := 33) (by decide)]
    rcases km_turn30 σ E t u e with z | z
    · rw [z] at q; exact absurd q (by decide)
    · exact h.2.1 e he (by rw [← z]; exact q)
  · intro e he q
    rw [km_turn (g := 33) (by decide)]
    rcases km_turn30 σ E t u e with z | z
    · rw [z] at q; exact absurd q (by decide)
    · exact h.2.2.1 e he (by rw [← z]; exact q)
  · rw [km_turn (by decide)]; exact h.2.2.2.1
theorem fm_cl_congr {σ τ : zS} (h : σ.1 43 = τ.1 43) : ∀ (c k : Nat), fm_cl σ c k = fm_cl τ c k
  | 0, _ => rfl
  | c + 1, k => by unfold fm_cl; rw [h, fm_cl_congr h c]
theorem fm_cl_le (σ : zS) : ∀ (c k : Nat), fm_cl σ c k ≤ c
  | 0, _ => Nat.le_refl _
  | c + 1, k => by
    unfold fm_cl
    have := fm_cl_le σ c (k + 1)
    split <;> omega
theorem fm_cl_below (σ : zS) {a : Nat} {v : Int32} : ∀ (c k : Nat), a < k → fm_cl (zi σ 43 a v) c k = fm_cl σ c k
  | 0, _, _ => rfl
  | c + 1, k, h => by
    unfold fm_cl
    rw [zi_ni _ _ (by omega), fm_cl_below σ c (k + 1) (by omega)]
theorem fm_who_in (σ : zS) : ∀ (c k q : Nat), q < fm_cl σ c k → k ≤ fm_who σ c k q ∧ fm_who σ c k q < k + c
  | 0, _, _, h => absurd h (Nat.not_lt_zero _)
  | c + 1, k, q, h => by
    unfold fm_who
    split
    · omega
    · rename_i hc
      have h2 : (if σ.1 43 k = 0 then q else q - 1) < fm_cl σ c (k + 1) := by
        unfold fm_cl at h
        by_cases e : σ.1 43 k = 0
        · rw [if_pos e] at h ⊢; omega
        · rw [if_neg e] at h ⊢
          have : ¬ q ≤ 0 := fun z => hc ⟨e, z⟩
          omega
      have := fm_who_in σ c (k + 1) _ h2
      omega
theorem fm_cl_who (σ : zS) : ∀ (c k q : Nat), q < fm_cl σ c k → fm_cl (zi σ 43 (fm_who σ c k q) 0) c k + 1 = fm_cl σ c k
  | 0, _, _, h => absurd h (Nat.not_lt_zero _)
  | c + 1, k, q, h => by
    by_cases hc : ¬ σ.1 43 k = 0 ∧ q ≤ 0
    · have ew : fm_who σ (c + 1) k q = k := if_pos hc
      rw [ew]
      show (if (zi σ 43 k 0).1 43 k = 0 then 0 else 1) + fm_cl (zi σ 43 k 0) c (k + 1) + 1 = (if σ.1 43 k = 0 then 0 else 1) + fm_cl σ c (k + 1)
      rw [zi_eq, if_pos rfl, if_neg hc.1, fm_cl_below σ c (k + 1) (by omega)]
      omega
    · have ew : fm_who σ (c + 1) k q = fm_who σ c (k + 1) (if σ.1 43 k = 0 then q else q - 1) := if_neg hc
      have h2 : (if σ.1 43 k = 0 then q else q - 1) < fm_cl σ c (k + 1) := by
        have h : q < (if σ.1 43 k = 0 then 0 else 1) + fm_cl σ c (k + 1) := h
        by_cases e : σ.1 43 k = 0
        · rw [if_pos e] at h ⊢; omega
        · rw [if_neg e] at h ⊢
          have : ¬ q ≤ 0 := fun z => hc ⟨e, z⟩
          omega
      have hw := fm_who_in σ c (k + 1) _ h2
      have ih := fm_cl_who σ c (k + 1) _ h2
      rw [ew]
      show (if (zi σ 43 (fm_who σ c (k + 1) (if σ.1 43 k = 0 then q else q - 1)) 0).1 43 k = 0 then 0 else 1) + fm_cl (zi σ 43 (fm_who σ c (k + 1) (if σ.1 43 k = 0 then q else q - 1)) 0) c (k + 1) + 1 = (if σ.1 43 k = 0 then 0 else 1) + fm_cl σ c (k + 1)
      rw [zi_ni _ _ (by omega)]
      omega
theorem fm_ended_congr {σ τ : zS} (h31 : σ.1 31 = τ.1 31) (h35 : σ.1 35 = τ.1 35) (h32 : σ.1 32 = τ.1 32) (u : Nat) : ∀ (c k : Nat) (b : Bool), fm_ended σ u c k b = fm_ended τ u c k b
  | 0, _, _ => rfl
  | c + 1, k, b => by unfold fm_ended; rw [h31, h35, h32, fm_ended_congr h31 h35 h32 u c]
theorem fm_goes_congr {σ τ : zS} (h31 : σ.1 31 = τ.1 31) (h35 : σ.1 35 = τ.1 35) (h32 : σ.1 32 = τ.1 32) (h25 : σ.1 25 = τ.1 25) (h37 : σ.1 37 = τ.1 37) (E u : Nat) : fm_goes σ E u = fm_goes τ E u := by
  unfold fm_goes
  rw [fm_ended_congr h31 h35 h32, h25, h37]
/-- how many go among c from k on -/
def fm_gn (σ : zS) (E : Nat) : Nat → Nat → Nat
  | 0, _ => 0
  | c + 1, k => (if fm_goes σ E k = true then 1 else 0) + fm_gn σ E c (k + 1)
theorem fm_gn_congr {E : Nat} {σ τ : zS} (h : ∀ u, fm_goes σ E u = fm_goes τ E u) : ∀ (c k : Nat), fm_gn σ E c k = fm_gn τ E c k
  | 0, _ => rfl
  | c + 1, k => by unfold fm_gn; rw [h, fm_gn_congr h c]
theorem fm_tk_goes (σ : zS) (E a : Nat) (v : Int32) (u : Nat) : fm_goes (zi σ 42 a v) E u = fm_goes σ E u := fm_goes_congr (σ := zi σ 42 a v) (τ := σ) rfl rfl rfl rfl rfl E u
theorem fm_tk_facts (E : Nat) : ∀ (c k m : Nat) (σ : zS), (fm_tk E c k m σ).1 = m + fm_gn σ E c k ∧ (∀ g, g ≠ 42 → (fm_tk E c k m σ).2.1 g = σ.1 g) ∧ (fm_tk E c k m σ).2.2 = σ.2 ∧ (∀ u, u < k → (fm_tk E c k m σ).2.1 42 u = σ.1 42 u) ∧ ∀ u, k ≤ u → u < k + c → (fm_tk E c k m σ).2.1 42 u = zb (fm_goes σ E u)
  | 0, k, m, σ => ⟨rfl, fun _ _ => rfl, rfl, fun _ _ => rfl, fun u h1 h2 => absurd h2 (by omega)⟩
  | c + 1, k, m, σ => by
    obtain ⟨h1, h2, h3, h4, h5⟩ := fm_tk_facts E c (k + 1) (if fm_goes σ E k = true then m + 1 else m) (zi σ 42 k (zb (fm_goes σ E k)))
    have hg : fm_gn (zi σ 42 k (zb (fm_goes σ E k))) E c (k + 1) = fm_gn σ E c (k + 1) := fm_gn_congr (fun u => fm_tk_goes σ E k _ u) c (k + 1)
    refine ⟨?_, fun g hg => (h2 g hg).trans (zi_nf _ _ hg), h3, fun u hu => ?_, fun u hu1 hu2 => ?_⟩
    · show (fm_tk E c (k + 1) _ _).1 = m + ((if fm_goes σ E k = true then 1 else 0) + fm_gn σ E c (k + 1))
      rw [h1, hg]
      split <;> omega
    · show (fm_tk E c (k + 1) _ _).2.1 42 u = σ.1 42 u
      rw [h4 u (by omega), zi_ni _ _ (by omega)]
    · show (fm_tk E c (k + 1) _ _).2.1 42 u = zb (fm_goes σ E u)
      by_cases e : u = k
      · subst e
        rw [h4 u (by omega), zi_eq]
      · rw [h5 u (by omega) (by omega), fm_tk_goes]
theorem fm_left_facts (n : Nat) (σ : zS) (hb : ∀ u, u < n → ∃ b : Bool, σ.1 42 u = zb b) : (∀ g, g ≠ 43 → (zit fm_left1 n 0 σ).1 g = σ.1 g) ∧ (zit fm_left1 n 0 σ).2 = σ.2 ∧ ∀ u, u < n → (zit fm_left1 n 0 σ).1 43 u = σ.1 42 u := by
  refine zit_inv (step := fm_left1) (e := n) (fun k τ => (∀ g, g ≠ 43 → τ.1 g = σ.1 g) ∧ τ.2 = σ.2 ∧ ∀ u, u < k → τ.1 43 u = σ.1 42 u) ?_ n 0 σ (by omega) ⟨fun _ _ => rfl, rfl, fun u h => absurd h (Nat.not_lt_zero u)⟩
  intro k τ hk hP
  refine ⟨fun g hg => (zi_nf _ _ hg).trans (hP.1 g hg), hP.2.1, fun u hu => ?_⟩
  unfold fm_left1
  by_cases e : u = k
  · subst e
    rw [zi_eq, hP.1 42 (by decide)]
    obtain ⟨b, hb⟩ := hb u hk
    rw [hb, zb_vnar]
  · rw [zi_ni _ _ e]
    exact hP.2.2 u (by omega)
theorem fm_cl_gn {σ τ : zS} (E : Nat) : ∀ (c k : Nat), (∀ u, k ≤ u → u < k + c → τ.1 43 u = zb (fm_goes σ E u)) → fm_cl τ c k = fm_gn σ E c k
  | 0, _, _ => rfl
  | c + 1, k, h => by
    unfold fm_cl fm_gn
    rw [h k (by omega) (by omega), fm_cl_gn E c (k + 1) (fun u h1 h2 => h u (by omega) (by omega))]
    cases fm_goes σ E k <;> rfl
theorem fm_left_cl (n E : Nat) (σ : zS) : fm_cl (zit fm_left1 n 0 (fm_tk E n 0 0 σ).2) n 0 = (fm_tk E n 0 0 σ).1 := by
  obtain ⟨h1, h2, h3, h4, h5⟩ := fm_tk_facts E n 0 0 σ
  obtain ⟨k1, k2, k3⟩ := fm_left_facts n (fm_tk E n 0 0 σ).2 (fun u hu => ⟨_, h5 u (by omega) (by omega)⟩)
  rw [h1, Nat.zero_add]
  exact fm_cl_gn E n 0 (fun u _ hu => by rw [k3 u (by omega), h5 u (by omega) (by omega)])
theorem fm_gn_le (σ : zS) (E : Nat) : ∀ (c k : Nat), fm_gn σ E c k ≤ c
  | 0, _ => Nat.le_refl _
  | c + 1, k => by
    unfold fm_gn
    have := fm_gn_le σ E c (k + 1)
    split <;> omega
