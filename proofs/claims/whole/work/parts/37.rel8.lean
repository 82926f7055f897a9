/-! the end of a second in the class -/
theorem makeSafe_facts (σ : zS) (u : Nat) : (∀ g, g ≠ 2 → (fx_makeSafe σ u).2 g = σ.2 g) ∧ ∀ j, (j / 4 = u → (fx_makeSafe σ u).2 2 j = σ.2 3 j) ∧ (¬ j / 4 = u → (fx_makeSafe σ u).2 2 j = σ.2 2 j) := by
  obtain ⟨h1, h2, h3, -⟩ := safe1_facts 2 3 (by decide) fx_safe1 (fun _ _ => rfl) 4 (u * 4) σ
  exact ⟨h3, fun j => ⟨fun q => h1 j (by omega) (by omega), fun q => h2 j (by omega)⟩⟩
def HoldF (x : Int32) (X : zS) (k : Nat) (τ : zS) : Prop := (∀ g, g ∉ [8, 2, 3] → τ.1 g = X.1 g) ∧ (∀ g, g ≠ 2 → τ.2 g = X.2 g) ∧ (∀ u, ((u < k ∧ X.1 7 u = 2) → τ.1 2 u = 2 ∧ τ.1 3 u = x) ∧ (¬ (u < k ∧ X.1 7 u = 2) → τ.1 2 u = X.1 2 u ∧ τ.1 3 u = X.1 3 u)) ∧
  (∀ e, ((∃ u, u < k ∧ X.1 7 u = 2 ∧ tn (X.1 4 u) = e) → τ.1 8 e = 3) ∧ (¬ (∃ u, u < k ∧ X.1 7 u = 2 ∧ tn (X.1 4 u) = e) → τ.1 8 e = X.1 8 e)) ∧
  ∀ j, ((j / 4 < k ∧ X.1 7 (j / 4) = 2) → τ.2 2 j = X.2 3 j) ∧ (¬ (j / 4 < k ∧ X.1 7 (j / 4) = 2) → τ.2 2 j = X.2 2 j)
theorem hold_facts (n : Nat) (x : Int32) (X : zS) : HoldF x X n (fx_hold n x X) := by
  refine zit_inv (step := fx_hold1 x) (e := n) (HoldF x X) ?_ n 0 X (by omega) ⟨fun _ _ => rfl, fun _ _ => rfl, fun u => ⟨fun z => absurd z.1 (Nat.not_lt_zero u), fun _ => ⟨rfl, rfl⟩⟩, fun e => ⟨fun ⟨u, hu, _⟩ => absurd hu (Nat.not_lt_zero u), fun _ => rfl⟩, fun j => ⟨fun z => absurd z.1 (Nat.not_lt_zero _), fun _ => rfl⟩⟩
  intro k τ hk ⟨h1, h2, h3, h4, h5⟩
  unfold fx_hold1
  rw [h1 7 (by decide), h1 4 (by decide)]
  by_cases q : X.1 7 k = 2
  · rw [if_pos q]
    obtain ⟨s1, s2⟩ := makeSafe_facts (zi (zi (zi τ 8 (tn (X.1 4 k)) 3) 2 k 2) 3 k x) k
    refine ⟨fun g hg => ?_, fun g hg => (s1 g hg).trans (h2 g hg), fun u => ?_, fun e => ?_, fun j => ?_⟩
    · have hg2 := hg
      simp only [List.mem_cons, List.not_mem_nil, or_false, not_or] at hg2
      rw [fx_makeSafe_1, zi_nf _ _ hg2.2.2, zi_nf _ _ hg2.2.1, zi_nf _ _ hg2.1, h1 g hg]
    · rw [fx_makeSafe_1]
      by_cases e : u = k
      · subst e
        rw [zi_eq, zi_nf _ _ (by decide), zi_eq]
        exact ⟨fun _ => ⟨rfl, rfl⟩, fun z => absurd ⟨by omega, q⟩ z⟩
      · rw [zi_nf (f := 3) (g := 2) _ _ (by decide), zi_ni _ _ e, zi_ni _ _ e, zi_nf (f := 8) (g := 2) _ _ (by decide), zi_nf (f := 2) (g := 3) _ _ (by decide), zi_nf (f := 8) (g := 3) _ _ (by decide)]
        exact ⟨fun z => (h3 u).1 ⟨by omega, z.2⟩, fun z => (h3 u).2 (fun w => z ⟨by omega, w.2⟩)⟩
    · rw [fx_makeSafe_1, zi_nf _ _ (by decide), zi_nf _ _ (by decide)]
      by_cases z : e = tn (X.1 4 k)
      · subst z
        rw [zi_eq]
        exact ⟨fun _ => rfl, fun w => absurd ⟨k, by omega, q, rfl⟩ w⟩
      · rw [zi_ni _ _ z]
        refine ⟨fun ⟨u, u1, u2, u3⟩ => (h4 e).1 ⟨u, ?_, u2, u3⟩, fun w => (h4 e).2 (fun ⟨u, u1, u2⟩ => w ⟨u, by omega, u2⟩)⟩
        by_cases c : u = k
        · subst c; exact absurd u3.symm z
        · omega
    · obtain ⟨c1, c2⟩ := s2 j
      by_cases c : j / 4 = k
      · rw [c1 c]
        have e3 : (zi (zi (zi τ 8 (tn (X.1 4 k)) 3) 2 k 2) 3 k x).2 3 j = X.2 3 j := by
          show τ.2 3 j = _
          rw [h2 3 (by decide)]
        rw [e3]
        exact ⟨fun _ => rfl, fun z => absurd ⟨by omega, by rw [c]; exact q⟩ z⟩
      · rw [c2 c]
        show (_ → τ.2 2 j = _) ∧ (_ → τ.2 2 j = _)
        exact ⟨fun z => (h5 j).1 ⟨by omega, z.2⟩, fun z => (h5 j).2 (fun w => z ⟨by omega, w.2⟩)⟩
  · rw [if_neg q]
    refine ⟨h1, h2, fun u => ⟨fun z => (h3 u).1 ⟨?_, z.2⟩, fun z => (h3 u).2 (fun w => z ⟨by omega, w.2⟩)⟩, fun e => ⟨fun ⟨u, u1, u2, u3⟩ => (h4 e).1 ⟨u, ?_, u2, u3⟩, fun z => (h4 e).2 (fun ⟨u, u1, u2⟩ => z ⟨u, by omega, u2⟩)⟩, fun j => ⟨fun z => (h5 j).1 ⟨?_, z.2⟩, fun z => (h5 j).2 (fun w => z ⟨by omega, w.2⟩)⟩⟩
    · by_cases c : u = k
      · subst c; exact absurd z.2 q
      · omega
    · by_cases c : u = k
      · subst c; exact absurd u2 q
      · omega
    · by_cases c : j / 4 = k
      · rw [c] at z; exact absurd z.2 q
      · omega
theorem least_congr {σ τ : zS} (h5 : σ.1 5 = τ.1 5) (h6 : σ.1 6 = τ.1 6) (h7 : σ.1 7 = τ.1 7) (w : Int32) : ∀ (c k : Nat), fx_least σ w c k = fx_least τ w c k
  | 0, _ => rfl
  | c + 1, k => by
    unfold fx_least fx_asked
    rw [h5, h6, h7, least_congr h5 h6 h7 w c]
theorem grant_facts (n : Nat) (bb : Int32) (H : zS) : (∀ g, g ≠ 19 → (fx_grant n bb H).1 g = H.1 g) ∧ (fx_grant n bb H).2 = H.2 ∧ ∀ w, w < 16 → ((H.1 19 w = -1 ∧ fx_hasWay bb (nI w) = false) → (fx_grant n bb H).1 19 w = fx_least H (nI w) n 0) ∧ (¬ (H.1 19 w = -1 ∧ fx_hasWay bb (nI w) = false) → (fx_grant n bb H).1 19 w = H.1 19 w) := by
  have key : (∀ g, g ≠ 19 → (zit (fx_grant1 n bb) 16 0 H).1 g = H.1 g) ∧ (zit (fx_grant1 n bb) 16 0 H).2 = H.2 ∧ ∀ w, ((w < 16 ∧ H.1 19 w = -1 ∧ fx_hasWay bb (nI w) = false) → (zit (fx_grant1 n bb) 16 0 H).1 19 w = fx_least H (nI w) n 0) ∧ (¬ (w < 16 ∧ H.1 19 w = -1 ∧ fx_hasWay bb (nI w) = false) → (zit (fx_grant1 n bb) 16 0 H).1 19 w = H.1 19 w) := by
    refine zit_inv (step := fx_grant1 n bb) (e := 16) (fun k τ => (∀ g, g ≠ 19 → τ.1 g = H.1 g) ∧ τ.2 = H.2 ∧ ∀ w, ((w < k ∧ H.1 19 w = -1 ∧ fx_hasWay bb (nI w) = false) → τ.1 19 w = fx_least H (nI w) n 0) ∧ (¬ (w < k ∧ H.1 19 w = -1 ∧ fx_hasWay bb (nI w) = false) → τ.1 19 w = H.1 19 w)) ?_ 16 0 H (by omega) ⟨fun _ _ => rfl, rfl, fun w => ⟨fun z => absurd z.1 (Nat.not_lt_zero w), fun _ => rfl⟩⟩
    intro k τ hk ⟨h1, h2, h3⟩
    unfold fx_grant1
    have ek : τ.1 19 k = H.1 19 k := (h3 k).2 (fun z => absurd z.1 (Nat.lt_irrefl k))
    rw [ek, least_congr (h1 5 (by decide)) (h1 6 (by decide)) (h1 7 (by decide))]
    by_cases q : H.1 19 k = -1 ∧ fx_hasWay bb (nI k) = false
    · rw [if_pos q]
      refine ⟨fun g hg => (zi_nf _ _ hg).trans (h1 g hg), h2, fun w => ?_⟩
      by_cases e : w = k
      · subst e
        rw [zi_eq]
        exact ⟨fun _ => rfl, fun z => absurd ⟨by omega, q⟩ z⟩
      · rw [zi_ni _ _ e]
        exact ⟨fun z => (h3 w).1 ⟨by omega, z.2⟩, fun z => (h3 w).2 (fun y => z ⟨by omega, y.2⟩)⟩
    · rw [if_neg q]
      refine ⟨h1, h2, fun w => ⟨fun z => (h3 w).1 ⟨?_, z.2⟩, fun z => (h3 w).2 (fun y => z ⟨by omega, y.2⟩)⟩⟩
      by_cases e : w = k
      · subst e; exact absurd z.2 q
      · omega
  unfold fx_grant
  exact ⟨key.1, key.2.1, fun w hw => ⟨fun z => (key.2.2 w).1 ⟨hw, z⟩, fun z => (key.2.2 w).2 (fun y => z y.2)⟩⟩
theorem ownsAll_iff (σ : zS) (u b : Int32) : ∀ (c k : Nat), fx_ownsAll σ u b c k = true ↔ ∀ w, k ≤ w → w < k + c → fx_hasWay b (nI w) = true → σ.1 19 w = u
  | 0, k => ⟨fun _ w h1 h2 => absurd h2 (by omega), fun _ => rfl⟩
  | c + 1, k => by
    unfold fx_ownsAll
    by_cases q : fx_hasWay b (nI k) = true ∧ ¬ σ.1 19 k = u
    · rw [if_pos q]
      exact ⟨fun z => absurd z (by decide), fun z => absurd (z k (by omega) (by omega) q.1) q.2⟩
    · rw [if_neg q, ownsAll_iff σ u b c (k + 1)]
      constructor
      · intro h w h1 h2 h3
        by_cases e : w = k
        · subst e
          by_cases z : σ.1 19 w = u
          · exact z
          · exact absurd ⟨h3, z⟩ q
        · exact h w (by omega) (by omega) h3
      · exact fun h w h1 h2 h3 => h w (by omega) (by omega) h3
theorem ownsAll_congr {σ τ : zS} (h : σ.1 19 = τ.1 19) (u b : Int32) : ∀ (c k : Nat), fx_ownsAll σ u b c k = fx_ownsAll τ u b c k
  | 0, _ => rfl
  | c + 1, k => by unfold fx_ownsAll; rw [h, ownsAll_congr h u b c]
def cDone (G : zS) (u : Nat) : Prop := G.1 7 u = 1 ∧ fx_ownsAll G (nI u) (fx_asked G u) 16 0 = true
theorem set1_facts (n : Nat) (G : zS) : (∀ g, g ≠ 7 → (zit fx_set1 n 0 G).1 g = G.1 g) ∧ (zit fx_set1 n 0 G).2 = G.2 ∧ ∀ u, u < n → (cDone G u → (zit fx_set1 n 0 G).1 7 u = 0) ∧ (¬ cDone G u → (zit fx_set1 n 0 G).1 7 u = G.1 7 u) := by
  have key : (∀ g, g ≠ 7 → (zit fx_set1 n 0 G).1 g = G.1 g) ∧ (zit fx_set1 n 0 G).2 = G.2 ∧ ∀ u, ((u < n ∧ cDone G u) → (zit fx_set1 n 0 G).1 7 u = 0) ∧ (¬ (u < n ∧ cDone G u) → (zit fx_set1 n 0 G).1 7 u = G.1 7 u) := by
    refine zit_inv (step := fx_set1) (e := n) (fun k τ => (∀ g, g ≠ 7 → τ.1 g = G.1 g) ∧ τ.2 = G.2 ∧ ∀ u, ((u < k ∧ cDone G u) → τ.1 7 u = 0) ∧ (¬ (u < k ∧ cDone G u) → τ.1 7 u = G.1 7 u)) ?_ n 0 G (by omega) ⟨fun _ _ => rfl, rfl, fun u => ⟨fun z => absurd z.1 (Nat.not_lt_zero u), fun _ => rfl⟩⟩
    intro k τ hk ⟨h1, h2, h3⟩
    have ek : τ.1 7 k = G.1 7 k := (h3 k).2 (fun z => absurd z.1 (Nat.lt_irrefl k))
    have ea : fx_asked τ k = fx_asked G k := by unfold fx_asked; rw [h1 5 (by decide), h1 6 (by decide)]
    unfold fx_set1
    rw [ek, ea, ownsAll_congr (h1 19 (by decide))]
    by_cases q : cDone G k
    · rw [if_pos (show G.1 7 k = 1 ∧ fx_ownsAll G (nI k) (fx_asked G k) 16 0 = true from q)]
      refine ⟨fun g hg => (zi_nf _ _ hg).trans (h1 g hg), h2, fun u => ?_⟩
      by_cases e : u = k
      · subst e
        rw [zi_eq]
        exact ⟨fun _ => rfl, fun z => absurd ⟨by omega, q⟩ z⟩
      · rw [zi_ni _ _ e]
        exact ⟨fun z => (h3 u).1 ⟨by omega, z.2⟩, fun z => (h3 u).2 (fun y => z ⟨by omega, y.2⟩)⟩
    · rw [if_neg (show ¬ (G.1 7 k = 1 ∧ fx_ownsAll G (nI k) (fx_asked G k) 16 0 = true) from q)]
      refine ⟨h1, h2, fun u => ⟨fun z => (h3 u).1 ⟨?_, z.2⟩, fun z => (h3 u).2 (fun y => z ⟨by omega, y.2⟩)⟩⟩
      by_cases e : u = k
      · subst e; exact absurd z.2 q
      · omega
  exact ⟨key.1, key.2.1, fun u hu => ⟨fun z => (key.2.2 u).1 ⟨hu, z⟩, fun z => (key.2.2 u).2 (fun y => z y.2)⟩⟩
/-- the last of the first k with p, by its value -/
def lastv (p : Nat → Bool) (v : Nat → Int64) (d : Int64) : Nat → Int64
  | 0 => d
  | k + 1 => if p k = true then v k else lastv p v d k
theorem lastv_congr {p q : Nat → Bool} {v w : Nat → Int64} {d f : Int64} (hd : d = f) : ∀ k, (∀ i, i < k → p i = q i) → (∀ i, i < k → v i = w i) → lastv p v d k = lastv q w f k
  | 0, _, _ => hd
  | k + 1, h1, h2 => by
    unfold lastv
    rw [h1 k (by omega), h2 k (by omega), lastv_congr hd k (fun i hi => h1 i (by omega)) (fun i hi => h2 i (by omega))]
theorem lastv_none {p : Nat → Bool} {v : Nat → Int64} {d : Int64} : ∀ k, (∀ i, i < k → p i = false) → lastv p v d k = d
  | 0, _ => rfl
  | k + 1, h => by
    unfold lastv
    rw [h k (by omega), if_neg (by decide), lastv_none k (fun i hi => h i (by omega))]
def stepP (S : zS) (j e : Nat) : Bool := decide (S.1 8 e = 0 ∧ S.1 7 (tn (S.1 9 e)) = 0 ∧ S.1 10 e = S.1 0 (tn (S.1 9 e)) ∧ tn (S.1 11 e) = j)
theorem steps_facts (E : Nat) (S : zS) : (∀ g, g ≠ 2 → (fx_doSteps E S).2 g = S.2 g) ∧ ∀ j, (fx_doSteps E S).2 2 j = lastv (stepP S j) (S.2 0) (S.2 2 j) E := by
  have key : (∀ g, g ≠ 2 → (zit fx_steps1 E 0 S).2 g = S.2 g) ∧ (zit fx_steps1 E 0 S).1 = S.1 ∧ ∀ j, (zit fx_steps1 E 0 S).2 2 j = lastv (stepP S j) (S.2 0) (S.2 2 j) E := by
    refine zit_inv (step := fx_steps1) (e := E) (fun k τ => (∀ g, g ≠ 2 → τ.2 g = S.2 g) ∧ τ.1 = S.1 ∧ ∀ j, τ.2 2 j = lastv (stepP S j) (S.2 0) (S.2 2 j) k) ?_ E 0 S (by omega) ⟨fun _ _ => rfl, rfl, fun _ => rfl⟩
    intro k τ hk ⟨h1, h2, h3⟩
    unfold fx_steps1
    rw [h2, h1 0 (by decide)]
    by_cases q : S.1 8 k = 0 ∧ S.1 7 (tn (S.1 9 k)) = 0 ∧ S.1 10 k = S.1 0 (tn (S.1 9 k))
    · rw [if_pos q]
      refine ⟨fun g hg => (zl_nf _ _ hg).trans (h1 g hg), h2, fun j => ?_⟩
      show _ = if stepP S j k = true then S.2 0 k else lastv (stepP S j) (S.2 0) (S.2 2 j) k
      by_cases e : j = tn (S.1 11 k)
      · subst e
        rw [zl_eq, if_pos (show stepP S (tn (S.1 11 k)) k = true from decide_eq_true ⟨q.1, q.2.1, q.2.2, rfl⟩)]
      · rw [zl_ni _ _ e, if_neg (fun z => e (of_decide_eq_true z).2.2.2.symm)]
        exact h3 j
    · rw [if_neg q]
      refine ⟨h1, h2, fun j => ?_⟩
      show _ = if stepP S j k = true then S.2 0 k else lastv (stepP S j) (S.2 0) (S.2 2 j) k
      rw [if_neg (fun z => q ⟨(of_decide_eq_true z).1, (of_decide_eq_true z).2.1, (of_decide_eq_true z).2.2.1⟩)]
      exact h3 j
  unfold fx_doSteps
  exact ⟨key.1, key.2.2⟩
theorem give_facts (σ : zS) (u b : Int32) : (fx_giveBack σ u b).2 = σ.2 ∧ ∀ w, w < 16 → ((fx_hasWay b (nI w) = true ∧ σ.1 19 w = u) → (fx_giveBack σ u b).1 19 w = -1) ∧ (¬ (fx_hasWay b (nI w) = true ∧ σ.1 19 w = u) → (fx_giveBack σ u b).1 19 w = σ.1 19 w) := by
  have key : (zit (fx_give1 u b) 16 0 σ).2 = σ.2 ∧ ∀ w, ((w < 16 ∧ fx_hasWay b (nI w) = true ∧ σ.1 19 w = u) → (zit (fx_give1 u b) 16 0 σ).1 19 w = -1) ∧ (¬ (w < 16 ∧ fx_hasWay b (nI w) = true ∧ σ.1 19 w = u) → (zit (fx_give1 u b) 16 0 σ).1 19 w = σ.1 19 w) := by
    refine zit_inv (step := fx_give1 u b) (e := 16) (fun k τ => τ.2 = σ.2 ∧ ∀ w, ((w < k ∧ fx_hasWay b (nI w) = true ∧ σ.1 19 w = u) → τ.1 19 w = -1) ∧ (¬ (w < k ∧ fx_hasWay b (nI w) = true ∧ σ.1 19 w = u) → τ.1 19 w = σ.1 19 w)) ?_ 16 0 σ (by omega) ⟨rfl, fun w => ⟨fun z => absurd z.1 (Nat.not_lt_zero w), fun _ => rfl⟩⟩
    intro k τ hk ⟨h2, h3⟩
    have ek : τ.1 19 k = σ.1 19 k := (h3 k).2 (fun z => absurd z.1 (Nat.lt_irrefl k))
    unfold fx_give1
    rw [ek]
    by_cases q : fx_hasWay b (nI k) = true ∧ σ.1 19 k = u
    · rw [if_pos q]
      refine ⟨h2, fun w => ?_⟩
      by_cases e : w = k
      · subst e
        rw [zi_eq]
        exact ⟨fun _ => rfl, fun z => absurd ⟨by omega, q⟩ z⟩
      · rw [zi_ni _ _ e]
        exact ⟨fun z => (h3 w).1 ⟨by omega, z.2⟩, fun z => (h3 w).2 (fun y => z ⟨by omega, y.2⟩)⟩
    · rw [if_neg q]
      refine ⟨h2, fun w => ⟨fun z => (h3 w).1 ⟨?_, z.2⟩, fun z => (h3 w).2 (fun y => z ⟨by omega, y.2⟩)⟩⟩
      by_cases e : w = k
      · subst e; exact absurd z.2 q
      · omega
  unfold fx_giveBack
  exact ⟨key.1, fun w hw => ⟨fun z => (key.2 w).1 ⟨hw, z⟩, fun z => (key.2 w).2 (fun y => z y.2)⟩⟩
/-- a way that is given back by one of the first k -/
def cBack (S : zS) (k w : Nat) : Prop := ∃ v, v < k ∧ S.1 7 v = 0 ∧ fx_hasWay (fx_given S v) (nI w) = true ∧ S.1 19 w = nI v
def Set2F (S : zS) (k : Nat) (τ : zS) : Prop := (∀ g, g ∉ [19, 0, 2] → τ.1 g = S.1 g) ∧ τ.2 = S.2 ∧ (∀ w, w < 16 → (cBack S k w → τ.1 19 w = -1) ∧ (¬ cBack S k w → τ.1 19 w = S.1 19 w)) ∧
  ∀ u, ((u < k ∧ S.1 7 u = 0) → τ.1 0 u = S.1 0 u + 1 ∧ τ.1 2 u = 0) ∧ ((u < k ∧ S.1 7 u = 1) → τ.1 0 u = S.1 0 u ∧ τ.1 2 u = 1) ∧ (¬ (u < k ∧ (S.1 7 u = 0 ∨ S.1 7 u = 1)) → τ.1 0 u = S.1 0 u ∧ τ.1 2 u = S.1 2 u)
theorem set2_facts (n : Nat) (hn : n ≤ 8) (S : zS) : Set2F S n (zit fx_set2 n 0 S) := by
  refine zit_inv (step := fx_set2) (e := n) (Set2F S) ?_ n 0 S (by omega) ⟨fun _ _ => rfl, rfl, fun w _ => ⟨fun ⟨v, hv, _⟩ => absurd hv (Nat.not_lt_zero v), fun _ => rfl⟩, fun u => ⟨fun z => absurd z.1 (Nat.not_lt_zero u), fun z => absurd z.1 (Nat.not_lt_zero u), fun _ => ⟨rfl, rfl⟩⟩⟩
  intro k τ hk ⟨h1, h2, h3, h4⟩
  have hB : ∀ w, cBack S (k + 1) w ↔ (cBack S k w ∨ (S.1 7 k = 0 ∧ fx_hasWay (fx_given S k) (nI w) = true ∧ S.1 19 w = nI k)) := by
    intro w
    constructor
    · rintro ⟨v, v1, v2⟩
      by_cases e : v = k
      · subst e; exact Or.inr v2
      · exact Or.inl ⟨v, by omega, v2⟩
    · rintro (⟨v, v1, v2⟩ | q)
      · exact ⟨v, by omega, v2⟩
      · exact ⟨k, by omega, q⟩
  have e7 : τ.1 7 = S.1 7 := h1 7 (by decide)
  have eg : fx_given τ k = fx_given S k := by unfold fx_given; rw [h1 5 (by decide), h1 6 (by decide)]
  unfold fx_set2
  rw [e7, eg]
  by_cases q : S.1 7 k = 0
  · rw [if_pos q]
    obtain ⟨g1, g2⟩ := give_facts τ (nI k) (fx_given S k)
    have gk : ∀ g, g ≠ 19 → (fx_giveBack τ (nI k) (fx_given S k)).1 g = τ.1 g := fun g hg => kp_give hg τ (nI k) (fx_given S k)
    refine ⟨fun g hg => ?_, g1.trans h2, fun w hw => ?_, fun u => ?_⟩
    · have hg2 := hg
      simp only [List.mem_cons, List.not_mem_nil, or_false, not_or] at hg2
      rw [zi_nf _ _ hg2.2.2, zi_nf _ _ hg2.2.1, gk g hg2.1, h1 g hg]
    · rw [zi_nf _ _ (by decide), zi_nf _ _ (by decide), hB]
      obtain ⟨c1, c2⟩ := g2 w hw
      obtain ⟨d1, d2⟩ := h3 w hw
      by_cases z : cBack S k w
      · have e := d1 z
        have : ¬ (fx_hasWay (fx_given S k) (nI w) = true ∧ τ.1 19 w = nI k) := fun y => by
          rw [e] at y
          have := congrArg Int32.toInt y.2
          rw [nI_toInt (by omega), show (-1 : Int32).toInt = -1 from by decide] at this
          omega
        rw [c2 this, e]
        exact ⟨fun _ => rfl, fun y => absurd (Or.inl z) y⟩
      · have e := d2 z
        rw [e] at c1 c2
        exact ⟨fun y => c1 (by rcases y with y | y; exact absurd y z; exact y.2), fun y => c2 (fun w2 => y (Or.inr ⟨q, w2⟩))⟩
    · by_cases e : u = k
      · subst e
        rw [zi_eq, zi_nf _ _ (by decide), zi_eq, gk 0 (by decide)]
        have := (h4 u).2.2 (fun z => absurd z.1 (Nat.lt_irrefl u))
        rw [this.1]
        refine ⟨fun _ => ⟨rfl, rfl⟩, fun z => ?_, fun z => absurd ⟨by omega, Or.inl q⟩ z⟩
        rw [q] at z; exact absurd z.2 (by decide)
      · rw [zi_nf (f := 2) (g := 0) _ _ (by decide), zi_ni _ _ e, zi_ni _ _ e, zi_nf (f := 0) (g := 2) _ _ (by decide), gk 0 (by decide), gk 2 (by decide)]
        obtain ⟨a1, a2, a3⟩ := h4 u
        exact ⟨fun z => a1 ⟨by omega, z.2⟩, fun z => a2 ⟨by omega, z.2⟩, fun z => a3 (fun y => z ⟨by omega, y.2⟩)⟩
  · rw [if_neg q]
    have hB2 : ∀ w, cBack S (k + 1) w ↔ cBack S k w := fun w => (hB w).trans ⟨fun z => by rcases z with z | z; exact z; exact absurd z.1 q, Or.inl⟩
    by_cases r : S.1 7 k = 1
    · rw [if_pos r]
      refine ⟨fun g hg => ?_, h2, fun w hw => ?_, fun u => ?_⟩
      · exact (zi_nf _ _ (fun z => hg (by rw [z]; decide))).trans (h1 g hg)
      · rw [zi_nf _ _ (by decide), hB2]; exact h3 w hw
      · obtain ⟨a1, a2, a3⟩ := h4 u
        by_cases e : u = k
        · subst e
          rw [zi_eq, zi_nf _ _ (by decide)]
          have := a3 (fun z => absurd z.1 (Nat.lt_irrefl u))
          exact ⟨fun z => absurd z.2 q, fun _ => ⟨this.1, rfl⟩, fun z => absurd ⟨by omega, Or.inr r⟩ z⟩
        · rw [zi_ni _ _ e, zi_nf _ _ (by decide)]
          exact ⟨fun z => a1 ⟨by omega, z.2⟩, fun z => a2 ⟨by omega, z.2⟩, fun z => a3 (fun y => z ⟨by omega, y.2⟩)⟩
    · rw [if_neg r]
      refine ⟨h1, h2, fun w hw => by rw [hB2]; exact h3 w hw, fun u => ?_⟩
      obtain ⟨a1, a2, a3⟩ := h4 u
      by_cases e : u = k
      · subst e
        exact ⟨fun z => absurd z.2 q, fun z => absurd z.2 r, fun _ => a3 (fun z => absurd z.1 (Nat.lt_irrefl u))⟩
      · exact ⟨fun z => a1 ⟨by omega, z.2⟩, fun z => a2 ⟨by omega, z.2⟩, fun z => a3 (fun y => z ⟨by omega, y.2⟩)⟩
