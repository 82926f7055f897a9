/-! the end of a second in the reference -/
theorem nI_ne_m1 {k : Nat} (h : k < 2 ^ 31) : ¬ nI k = -1 := fun y => by
  have := congrArg Int32.toInt y
  rw [nI_toInt h, show (-1 : Int32).toInt = -1 from by decide] at this
  omega
theorem tell_facts (u : Nat) (x : Int32) (t0 : Nat) : ∀ (t : Nat) (σ : zS), t0 ≤ t → (∀ j, t0 ≤ j → j < t → σ.1 38 j = σ.1 26 0) → (t0 = 0 ∨ ¬ σ.1 38 (t0 - 1) = σ.1 26 0) → (fm_tell u x t σ).2 = σ.2 ∧ ∀ j, ((t0 ≤ j ∧ j < t ∧ σ.1 39 j = nI u) → (fm_tell u x t σ).1 40 j = x) ∧ (¬ (t0 ≤ j ∧ j < t ∧ σ.1 39 j = nI u) → (fm_tell u x t σ).1 40 j = σ.1 40 j)
  | 0, σ, _, _, _ => ⟨rfl, fun j => ⟨fun z => absurd z.2.1 (Nat.not_lt_zero j), fun _ => rfl⟩⟩
  | t + 1, σ, h0, h1, h2 => by
    by_cases e : t0 = t + 1
    · have hne : ¬ σ.1 38 t = σ.1 26 0 := by
        rcases h2 with q | q
        · omega
        · rw [e, Nat.add_sub_cancel] at q; exact q
      have ef : fm_tell u x (t + 1) σ = σ := by rw [fm_tell, if_neg hne]
      rw [ef]
      exact ⟨rfl, fun j => ⟨fun z => absurd z.2.1 (by omega), fun _ => rfl⟩⟩
    · have hc := h1 t (by omega) (by omega)
      have ef : fm_tell u x (t + 1) σ = fm_tell u x t (zi σ 40 t (if σ.1 39 t = nI u then x else σ.1 40 t)) := by rw [fm_tell, if_pos hc]
      obtain ⟨i1, i2⟩ := tell_facts u x t0 t (zi σ 40 t (if σ.1 39 t = nI u then x else σ.1 40 t)) (by omega) (fun j q1 q2 => h1 j q1 (by omega)) h2
      rw [ef]
      refine ⟨i1, fun j => ?_⟩
      obtain ⟨a1, a2⟩ := i2 j
      rw [zi_nf (f := 40) (g := 39) _ _ (by decide)] at a1 a2
      by_cases q : j = t
      · subst q
        rw [a2 (fun z => absurd z.2.1 (Nat.lt_irrefl j)), zi_eq]
        by_cases r : σ.1 39 j = nI u
        · rw [if_pos r]; exact ⟨fun _ => rfl, fun z => absurd ⟨by omega, by omega, r⟩ z⟩
        · rw [if_neg r]; exact ⟨fun z => absurd z.2.2 r, fun _ => rfl⟩
      · refine ⟨fun z => a1 ⟨z.1, by omega, z.2.2⟩, fun z => ?_⟩
        rw [a2 (fun y => z ⟨y.1, by omega, y.2.2⟩), zi_ni _ _ q]
def mThw (Y : zS) (u : Nat) : Prop := ¬ Y.1 42 u = 0 ∧ ¬ Y.1 44 u = 0
def mAct (Y : zS) (u : Nat) : Prop := ¬ Y.1 42 u = 0 ∧ Y.1 44 u = 0
def End1F (t0 t : Nat) (Y : zS) (k : Nat) (τ : zS) : Prop := (∀ g, g ∉ [37, 36, 40] → τ.1 g = Y.1 g) ∧ (∀ g, g ≠ 5 → τ.2 g = Y.2 g) ∧ (∀ u, ((u < k ∧ mThw Y u) → τ.1 37 u = Y.1 26 0 ∧ τ.1 36 u = 0) ∧ (¬ (u < k ∧ mThw Y u) → τ.1 37 u = Y.1 37 u ∧ τ.1 36 u = Y.1 36 u)) ∧
  (∀ j, ((t0 ≤ j ∧ j < t ∧ ∃ u, u < k ∧ mThw Y u ∧ Y.1 39 j = nI u) → τ.1 40 j = 2) ∧ (¬ (t0 ≤ j ∧ j < t ∧ ∃ u, u < k ∧ mThw Y u ∧ Y.1 39 j = nI u) → τ.1 40 j = Y.1 40 j)) ∧
  ∀ j, ((j / 4 < k ∧ mThw Y (j / 4)) → τ.2 5 j = Y.2 6 j) ∧ (¬ (j / 4 < k ∧ mThw Y (j / 4)) → τ.2 5 j = Y.2 5 j)
theorem end1_facts {n t0 t : Nat} {Y : zS} (ht : t0 ≤ t) (h38 : ∀ j, t0 ≤ j → j < t → Y.1 38 j = Y.1 26 0) (h0 : t0 = 0 ∨ ¬ Y.1 38 (t0 - 1) = Y.1 26 0) : End1F t0 t Y n (zit (fm_end1 t) n 0 Y) := by
  refine zit_inv (step := fm_end1 t) (e := n) (End1F t0 t Y) ?_ n 0 Y (by omega) ⟨fun _ _ => rfl, fun _ _ => rfl, fun u => ⟨fun z => absurd z.1 (Nat.not_lt_zero u), fun _ => ⟨rfl, rfl⟩⟩, fun j => ⟨fun ⟨_, _, u, hu, _⟩ => absurd hu (Nat.not_lt_zero u), fun _ => rfl⟩, fun j => ⟨fun z => absurd z.1 (Nat.not_lt_zero _), fun _ => rfl⟩⟩
  intro k τ hk ⟨h1, h2, h3, h4, h5⟩
  unfold fm_end1
  rw [h1 42 (by decide), h1 44 (by decide), h1 26 (by decide)]
  by_cases q : mThw Y k
  · rw [if_pos (show ¬ Y.1 42 k = 0 ∧ ¬ Y.1 44 k = 0 from q)]
    obtain ⟨σ0, hσ⟩ : ∃ σ0, σ0 = zi (zi τ 37 k (Y.1 26 0)) 36 k 0 := ⟨_, rfl⟩
    rw [← hσ]
    have k1 : ∀ g, g ∉ [37, 36] → σ0.1 g = τ.1 g := by
      intro g hg
      simp only [List.mem_cons, List.not_mem_nil, or_false, not_or] at hg
      rw [hσ, zi_nf _ _ hg.2, zi_nf _ _ hg.1]
    have k2 : σ0.2 = τ.2 := by rw [hσ]; rfl
    obtain ⟨t1, t2⟩ := tell_facts k 2 t0 t σ0 ht (fun j q1 q2 => by rw [k1 38 (by decide), k1 26 (by decide), h1 38 (by decide), h1 26 (by decide)]; exact h38 j q1 q2) (by rw [k1 38 (by decide), k1 26 (by decide), h1 38 (by decide), h1 26 (by decide)]; exact h0)
    obtain ⟨s1, s2, s3, s4⟩ := safe1_facts 5 6 (by decide) fm_safe1 (fun _ _ => rfl) 4 (4 * k) (fm_tell k 2 t σ0)
    refine ⟨fun g hg => ?_, fun g hg => ?_, fun u => ?_, fun j => ?_, fun j => ?_⟩
    · have hg2 := hg
      simp only [List.mem_cons, List.not_mem_nil, or_false, not_or] at hg2
      rw [s4, km_tell hg2.2.2, k1 g (by simp [hg2]), h1 g hg]
    · rw [s3 g hg, t1, k2, h2 g hg]
    · rw [s4, km_tell (by decide), km_tell (by decide), hσ]
      by_cases e : u = k
      · subst e
        rw [zi_eq, zi_nf _ _ (by decide), zi_eq]
        exact ⟨fun _ => ⟨rfl, rfl⟩, fun z => absurd ⟨by omega, q⟩ z⟩
      · rw [zi_nf (f := 36) (g := 37) _ _ (by decide), zi_ni _ _ e, zi_ni _ _ e, zi_nf (f := 37) (g := 36) _ _ (by decide)]
        exact ⟨fun z => (h3 u).1 ⟨by omega, z.2⟩, fun z => (h3 u).2 (fun y => z ⟨by omega, y.2⟩)⟩
    · rw [s4]
      obtain ⟨a1, a2⟩ := t2 j
      rw [k1 39 (by decide), h1 39 (by decide)] at a1 a2
      rw [k1 40 (by decide)] at a2
      by_cases e : t0 ≤ j ∧ j < t ∧ Y.1 39 j = nI k
      · rw [a1 e]
        exact ⟨fun _ => rfl, fun z => absurd ⟨e.1, e.2.1, k, by omega, q, e.2.2⟩ z⟩
      · rw [a2 e]
        refine ⟨fun ⟨z1, z2, u, u1, u2, u3⟩ => (h4 j).1 ⟨z1, z2, u, ?_, u2, u3⟩, fun z => (h4 j).2 (fun ⟨z1, z2, u, u1, u2⟩ => z ⟨z1, z2, u, by omega, u2⟩)⟩
        by_cases c : u = k
        · subst c; exact absurd ⟨z1, z2, u3⟩ e
        · omega
    · by_cases c : j / 4 = k
      · rw [s1 j (by omega) (by omega), t1, k2, h2 6 (by decide)]
        exact ⟨fun _ => rfl, fun z => absurd ⟨by omega, by rw [c]; exact q⟩ z⟩
      · rw [s2 j (by omega), t1, k2]
        exact ⟨fun z => (h5 j).1 ⟨by omega, z.2⟩, fun z => (h5 j).2 (fun w => z ⟨by omega, w.2⟩)⟩
  · rw [if_neg (show ¬ (¬ Y.1 42 k = 0 ∧ ¬ Y.1 44 k = 0) from q)]
    refine ⟨h1, h2, fun u => ⟨fun z => (h3 u).1 ⟨?_, z.2⟩, fun z => (h3 u).2 (fun w => z ⟨by omega, w.2⟩)⟩, fun j => ⟨fun ⟨z1, z2, u, u1, u2, u3⟩ => (h4 j).1 ⟨z1, z2, u, ?_, u2, u3⟩, fun z => (h4 j).2 (fun ⟨z1, z2, u, u1, u2⟩ => z ⟨z1, z2, u, by omega, u2⟩)⟩, fun j => ⟨fun z => (h5 j).1 ⟨?_, z.2⟩, fun z => (h5 j).2 (fun w => z ⟨by omega, w.2⟩)⟩⟩
    · by_cases c : u = k
      · subst c; exact absurd z.2 q
      · omega
    · by_cases c : u = k
      · subst c; exact absurd u2 q
      · omega
    · by_cases c : j / 4 = k
      · rw [c] at z; exact absurd z.2 q
      · omega
def mLeast (f : Nat → Bool) : Nat → Nat → Int32
  | 0, _ => -1
  | c + 1, k => if f k = true then nI k else mLeast f c (k + 1)
theorem mLeast_congr {f g : Nat → Bool} : ∀ (c k : Nat), (∀ i, k ≤ i → i < k + c → f i = g i) → mLeast f c k = mLeast g c k
  | 0, _, _ => rfl
  | c + 1, k, h => by
    unfold mLeast
    rw [h k (by omega) (by omega), mLeast_congr c (k + 1) (fun i h1 h2 => h i (by omega) (by omega))]
theorem least_mLeast (H : zS) (w : Int32) : ∀ (c k : Nat), fx_least H w c k = mLeast (fun k => decide (H.1 7 k = 1 ∧ fx_hasWay (fx_asked H k) w = true)) c k
  | 0, _ => rfl
  | c + 1, k => by
    unfold fx_least mLeast
    rw [least_mLeast H w c]
    by_cases q : H.1 7 k = 1 ∧ fx_hasWay (fx_asked H k) w = true
    · rw [if_pos q, if_pos (decide_eq_true q)]
    · rw [if_neg q, if_neg (by rw [decide_eq_false q]; decide)]
theorem end2u_facts (b w : Nat) : ∀ (c k : Nat) (σ : zS), k + c < 2 ^ 31 → (∀ g, g ≠ 27 → (zit (fm_end2u b w) c k σ).1 g = σ.1 g) ∧ (zit (fm_end2u b w) c k σ).2 = σ.2 ∧ (∀ v, v ≠ w → (zit (fm_end2u b w) c k σ).1 27 v = σ.1 27 v) ∧ ((σ.1 27 w = -1 ∧ σ.1 29 (16 * b + w) = 0) → (zit (fm_end2u b w) c k σ).1 27 w = mLeast (fun u => !decide (σ.1 45 (8 * w + u) = 0)) c k) ∧ (¬ (σ.1 27 w = -1 ∧ σ.1 29 (16 * b + w) = 0) → (zit (fm_end2u b w) c k σ).1 27 w = σ.1 27 w)
  | 0, k, σ, _ => ⟨fun _ _ => rfl, rfl, fun _ _ => rfl, fun z => z.1, fun _ => rfl⟩
  | c + 1, k, σ, hk => by
    rw [zit_s]
    obtain ⟨τ, hτ⟩ : ∃ τ, τ = fm_end2u b w k σ := ⟨_, rfl⟩
    rw [← hτ]
    obtain ⟨i1, i2, i3, i4, i5⟩ := end2u_facts b w c (k + 1) τ (by omega)
    have t1 : ∀ g, g ≠ 27 → τ.1 g = σ.1 g := fun g hg => by rw [hτ]; exact zi_nf _ _ hg
    have t3 : ∀ v, v ≠ w → τ.1 27 v = σ.1 27 v := fun v hv => by rw [hτ]; exact zi_ni _ _ hv
    have tw : τ.1 27 w = (if ¬ σ.1 45 (8 * w + k) = 0 ∧ σ.1 27 w = -1 ∧ σ.1 29 (16 * b + w) = 0 then nI k else σ.1 27 w) := by rw [hτ]; exact zi_eq _ _ _ _
    rw [t1 29 (by decide)] at i4 i5
    rw [t1 45 (by decide)] at i4
    refine ⟨fun g hg => (i1 g hg).trans (t1 g hg), i2.trans (by rw [hτ]; rfl), fun v hv => (i3 v hv).trans (t3 v hv), fun z => ?_, fun z => ?_⟩
    · show _ = if (!decide (σ.1 45 (8 * w + k) = 0)) = true then nI k else mLeast _ c (k + 1)
      by_cases q : σ.1 45 (8 * w + k) = 0
      · rw [if_neg (fun y => y.1 q)] at tw
        rw [if_neg (by rw [decide_eq_true q]; decide)]
        exact i4 ⟨by rw [tw]; exact z.1, z.2⟩
      · rw [if_pos ⟨q, z.1, z.2⟩] at tw
        rw [if_pos (by rw [decide_eq_false q]; rfl), i5 (fun y => by rw [tw] at y; exact nI_ne_m1 (by omega) y.1), tw]
    · rw [if_neg (fun y => z y.2)] at tw
      rw [i5 (by rw [tw]; exact z), tw]
theorem end2_facts (n b : Nat) (hn : n ≤ 8) (Z : zS) : (∀ g, g ≠ 27 → (zit (fm_end2 n b) 16 0 Z).1 g = Z.1 g) ∧ (zit (fm_end2 n b) 16 0 Z).2 = Z.2 ∧ ∀ w, w < 16 → ((Z.1 27 w = -1 ∧ Z.1 29 (16 * b + w) = 0) → (zit (fm_end2 n b) 16 0 Z).1 27 w = mLeast (fun u => !decide (Z.1 45 (8 * w + u) = 0)) n 0) ∧ (¬ (Z.1 27 w = -1 ∧ Z.1 29 (16 * b + w) = 0) → (zit (fm_end2 n b) 16 0 Z).1 27 w = Z.1 27 w) := by
  have key : (∀ g, g ≠ 27 → (zit (fm_end2 n b) 16 0 Z).1 g = Z.1 g) ∧ (zit (fm_end2 n b) 16 0 Z).2 = Z.2 ∧ ∀ w, ((w < 16 ∧ Z.1 27 w = -1 ∧ Z.1 29 (16 * b + w) = 0) → (zit (fm_end2 n b) 16 0 Z).1 27 w = mLeast (fun u => !decide (Z.1 45 (8 * w + u) = 0)) n 0) ∧ (¬ (w < 16 ∧ Z.1 27 w = -1 ∧ Z.1 29 (16 * b + w) = 0) → (zit (fm_end2 n b) 16 0 Z).1 27 w = Z.1 27 w) := by
    refine zit_inv (step := fm_end2 n b) (e := 16) (fun k τ => (∀ g, g ≠ 27 → τ.1 g = Z.1 g) ∧ τ.2 = Z.2 ∧ ∀ w, ((w < k ∧ Z.1 27 w = -1 ∧ Z.1 29 (16 * b + w) = 0) → τ.1 27 w = mLeast (fun u => !decide (Z.1 45 (8 * w + u) = 0)) n 0) ∧ (¬ (w < k ∧ Z.1 27 w = -1 ∧ Z.1 29 (16 * b + w) = 0) → τ.1 27 w = Z.1 27 w)) ?_ 16 0 Z (by omega) ⟨fun _ _ => rfl, rfl, fun w => ⟨fun z => absurd z.1 (Nat.not_lt_zero w), fun _ => rfl⟩⟩
    intro k τ hk ⟨h1, h2, h3⟩
    obtain ⟨i1, i2, i3, i4, i5⟩ := end2u_facts b k n 0 τ (by omega)
    have ek : τ.1 27 k = Z.1 27 k := (h3 k).2 (fun z => absurd z.1 (Nat.lt_irrefl k))
    rw [ek, h1 29 (by decide)] at i4 i5
    rw [h1 45 (by decide)] at i4
    show (∀ g, g ≠ 27 → (zit (fm_end2u b k) n 0 τ).1 g = Z.1 g) ∧ (zit (fm_end2u b k) n 0 τ).2 = Z.2 ∧ ∀ w, ((w < k + 1 ∧ Z.1 27 w = -1 ∧ Z.1 29 (16 * b + w) = 0) → (zit (fm_end2u b k) n 0 τ).1 27 w = mLeast (fun u => !decide (Z.1 45 (8 * w + u) = 0)) n 0) ∧ (¬ (w < k + 1 ∧ Z.1 27 w = -1 ∧ Z.1 29 (16 * b + w) = 0) → (zit (fm_end2u b k) n 0 τ).1 27 w = Z.1 27 w)
    refine ⟨fun g hg => (i1 g hg).trans (h1 g hg), i2.trans h2, fun w => ?_⟩
    by_cases e : w = k
    · subst e
      exact ⟨fun z => i4 z.2, fun z => i5 (fun y => z ⟨by omega, y⟩)⟩
    · rw [i3 w e]
      exact ⟨fun z => (h3 w).1 ⟨by omega, z.2⟩, fun z => (h3 w).2 (fun y => z ⟨by omega, y.2⟩)⟩
  exact ⟨key.1, key.2.1, fun w hw => ⟨fun z => (key.2.2 w).1 ⟨hw, z⟩, fun z => (key.2.2 w).2 (fun y => z y.2)⟩⟩
theorem mOwns_iff (Z : zS) (E u : Nat) : ∀ (c k : Nat) (b : Bool), fm_ownsAll Z E u c k b = true ↔ b = true ∧ ∀ e, k ≤ e → e < k + c → fm_isNow Z e 1 u = true → fm_isGive Z E e = false → Z.1 27 (tn (Z.1 33 e)) = nI u
  | 0, k, b => ⟨fun h => ⟨h, fun e h1 h2 => absurd h2 (by omega)⟩, fun h => h.1⟩
  | c + 1, k, b => by
    unfold fm_ownsAll
    rw [mOwns_iff Z E u c (k + 1)]
    simp only [Bool.and_eq_true, Bool.or_eq_true, Bool.not_eq_true', decide_eq_true_eq]
    constructor
    · rintro ⟨⟨h1, h2⟩, h3⟩
      refine ⟨h1, fun e q1 q2 q3 q4 => ?_⟩
      by_cases z : e = k
      · subst z
        rcases h2 with h2 | h2 | h2
        · rw [q3] at h2; exact absurd h2 (by decide)
        · rw [q4] at h2; exact absurd h2 (by decide)
        · exact h2
      · exact h3 e (by omega) (by omega) q3 q4
    · rintro ⟨h1, h2⟩
      refine ⟨⟨h1, ?_⟩, fun e q1 q2 => h2 e (by omega) (by omega)⟩
      cases hN : fm_isNow Z k 1 u with
      | false => exact Or.inl rfl
      | true =>
        cases hG : fm_isGive Z E k with
        | true => exact Or.inr (Or.inl rfl)
        | false => exact Or.inr (Or.inr (h2 k (by omega) (by omega) hN hG))
def mGv (Z : zS) (E v w : Nat) : Prop := ∃ e, e < E ∧ fm_isNow Z e 1 v = true ∧ fm_isGive Z E e = true ∧ Z.1 33 e = nI w
def mStp (Z : zS) (u j e : Nat) : Bool := decide (fm_isNow Z e 0 u = true ∧ tn (Z.1 33 e) = j)
/-- the entries' loop of act(u) -/
theorem act1_facts {E u : Nat} {Z : zS} (hW : ∀ e, e < E → Z.1 30 e = 1 → zin (Z.1 33 e) 16) (hu : u < 8) : (zit (fm_act1 E u) E 0 Z).2 8 = Z.2 8 ∧ (∀ g, g ≠ 5 → (zit (fm_act1 E u) E 0 Z).2 g = Z.2 g) ∧ (∀ w, w < 16 → ((mGv Z E u w ∧ Z.1 27 w = nI u) → (zit (fm_act1 E u) E 0 Z).1 27 w = -1) ∧ (¬ (mGv Z E u w ∧ Z.1 27 w = nI u) → (zit (fm_act1 E u) E 0 Z).1 27 w = Z.1 27 w)) ∧ ∀ j, (zit (fm_act1 E u) E 0 Z).2 5 j = lastv (mStp Z u j) (Z.2 8) (Z.2 5 j) E := by
  have key : (∀ g, g ≠ 27 → (zit (fm_act1 E u) E 0 Z).1 g = Z.1 g) ∧ (∀ g, g ≠ 5 → (zit (fm_act1 E u) E 0 Z).2 g = Z.2 g) ∧ (∀ w, w < 16 → (((∃ e, e < E ∧ fm_isNow Z e 1 u = true ∧ fm_isGive Z E e = true ∧ Z.1 33 e = nI w) ∧ Z.1 27 w = nI u) → (zit (fm_act1 E u) E 0 Z).1 27 w = -1) ∧ (¬ ((∃ e, e < E ∧ fm_isNow Z e 1 u = true ∧ fm_isGive Z E e = true ∧ Z.1 33 e = nI w) ∧ Z.1 27 w = nI u) → (zit (fm_act1 E u) E 0 Z).1 27 w = Z.1 27 w)) ∧ ∀ j, (zit (fm_act1 E u) E 0 Z).2 5 j = lastv (mStp Z u j) (Z.2 8) (Z.2 5 j) E := by
    refine zit_inv (step := fm_act1 E u) (e := E) (fun k τ => (∀ g, g ≠ 27 → τ.1 g = Z.1 g) ∧ (∀ g, g ≠ 5 → τ.2 g = Z.2 g) ∧ (∀ w, w < 16 → (((∃ e, e < k ∧ fm_isNow Z e 1 u = true ∧ fm_isGive Z E e = true ∧ Z.1 33 e = nI w) ∧ Z.1 27 w = nI u) → τ.1 27 w = -1) ∧ (¬ ((∃ e, e < k ∧ fm_isNow Z e 1 u = true ∧ fm_isGive Z E e = true ∧ Z.1 33 e = nI w) ∧ Z.1 27 w = nI u) → τ.1 27 w = Z.1 27 w)) ∧ ∀ j, τ.2 5 j = lastv (mStp Z u j) (Z.2 8) (Z.2 5 j) k) ?_ E 0 Z (by omega) ⟨fun _ _ => rfl, fun _ _ => rfl, fun w _ => ⟨fun ⟨⟨e, he, _⟩, _⟩ => absurd he (Nat.not_lt_zero e), fun _ => rfl⟩, fun _ => rfl⟩
    intro k τ hk ⟨h1, h2, h3, h4⟩
    have n0 : fm_isNow τ k 0 u = fm_isNow Z k 0 u := by unfold fm_isNow; rw [h1 30 (by decide), h1 31 (by decide), h1 32 (by decide), h1 35 (by decide)]
    have n1 : fm_isNow τ k 1 u = fm_isNow Z k 1 u := by unfold fm_isNow; rw [h1 30 (by decide), h1 31 (by decide), h1 32 (by decide), h1 35 (by decide)]
    have ng : fm_isGive τ E k = fm_isGive Z E k := isGive_congr (fun j => by rw [h1 30 (by decide)]) (h1 31 (by decide)) (h1 32 (by decide)) (h1 33 (by decide)) E k
    unfold fm_act1
    rw [n0, n1, ng, h1 33 (by decide), h2 8 (by decide)]
    have hex : ∀ w, (∃ e, e < k + 1 ∧ fm_isNow Z e 1 u = true ∧ fm_isGive Z E e = true ∧ Z.1 33 e = nI w) ↔ ((∃ e, e < k ∧ fm_isNow Z e 1 u = true ∧ fm_isGive Z E e = true ∧ Z.1 33 e = nI w) ∨ (fm_isNow Z k 1 u = true ∧ fm_isGive Z E k = true ∧ Z.1 33 k = nI w)) := by
      intro w
      constructor
      · rintro ⟨e, e1, e2⟩
        by_cases z : e = k
        · subst z; exact Or.inr e2
        · exact Or.inl ⟨e, by omega, e2⟩
      · rintro (⟨e, e1, e2⟩ | e2)
        · exact ⟨e, by omega, e2⟩
        · exact ⟨k, by omega, e2⟩
    by_cases q : fm_isNow Z k 0 u = true
    · rw [if_pos q]
      have nk : ¬ (fm_isNow Z k 1 u = true) := fun z => by
        have a := (of_decide_eq_true q).1
        have b := (of_decide_eq_true z).1
        rw [a] at b; exact absurd b (by decide)
      refine ⟨h1, fun g hg => (zl_nf _ _ hg).trans (h2 g hg), fun w hw => ?_, fun j => ?_⟩
      · rw [hex]
        show (_ → τ.1 27 w = -1) ∧ (_ → τ.1 27 w = _)
        obtain ⟨a1, a2⟩ := h3 w hw
        exact ⟨fun z => a1 ⟨by rcases z.1 with y | y; exact y; exact absurd y.1 nk, z.2⟩, fun z => a2 (fun y => z ⟨Or.inl y.1, y.2⟩)⟩
      · show _ = if mStp Z u j k = true then Z.2 8 k else lastv (mStp Z u j) (Z.2 8) (Z.2 5 j) k
        by_cases e : j = tn (Z.1 33 k)
        · subst e
          rw [zl_eq, if_pos (show mStp Z u (tn (Z.1 33 k)) k = true from decide_eq_true ⟨q, rfl⟩)]
        · rw [zl_ni _ _ e, if_neg (fun z => e (of_decide_eq_true z).2.symm)]
          exact h4 j
    · rw [if_neg q]
      have hl : ∀ j, lastv (mStp Z u j) (Z.2 8) (Z.2 5 j) (k + 1) = lastv (mStp Z u j) (Z.2 8) (Z.2 5 j) k := fun j => by
        show (if mStp Z u j k = true then Z.2 8 k else lastv (mStp Z u j) (Z.2 8) (Z.2 5 j) k) = _
        rw [if_neg (fun z => q (of_decide_eq_true z).1)]
      by_cases r : fm_isNow Z k 1 u = true ∧ fm_isGive Z E k = true ∧ τ.1 27 (tn (Z.1 33 k)) = nI u
      · rw [if_pos r]
        obtain ⟨v1, v2⟩ := hW k hk (of_decide_eq_true r.1).1
        refine ⟨fun g hg => (zi_nf _ _ hg).trans (h1 g hg), h2, fun w hw => ?_, fun j => by rw [hl]; exact h4 j⟩
        rw [hex]
        obtain ⟨a1, a2⟩ := h3 w hw
        by_cases e : w = tn (Z.1 33 k)
        · subst e
          rw [zi_eq]
          refine ⟨fun _ => rfl, fun z => ?_⟩
          exfalso
          apply z
          refine ⟨Or.inr ⟨r.1, r.2.1, v1⟩, ?_⟩
          have hz : ¬ ((∃ e, e < k ∧ fm_isNow Z e 1 u = true ∧ fm_isGive Z E e = true ∧ Z.1 33 e = nI (tn (Z.1 33 k))) ∧ Z.1 27 (tn (Z.1 33 k)) = nI u) := fun y => by
            have := a1 y
            rw [r.2.2] at this
            exact nI_ne_m1 (by omega) this
          rw [← a2 hz]; exact r.2.2
        · rw [zi_ni _ _ e]
          have hne : ¬ Z.1 33 k = nI w := fun y => e (by rw [y, tn_nI (by omega)])
          exact ⟨fun z => a1 ⟨by rcases z.1 with y | y; exact y; exact absurd y.2.2 hne, z.2⟩, fun z => a2 (fun y => z ⟨Or.inl y.1, y.2⟩)⟩
      · rw [if_neg r]
        refine ⟨h1, h2, fun w hw => ?_, fun j => by rw [hl]; exact h4 j⟩
        rw [hex]
        obtain ⟨a1, a2⟩ := h3 w hw
        refine ⟨fun z => ?_, fun z => a2 (fun y => z ⟨Or.inl y.1, y.2⟩)⟩
        rcases z.1 with y | y
        · exact a1 ⟨y, z.2⟩
        · by_cases c : (∃ e, e < k ∧ fm_isNow Z e 1 u = true ∧ fm_isGive Z E e = true ∧ Z.1 33 e = nI w)
          · exact a1 ⟨c, z.2⟩
          · exfalso
            apply r
            refine ⟨y.1, y.2.1, ?_⟩
            rw [y.2.2, tn_nI (by omega), a2 (fun y2 => c y2.1)]
            exact z.2
  exact ⟨key.2.1 8 (by decide), key.2.1, key.2.2.1, key.2.2.2⟩
