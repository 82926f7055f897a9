section ZM
variable {p : Program} {l : Launch} {e : Env} {R : Room} {s : State} {m : MethodId} {args : Array Value} {below : List Frame} {meth : Method} {c : Code} {H : Heap} {locs : List Loc} {cells slots : Nat} {Q : State → Prop}
variable {cc : ByteArray} {pc : Nat} {ls : Array Slot} {rest st0 : List Value} {D : va_G} {cl : List vw_C} {A : Nat → Prop} {a : Nat} {tys : List (ClassId × FieldType)} {nw : List zN} {w : zS → va_W} {σ : zS} {H0 : Heap}
theorem zzald (hexec : p.tables.exec = Jvm.exec) (hb : c.code = cc) (B : zB D cl tys nw w A H0 s σ H locs) (q0 t0 : Nat) {cA : ClassId} {N : Nat} {f : Nat → Int32} (ha : (w σ)[q0]? = some (a, .inl (cA, N, .inl f))) (ht : tys[t0]? = some (cA, .boolean)) {i : Int32} (k : Nat) (hi : i = nI k) (hk : k < N) (hN : N < 2 ^ 31) (hdg : decode cc pc = .ok (.baload, 1))
    (kk : W p l e R s m args below meth c H locs cells slots Q (F0 m (pc + 1) ls (.int (f k) :: rest))) : W p l e R s m args below meth c H locs cells slots Q (F0 m pc ls (.int i :: .ref a :: rest)) := by
  subst hi
  refine va_zald hexec hb B.1 B.2.1 q0 t0 ha ht (vp_in_nI hk hN) hdg ?_
  rw [nI_clamp (Nat.lt_trans hk hN)]
  exact kk
theorem zzast (hexec : p.tables.exec = Jvm.exec) (hb : c.code = cc) (B : zB D cl tys nw w A H0 s σ H locs) (q0 t0 : Nat) {cA : ClassId} {N f : Nat} (ha : (w σ)[q0]? = some (a, .inl (cA, N, .inl (σ.1 f)))) (ht : tys[t0]? = some (cA, .boolean)) {i x : Int32} (k : Nat) (hi : i = nI k) (hk : k < N) (hN : N < 2 ^ 31) {y : Int32} (hy : vp_nar .boolean x = y) (hset : (w σ).set q0 (a, .inl (cA, N, .inl ((zi σ f k y).1 f))) = w (zi σ f k y)) (hdg : decode cc pc = .ok (.bastore, 1))
    (kk : ∀ (H1 : Heap) (locs1 : List Loc), zB D cl tys nw w A H0 s (zi σ f k y) H1 locs1 → W p l e R s m args below meth c H1 locs1 cells slots Q (F0 m (pc + 1) ls rest)) : W p l e R s m args below meth c H locs cells slots Q (F0 m pc ls (.int x :: .int i :: .ref a :: rest)) := by
  subst hi
  subst hy
  rw [zi_upd] at hset
  refine va_zast hexec hb B.1 B.2.1 B.2.2.1 B.2.2.2.1 q0 t0 ha ht (vp_in_nI hk hN) hdg (fun H1 locs1 hP hD hS => ?_)
  rw [nI_clamp (Nat.lt_trans hk hN), hset] at hP hD
  exact kk H1 locs1 ⟨B.1, hP, hD, hS, B.2.2.2.2⟩
end ZM
theorem zb_vnar (b : Bool) : vp_nar .boolean (zb b) = zb b := by cases b <;> rfl
theorem zsub1 (k : Nat) : nI (k + 1) - 1 = nI k := nI_pred k
theorem zdec (k : Nat) : nI k + (-1) = nI k - 1 := (Int32.sub_eq_add_neg (a := nI k) (b := 1)).symm
theorem zmul8 {x : Int32} {N a : Nat} (h : x = nI a) : nI N * x = nI (N * a) := by rw [h, pk_mul]
/-! The reference's methods as functions of a state. Int fields: 25 isClosed, 26 done, 27 owners, 28 ownersAt, 29 bars, 30 kinds, 31 whose, 32 seconds, 33 what, 34 entries, 35 own, 36 waits, 37 heldAt, 38 turnSeconds, 39 turnUnits, 40 turnEnds, 41 turns, 42 takes, 43 left, 44 throwing, 45 asked. Long fields: 5 outputs, 6 safes, 7 outputsAt, 8 values. -/
def fm_in (v a b : Int32) : Bool := !decide (v < a) && !decide (b < v)
def fm_isUnit (n : Nat) (x : Int32) : Bool := fm_in x 0 (nI n - 1)
def fm_isOpen (σ : zS) (u : Nat) (x : Int32) : Bool := decide (σ.1 25 0 = 0 ∧ ¬ x < σ.1 35 u ∧ ¬ 300 ≤ σ.1 34 0)
def fm_add (σ : zS) (E : Nat) (a b c d : Int32) (v : Int64) : zS := zi (zl (zi (zi (zi (zi σ 30 E a) 31 E b) 32 E c) 33 E d) 8 E v) 34 0 (nI (E + 1))
def fm_find (σ : zS) (a b c d : Int32) : Nat → Nat → Int32
  | 0, _ => -1
  | n + 1, k => if σ.1 30 k = a ∧ σ.1 31 k = b ∧ σ.1 32 k = c ∧ (d = -1 ∨ σ.1 33 k = d) then nI k else fm_find σ a b c d n (k + 1)
def fm_ended (σ : zS) (u : Nat) : Nat → Nat → Bool → Bool
  | 0, _, b => b
  | c + 1, k, b => fm_ended σ u c (k + 1) (b && (!decide (σ.1 31 k = nI u) || !decide (σ.1 35 u ≤ σ.1 32 k)))
def fm_goes (σ : zS) (E u : Nat) : Bool := decide (σ.1 25 0 = 0 ∧ σ.1 37 u = -1 ∧ fm_ended σ u E 0 true = false)
def fm_going (σ : zS) (E : Nat) : Nat → Nat → Int32 → Int32
  | 0, _, r => r
  | c + 1, k, r => fm_going σ E c (k + 1) (r + (if fm_goes σ E k = true then 1 else 0))
def fm_giveN (σ : zS) (e : Nat) : Nat → Nat → Int32 → Int32
  | 0, _, r => r
  | c + 1, k, r => fm_giveN σ e c (k + 1) (r + (if σ.1 30 k = 1 ∧ σ.1 31 k = σ.1 31 e ∧ σ.1 33 k = σ.1 33 e ∧ ¬ σ.1 32 e ≤ σ.1 32 k then 1 else 0))
def fm_isGive (σ : zS) (E e : Nat) : Bool := decide (fm_giveN σ e E 0 0 - fm_giveN σ e E 0 0 / 2 * 2 = 1)
def fm_isNow (σ : zS) (e : Nat) (a : Int32) (u : Nat) : Bool := decide (σ.1 30 e = a ∧ σ.1 31 e = nI u ∧ σ.1 32 e = σ.1 35 u)
def fm_ask1 (u E k : Nat) (σ : zS) : zS := if fm_isNow σ k 1 u = true ∧ fm_isGive σ E k = false ∧ ¬ σ.1 27 (tn (σ.1 33 k)) = nI u then zi σ 45 (8 * tn (σ.1 33 k) + u) 1 else σ
def fm_turn0 (σ : zS) (t u : Nat) : zS := zi (zi (zi (zi σ 38 t (σ.1 26 0)) 39 t (nI u)) 40 t 0) 41 0 (nI (t + 1))
def fm_thr (σ : zS) (E t u : Nat) : Int32 := fm_find (fm_turn0 σ t u) 2 (nI u) (σ.1 35 u) (-1) E 0
def fm_turn (σ : zS) (E t u : Nat) : zS := if fm_thr σ E t u < 0 then zit (fm_ask1 u E) E 0 (zi (fm_turn0 σ t u) 44 u 0) else zi (zi (fm_turn0 σ t u) 44 u 1) 30 (tn (fm_thr σ E t u)) 3
/-- takes[u] = goes(u), and how many do -/
def fm_tk (E : Nat) : Nat → Nat → Nat → zS → Nat × zS
  | 0, _, m, σ => (m, σ)
  | c + 1, k, m, σ => fm_tk E c (k + 1) (if fm_goes σ E k = true then m + 1 else m) (zi σ 42 k (zb (fm_goes σ E k)))
def fm_left1 (u : Nat) (σ : zS) : zS := zi σ 43 u (vp_nar .boolean (σ.1 42 u))
/-- how many are left among c from k on -/
def fm_cl (σ : zS) : Nat → Nat → Nat
  | 0, _ => 0
  | c + 1, k => (if σ.1 43 k = 0 then 0 else 1) + fm_cl σ c (k + 1)
/-- the one with q of those left before it -/
def fm_who (σ : zS) : Nat → Nat → Nat → Nat
  | 0, k, _ => k
  | c + 1, k, q => if ¬ σ.1 43 k = 0 ∧ q ≤ 0 then k else fm_who σ c (k + 1) (if σ.1 43 k = 0 then q else q - 1)
def fm_next (n E t m : Nat) (g : Int64) (σ : zS) : zS := fm_turn (zi σ 43 (fm_who σ n 0 (tn (fx_pick (fx_lcg g) m))) 0) E t (fm_who σ n 0 (tn (fx_pick (fx_lcg g) m)))
/-- m turns, from the t-th on, with g -/
def fm_draw (n E : Nat) : Nat → Nat → Int64 → zS → Int64 × zS
  | 0, _, g, σ => (g, σ)
  | m + 1, t, g, σ => fm_draw n E m (t + 1) (fx_lcg g) (fm_next n E t (m + 1) g σ)
def fm_turnsOf (n E t : Nat) (g : Int64) (σ : zS) : Int64 × zS := fm_draw n E (fm_tk E n 0 0 σ).1 t g (zit fm_left1 n 0 (fm_tk E n 0 0 σ).2)
def fm_tell (u : Nat) (x : Int32) : Nat → zS → zS
  | 0, σ => σ
  | c + 1, σ => if σ.1 38 c = σ.1 26 0 then fm_tell u x c (zi σ 40 c (if σ.1 39 c = nI u then x else σ.1 40 c)) else σ
def fm_ownsAll (σ : zS) (E u : Nat) : Nat → Nat → Bool → Bool
  | 0, _, b => b
  | c + 1, k, b => fm_ownsAll σ E u c (k + 1) (b && (!fm_isNow σ k 1 u || (fm_isGive σ E k || decide (σ.1 27 (tn (σ.1 33 k)) = nI u))))
def fm_act1 (E u k : Nat) (σ : zS) : zS :=
  if fm_isNow σ k 0 u = true then zl σ 5 (tn (σ.1 33 k)) (σ.2 8 k)
  else if fm_isNow σ k 1 u = true ∧ fm_isGive σ E k = true ∧ σ.1 27 (tn (σ.1 33 k)) = nI u then zi σ 27 (tn (σ.1 33 k)) (-1) else σ
def fm_actD (E u : Nat) (σ : zS) : zS := zi (zit (fm_act1 E u) E 0 (zi σ 36 u 0)) 35 u ((zit (fm_act1 E u) E 0 (zi σ 36 u 0)).1 35 u + 1)
def fm_act (E t u : Nat) (σ : zS) : zS := if fm_ownsAll σ E u E 0 true = true then fm_actD E u σ else fm_tell u 1 t (zi σ 36 u 1)
def fm_safe1 (j : Nat) (σ : zS) : zS := zl σ 5 j (σ.2 6 j)
def fm_end1 (t u : Nat) (σ : zS) : zS := if ¬ σ.1 42 u = 0 ∧ ¬ σ.1 44 u = 0 then zit fm_safe1 4 (4 * u) (fm_tell u 2 t (zi (zi σ 37 u (σ.1 26 0)) 36 u 0)) else σ
def fm_end2u (b w u : Nat) (σ : zS) : zS := zi σ 27 w (if ¬ σ.1 45 (8 * w + u) = 0 ∧ σ.1 27 w = -1 ∧ σ.1 29 (16 * b + w) = 0 then nI u else σ.1 27 w)
def fm_end2 (n b w : Nat) (σ : zS) : zS := zit (fm_end2u b w) n 0 σ
def fm_end3 (E t u : Nat) (σ : zS) : zS := if ¬ σ.1 42 u = 0 ∧ σ.1 44 u = 0 then fm_act E t u σ else σ
def fm_end4 (b k : Nat) (σ : zS) : zS := zl σ 7 (32 * b + k) (σ.2 5 k)
def fm_end5 (b w : Nat) (σ : zS) : zS := zi σ 28 (16 * b + w) (σ.1 27 w)
def fm_endA (n E b t : Nat) (σ : zS) : zS := zit (fm_end3 E t) n 0 (zit (fm_end2 n b) 16 0 (zit (fm_end1 t) n 0 σ))
def fm_endF (b : Nat) (σ : zS) : zS := zi (zit (fm_end5 b) 16 0 (zit (fm_end4 b) 32 0 σ)) 26 0 (nI (b + 1))
def fm_end (n E b t : Nat) (σ : zS) : zS := fm_endF b (fm_endA n E b t σ)
def fm_ask0 (k : Nat) (σ : zS) : zS := zi σ 45 k 0
def fm_T (E n : Nat) (σ : zS) : Nat := (fm_tk E n 0 0 (zit fm_ask0 128 0 σ)).1
def fm_pass (n E b t : Nat) (g : Int64) (σ : zS) : zS := fm_end n E b (t + fm_T E n σ) (fm_turnsOf n E t g (zit fm_ask0 128 0 σ)).2
def fm_gg (n E t : Nat) (g : Int64) (σ : zS) : Int64 := (fm_turnsOf n E t g (zit fm_ask0 128 0 σ)).1
def fm_play (n E : Nat) : Nat → Nat → Nat → Nat → Int64 → zS → Nat × zS
  | 0, _, _, k, _, σ => (k, σ)
  | c + 1, b, t, k, g, σ => if ¬ 64 ≤ b ∧ ¬ fm_going σ E n 0 0 ≤ 0 then fm_play n E c (b + 1) (t + fm_T E n σ) (k + 1) (fm_gg n E t g σ) (fm_pass n E b t g σ) else (k, σ)
