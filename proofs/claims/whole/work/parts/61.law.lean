section ZL
variable {p : Program} {l : Launch} {e : Env} {R : Room} {s : State} {m : MethodId} {args : Array Value} {below : List Frame} {meth : Method} {c : Code} {H : Heap} {locs : List Loc} {cells slots : Nat} {Q : State → Prop}
variable {cc : ByteArray} {pc : Nat} {ls : Array Slot} {rest : List Value} {A : Nat → Prop} {H0 : Heap}
/-- script[i + j] -/
theorem zrd (hexec : p.tables.exec = Jvm.exec) (hb : c.code = cc) {b L : Nat} {xs : Nat → Int32} (hX : va_X b L xs s H0) (hbl : b < H0.size) (hbA : ¬ A b) (hS : va_S A H0 H locs) {x y : Value} {i : Nat} (hl : lv_has ls 4 [(0, .ref b), (1, x), (2, y), (3, .int (nI i))]) {n : Int} (j : Nat) (hj : Int32.ofInt n = nI j) (hij : i + j < L) (hL : L < 2 ^ 31) (d0 : decode cc pc = .ok (.aload_n 0, 1)) (d1 : decode cc (pc + 1) = .ok (.iload_n 3, 1)) (d2 : decode cc (pc + 1 + 1) = .ok (.iconst n, 1)) (d3 : decode cc (pc + 1 + 1 + 1) = .ok (.iadd, 1)) (d4 : decode cc (pc + 1 + 1 + 1 + 1) = .ok (.iaload, 1))
    (kk : W p l e R s m args below meth c H locs cells slots Q (F0 m (pc + 1 + 1 + 1 + 1 + 1) ls (.int (xs (i + j)) :: rest))) : W p l e R s m args below meth c H locs cells slots Q (F0 m pc ls rest) := by
  refine lv_aload_n hexec hb d0 rfl (lv_at hl 0 rfl) ?_
  refine lv_iload_n hexec hb d1 rfl (lv_at hl 3 rfl) ?_
  refine lv_iconst (v := nI j) hexec hb d2 hj ?_
  refine lv_iadd hexec hb d3 ?_
  refine zrwi (nI_add i j) ?_
  refine va_sld hexec hb hX hbl hbA hS (vp_in_nI hij hL) d4 ?_
  rw [nI_clamp (Nat.lt_trans hij hL)]
  exact kk
end ZL
set_option maxHeartbeats 4000000 in
/-- cell(script, 0) -/
theorem c_La_cell (l : Launch) (b L : Nat) (xs : Nat → Int32) (hL : L < 2 ^ 31) : Met l y_La_cell (zws y_La_cell method_2_code 2 (some .int)) ({ frames := 0, cells := 0, slots := 0, locals := 0 }) (va_Pc [.ref b, .int (nI 0)] (fun U => va_X b L xs U U.heap ∧ b < U.heap.size)) (va_Qi (S := Unit) (fun r _ => r = if 0 < L then xs 0 else 0) (fun _ _ => True) (fun _ => False)) 0 0 (fun _ => False) := by
  refine Met.ofW (cc := method_2_code) (maxL := 2) (ret := (some .int)) (by decide) rfl ?_
  intro p e s m args below meth c s₁ B0 hml hv
  obtain ⟨rfl, hX, hbl⟩ := hv
  have hl := lv_entry [.ref b, .int (nI 0)] (n := 2) (Nat.le_of_ble_eq_true rfl)
  rw [lg_entry_eq]
  have hx := B0.exec
  have hb := B0.bytes
  have hr : meth.sig.returnType = some .int := B0.returns
  have hlocks := B0.notSynchronized
  have hS : va_S (fun _ => False) s.heap s.heap [] := va_S.rf
  generalize (lg_sl [.ref b, .int (nI 0)] ++ List.replicate (2 - (lg_sl [.ref b, .int (nI 0)]).length) Slot.unset).toArray = ls at hl ⊢
  have hl : lv_has ls 2 [(0, .ref b), (1, .int (nI 0))] := hl
  refine lv_iload_n hx hb d_La_cell_0 rfl (lv_at hl 1 rfl) ?_
  refine lv_aload_n hx hb d_La_cell_1 rfl (lv_at hl 0 rfl) ?_
  refine va_slen hx hb hX hbl (fun h => h) hS d_La_cell_2 ?_
  refine lv_icmp_ge (tgt := 12) hx hb d_La_cell_3 (by decide) (fun c_1 => ?_) (fun c_1 => ?_)
  · have h0 : ¬ 0 < L := fun q => absurd ((nI_leI (a := L) (b := 0) hL (by omega)).mp c_1) (by omega)
    refine lv_iconst (v := 0) hx hb d_La_cell_12 (by decide) ?_
    exact W.iret (v := 0) hx hb hr (fun t ht hW => ⟨⟨0, (), rfl, (if_neg h0).symm, trivial⟩, hS.F ht⟩) hS.2.2 d_La_cell_13 hlocks
  · have h0 : 0 < L := by
      rcases Nat.eq_zero_or_pos L with q | q
      · subst q; exact absurd (show nI 0 ≤ nI 0 from nI_le (Nat.le_refl _) (by omega)) c_1
      · exact q
    refine lv_aload_n hx hb d_La_cell_6 rfl (lv_at hl 0 rfl) ?_
    refine lv_iload_n hx hb d_La_cell_7 rfl (lv_at hl 1 rfl) ?_
    refine va_sld hx hb hX hbl (fun h => h) hS (vp_in_nI h0 hL) d_La_cell_8 ?_
    rw [nI_clamp (show 0 < 2 ^ 31 by omega)]
    refine lv_goto (tgt := 13) hx hb d_La_cell_9 (by decide) ?_
    exact W.iret (v := xs 0) hx hb hr (fun t ht hW => ⟨⟨xs 0, (), rfl, (if_pos h0).symm, trivial⟩, hS.F ht⟩) hS.2.2 d_La_cell_13 hlocks
set_option maxHeartbeats 8000000 in
set_option maxRecDepth 100000 in
/-- the law's loop -/
theorem law_loop {p : Program} {l : Launch} {e : Env} {s : State} {m : MethodId} {below : List Frame} {meth : Method} {c : Code} {b L : Nat} {xs : Nat → Int32} (hL : L ≤ 3073) (C0 : lw_At p s m meth c b L xs) (κ : KA) (h1n : 1 ≤ nA κ) (hn : nA κ ≤ 8) :
    ∀ (n i : Nat), i ≤ L + 6 → L < i + n → ∀ (σ : zS), (∃ E bb t, Rl (nA κ) E bb t σ σ) → ∀ (H : Heap) (locs : List Loc), BA κ (fun q : Nat => s.heap.size ≤ q) s.heap s σ H locs → ∀ (ls : Array Slot), lv_has ls 4 [(0, .ref b), (1, .ref (aA κ 0)), (2, .ref (aA κ 21)), (3, .int (nI i))] → W p l e room_1 s m #[Value.ref b] below meth c H locs 51 13772 (lw_Z below #[Value.ref b] s) (F0 m 28 ls []) := by
  obtain ⟨hx, hb, hr, hml, hown, hts0, hX, hbl, hlocks, hgv⟩ := C0
  have hown : s.vm.findClass "UnitThreadsLaw" = some m.cls := hown
  have hts : ∀ w ∈ zW, w.before #[Value.ref b] s = true := fun w h => hts0 w (zW_tbl w h)
  have hbA : ¬ (fun q : Nat => s.heap.size ≤ q) b := Nat.not_le.mpr hbl
  intro n
  induction n with
  | zero =>
    intro i hi hin σ hRe H locs B ls hl
    refine lv_iload_n hx hb d_La_law_28 rfl (lv_at hl 3 rfl) ?_
    refine lv_aload_n hx hb d_La_law_29 rfl (lv_at hl 0 rfl) ?_
    refine va_slen hx hb hX hbl hbA B.2.2.2.1 d_La_law_30 ?_
    refine lv_bipush (v := nI 6) hx hb d_La_law_31 (by decide) ?_
    refine lv_isub hx hb d_La_law_33 ?_
    have hcmp : (nI L - nI 6 < nI i) ↔ L < i + 6 := by
      rw [Int32.lt_iff_toInt_lt, pk_sub_toInt (by omega) (by omega), nI_toInt (by omega)]; omega
    refine lv_icmp_gt (tgt := 641) hx hb d_La_law_34 (by decide) (fun c_1 => ?_) (fun c_1 => ?_)
    · refine lv_iconst (v := 1) hx hb d_La_law_641 (by decide) ?_
      refine va_forget (fun q hq => B.2.2.2.1.2.2 q hq) ?_
      refine W.widen (k := 600000) (n := 7302250) (by omega) (by omega) ?_
      exact lw_ret hx hb hr hlocks d_La_law_642
    · exact absurd (hcmp.mpr (by omega)) c_1
  | succ n ih =>
    intro i hi hin σ hRe H locs B ls hl
    refine lv_iload_n hx hb d_La_law_28 rfl (lv_at hl 3 rfl) ?_
    refine lv_aload_n hx hb d_La_law_29 rfl (lv_at hl 0 rfl) ?_
    refine va_slen hx hb hX hbl hbA B.2.2.2.1 d_La_law_30 ?_
    refine lv_bipush (v := nI 6) hx hb d_La_law_31 (by decide) ?_
    refine lv_isub hx hb d_La_law_33 ?_
    have hcmp : (nI L - nI 6 < nI i) ↔ L < i + 6 := by
      rw [Int32.lt_iff_toInt_lt, pk_sub_toInt (by omega) (by omega), nI_toInt (by omega)]; omega
    refine lv_icmp_gt (tgt := 641) hx hb d_La_law_34 (by decide) (fun c_1 => ?_) (fun c_1 => ?_)
    · refine lv_iconst (v := 1) hx hb d_La_law_641 (by decide) ?_
      refine va_forget (fun q hq => B.2.2.2.1.2.2 q hq) ?_
      refine W.widen (k := 600000) (n := 7302250) (by omega) (by omega) ?_
      exact lw_ret hx hb hr hlocks d_La_law_642
    · have hiL : i + 6 ≤ L := by
        rcases Nat.lt_or_ge L (i + 6) with q | q
        · exact absurd (hcmp.mpr q) c_1
        · exact q
      have next : ∀ (τ : zS), (∃ E bb t, Rl (nA κ) E bb t τ τ) → ∀ (H : Heap) (locs : List Loc), BA κ (fun q : Nat => s.heap.size ≤ q) s.heap s τ H locs → W p l e room_1 s m #[Value.ref b] below meth c H locs 51 13772 (lw_Z below #[Value.ref b] s) (F0 m 635 ls []) := by
        intro τ hRt H locs B
        refine lv_iinc (v := nI (i + 6)) (lv' := [(3, .int (nI (i + 6))), (0, .ref b), (1, .ref (aA κ 0)), (2, .ref (aA κ 21))]) hx hb d_La_law_635 hl (k := 3) rfl (nI_add i 6) (by decide) rfl (fun ls hl => ?_)
        refine lv_goto (tgt := 28) hx hb d_La_law_638 (by decide) ?_
        exact ih (i + 6) (by omega) (by omega) τ hRt _ _ B ls (lv_sub hl [1, 2, 3, 0] rfl)
      refine lv_aload_n hx hb d_La_law_37 rfl (lv_at hl 0 rfl) ?_
      refine lv_iload_n hx hb d_La_law_38 rfl (lv_at hl 3 rfl) ?_
      refine va_sld hx hb hX hbl hbA B.2.2.2.1 (vp_in_nI (show i < L by omega) (by omega)) d_La_law_39 ?_
      refine lv_bipush (v := nI 15) hx hb d_La_law_40 (by decide) ?_
      refine lv_iand hx hb d_La_law_42 ?_
      refine lv_topi (fun x ex => ?_)
      obtain ⟨E, bb, t, hR⟩ := hRe
      have hE3 : E ≤ 300 := hR.1.2.2.1
      have hb64 : bb ≤ 64 := hR.2.2.2.2.1.2.2.1
      have htn : t ≤ nA κ * bb := hR.2.2.2.2.2.2.1.2.2.1
      have htm : t ≤ nA κ * 64 := Nat.le_trans htn (Nat.mul_le_mul_left _ hb64)
      have htm2 : nA κ * 64 ≤ 8 * 64 := Nat.mul_le_mul_right 64 hn
      by_cases h0 : x = 0
      · refine lv_tableIn (off := 69) (tgt := 112) hx hb d_La_law_43 (by rw [h0]; decide) (by rw [h0]; decide) (by rw [h0]; decide) (by decide) ?_
        have K := st_step hR h1n hn (xs (i + 1)) (xs (i + 2)) (xs (i + 3)) ((Int32.toInt64 (xs (i + 4)) <<< (Int32.toInt64 (nI 32) &&& 63)) ||| (Int32.toInt64 (xs (i + 5)) &&& 4294967295))
        refine lv_aload_n hx hb d_La_law_112 rfl (lv_at hl 1 rfl) ?_
        refine zrd hx hb hX hbl hbA B.2.2.2.1 hl 1 (by decide) (by omega) (by omega) d_La_law_113 d_La_law_114 d_La_law_115 d_La_law_116 d_La_law_117 ?_
        refine zrd hx hb hX hbl hbA B.2.2.2.1 hl 2 (by decide) (by omega) (by omega) d_La_law_118 d_La_law_119 d_La_law_120 d_La_law_121 d_La_law_122 ?_
        refine zrd hx hb hX hbl hbA B.2.2.2.1 hl 3 (by decide) (by omega) (by omega) d_La_law_123 d_La_law_124 d_La_law_125 d_La_law_126 d_La_law_127 ?_
        refine zrd hx hb hX hbl hbA B.2.2.2.1 hl 4 (by decide) (by omega) (by omega) d_La_law_128 d_La_law_129 d_La_law_130 d_La_law_131 d_La_law_132 ?_
        refine lv_i2l (v := Int32.toInt64 (xs (i + 4))) hx hb d_La_law_133 rfl ?_
        refine lv_bipush (v := nI 32) hx hb d_La_law_134 (by decide) ?_
        refine lv_lshl hx hb d_La_law_136 rfl ?_
        refine zrd hx hb hX hbl hbA B.2.2.2.1 hl 5 (by decide) (by omega) (by omega) d_La_law_137 d_La_law_138 d_La_law_139 d_La_law_140 d_La_law_141 ?_
        refine lv_i2l (v := Int32.toInt64 (xs (i + 5))) hx hb d_La_law_142 rfl ?_
        refine lv_ldc2 (v := 4294967295) hx hb hown (hts _ w_609) d_La_law_143 ?_
        refine lv_land hx hb d_La_law_146 ?_
        refine lv_lor hx hb d_La_law_147 ?_
        refine zcV_i (As := [.int (xs (i + 1)), .int (xs (i + 2)), .int (xs (i + 3)), .long ((Int32.toInt64 (xs (i + 4)) <<< (Int32.toInt64 (nI 32) &&& 63)) ||| (Int32.toInt64 (xs (i + 5)) &&& 4294967295))]) (rest := []) ⟨hx, hb, hml, hown, hts⟩ (c_Ut_step l κ σ (xs (i + 1)) (xs (i + 2)) (xs (i + 3)) ((Int32.toInt64 (xs (i + 4)) <<< (Int32.toInt64 (nI 32) &&& 63)) ||| (Int32.toInt64 (xs (i + 5)) &&& 4294967295)) hn E hR.1.1 hE3) (cwV 4 hts (zgoodV w_189 w_190 w_191 w_1 w_192) rfl rfl rfl (by decide +kernel) ⟨Nat.le_of_ble_eq_true rfl, Nat.le_of_ble_eq_true rfl⟩) B (zrecv B (ci := 5) rfl (wa_0 κ σ)) rfl hl.1 rfl (Nat.le_of_ble_eq_true rfl) d_La_law_148 ⟨Nat.le_of_ble_eq_true rfl, Nat.le_of_ble_eq_true rfl⟩ (fun r1 σ1 H locs hp B => ?_)
        obtain ⟨hr1, hs1⟩ := hp
        rw [← hs1] at K
        refine lv_aload_n hx hb d_La_law_151 rfl (lv_at hl 2 rfl) ?_
        refine zrd hx hb hX hbl hbA B.2.2.2.1 hl 1 (by decide) (by omega) (by omega) d_La_law_152 d_La_law_153 d_La_law_154 d_La_law_155 d_La_law_156 ?_
        refine zrd hx hb hX hbl hbA B.2.2.2.1 hl 2 (by decide) (by omega) (by omega) d_La_law_157 d_La_law_158 d_La_law_159 d_La_law_160 d_La_law_161 ?_
        refine zrd hx hb hX hbl hbA B.2.2.2.1 hl 3 (by decide) (by omega) (by omega) d_La_law_162 d_La_law_163 d_La_law_164 d_La_law_165 d_La_law_166 ?_
        refine zrd hx hb hX hbl hbA B.2.2.2.1 hl 4 (by decide) (by omega) (by omega) d_La_law_167 d_La_law_168 d_La_law_169 d_La_law_170 d_La_law_171 ?_
        refine lv_i2l (v := Int32.toInt64 (xs (i + 4))) hx hb d_La_law_172 rfl ?_
        refine lv_bipush (v := nI 32) hx hb d_La_law_173 (by decide) ?_
        refine lv_lshl hx hb d_La_law_175 rfl ?_
        refine zrd hx hb hX hbl hbA B.2.2.2.1 hl 5 (by decide) (by omega) (by omega) d_La_law_176 d_La_law_177 d_La_law_178 d_La_law_179 d_La_law_180 ?_
        refine lv_i2l (v := Int32.toInt64 (xs (i + 5))) hx hb d_La_law_181 rfl ?_
        refine lv_ldc2 (v := 4294967295) hx hb hown (hts _ w_609) d_La_law_182 ?_
        refine lv_land hx hb d_La_law_185 ?_
        refine lv_lor hx hb d_La_law_186 ?_
        refine zcV_i (As := [.int (xs (i + 1)), .int (xs (i + 2)), .int (xs (i + 3)), .long ((Int32.toInt64 (xs (i + 4)) <<< (Int32.toInt64 (nI 32) &&& 63)) ||| (Int32.toInt64 (xs (i + 5)) &&& 4294967295))]) (rest := [.int r1]) ⟨hx, hb, hml, hown, hts⟩ (c_Mo_step l κ σ1 (xs (i + 1)) (xs (i + 2)) (xs (i + 3)) ((Int32.toInt64 (xs (i + 4)) <<< (Int32.toInt64 (nI 32) &&& 63)) ||| (Int32.toInt64 (xs (i + 5)) &&& 4294967295)) hn E K.1.1.2.1 hE3) (cwV 4 hts (zgoodV w_488 w_489 w_490 w_9 w_491) rfl rfl rfl (by decide +kernel) ⟨Nat.le_of_ble_eq_true rfl, Nat.le_of_ble_eq_true rfl⟩) B (zrecv B (ci := 6) rfl (wa_21 κ σ1)) rfl hl.1 rfl (Nat.le_of_ble_eq_true rfl) d_La_law_187 ⟨Nat.le_of_ble_eq_true rfl, Nat.le_of_ble_eq_true rfl⟩ (fun r2 σ2 H locs hp B => ?_)
        obtain ⟨hr2, hs2⟩ := hp
        rw [← hs2] at K
        refine lv_icmp_eq (tgt := 635) hx hb d_La_law_190 (by decide) (fun c_2 => ?_) (fun c_2 => ?_)
        · exact next _ K.2.2 _ _ B
        · exact absurd (by rw [hr1, hr2, K.2.1]) c_2
      by_cases h1 : x = 1
      · refine lv_tableIn (off := 152) (tgt := 195) hx hb d_La_law_43 (by rw [h1]; decide) (by rw [h1]; decide) (by rw [h1]; decide) (by decide) ?_
        have K := st_asks hR h1n hn (xs (i + 1)) (xs (i + 2)) (xs (i + 3))
        refine lv_aload_n hx hb d_La_law_195 rfl (lv_at hl 1 rfl) ?_
        refine zrd hx hb hX hbl hbA B.2.2.2.1 hl 1 (by decide) (by omega) (by omega) d_La_law_196 d_La_law_197 d_La_law_198 d_La_law_199 d_La_law_200 ?_
        refine zrd hx hb hX hbl hbA B.2.2.2.1 hl 2 (by decide) (by omega) (by omega) d_La_law_201 d_La_law_202 d_La_law_203 d_La_law_204 d_La_law_205 ?_
        refine zrd hx hb hX hbl hbA B.2.2.2.1 hl 3 (by decide) (by omega) (by omega) d_La_law_206 d_La_law_207 d_La_law_208 d_La_law_209 d_La_law_210 ?_
        refine zcV_i (As := [.int (xs (i + 1)), .int (xs (i + 2)), .int (xs (i + 3))]) (rest := []) ⟨hx, hb, hml, hown, hts⟩ (c_Ut_asks l κ σ (xs (i + 1)) (xs (i + 2)) (xs (i + 3)) hn E hR.1.1 hE3) (cwV 3 hts (zgoodV w_212 w_213 w_214 w_1 w_215) rfl rfl rfl (by decide +kernel) ⟨Nat.le_of_ble_eq_true rfl, Nat.le_of_ble_eq_true rfl⟩) B (zrecv B (ci := 5) rfl (wa_0 κ σ)) rfl hl.1 rfl (Nat.le_of_ble_eq_true rfl) d_La_law_211 ⟨Nat.le_of_ble_eq_true rfl, Nat.le_of_ble_eq_true rfl⟩ (fun r1 σ1 H locs hp B => ?_)
        obtain ⟨hr1, hs1⟩ := hp
        rw [← hs1] at K
        refine lv_aload_n hx hb d_La_law_214 rfl (lv_at hl 2 rfl) ?_
        refine zrd hx hb hX hbl hbA B.2.2.2.1 hl 1 (by decide) (by omega) (by omega) d_La_law_215 d_La_law_216 d_La_law_217 d_La_law_218 d_La_law_219 ?_
        refine zrd hx hb hX hbl hbA B.2.2.2.1 hl 2 (by decide) (by omega) (by omega) d_La_law_220 d_La_law_221 d_La_law_222 d_La_law_223 d_La_law_224 ?_
        refine zrd hx hb hX hbl hbA B.2.2.2.1 hl 3 (by decide) (by omega) (by omega) d_La_law_225 d_La_law_226 d_La_law_227 d_La_law_228 d_La_law_229 ?_
        refine zcV_i (As := [.int (xs (i + 1)), .int (xs (i + 2)), .int (xs (i + 3))]) (rest := [.int r1]) ⟨hx, hb, hml, hown, hts⟩ (c_Mo_asks l κ σ1 (xs (i + 1)) (xs (i + 2)) (xs (i + 3)) hn E K.1.1.2.1 hE3) (cwV 3 hts (zgoodV w_507 w_508 w_509 w_9 w_510) rfl rfl rfl (by decide +kernel) ⟨Nat.le_of_ble_eq_true rfl, Nat.le_of_ble_eq_true rfl⟩) B (zrecv B (ci := 6) rfl (wa_21 κ σ1)) rfl hl.1 rfl (Nat.le_of_ble_eq_true rfl) d_La_law_230 ⟨Nat.le_of_ble_eq_true rfl, Nat.le_of_ble_eq_true rfl⟩ (fun r2 σ2 H locs hp B => ?_)
        obtain ⟨hr2, hs2⟩ := hp
        rw [← hs2] at K
        refine lv_icmp_eq (tgt := 635) hx hb d_La_law_233 (by decide) (fun c_2 => ?_) (fun c_2 => ?_)
        · exact next _ K.2.2 _ _ B
        · exact absurd (by rw [hr1, hr2, K.2.1]) c_2
      by_cases h2 : x = 2
      · refine lv_tableIn (off := 195) (tgt := 238) hx hb d_La_law_43 (by rw [h2]; decide) (by rw [h2]; decide) (by rw [h2]; decide) (by decide) ?_
        have K := st_throw hR h1n hn (xs (i + 1)) (xs (i + 2))
        refine lv_aload_n hx hb d_La_law_238 rfl (lv_at hl 1 rfl) ?_
        refine zrd hx hb hX hbl hbA B.2.2.2.1 hl 1 (by decide) (by omega) (by omega) d_La_law_239 d_La_law_240 d_La_law_241 d_La_law_242 d_La_law_243 ?_
        refine zrd hx hb hX hbl hbA B.2.2.2.1 hl 2 (by decide) (by omega) (by omega) d_La_law_244 d_La_law_245 d_La_law_246 d_La_law_247 d_La_law_248 ?_
        refine zcV_i (As := [.int (xs (i + 1)), .int (xs (i + 2))]) (rest := []) ⟨hx, hb, hml, hown, hts⟩ (c_Ut_throwsAt l κ σ (xs (i + 1)) (xs (i + 2)) hn E hR.1.1 hE3) (cwV 2 hts (zgoodV w_223 w_224 w_225 w_1 w_226) rfl rfl rfl (by decide +kernel) ⟨Nat.le_of_ble_eq_true rfl, Nat.le_of_ble_eq_true rfl⟩) B (zrecv B (ci := 5) rfl (wa_0 κ σ)) rfl hl.1 rfl (Nat.le_of_ble_eq_true rfl) d_La_law_249 ⟨Nat.le_of_ble_eq_true rfl, Nat.le_of_ble_eq_true rfl⟩ (fun r1 σ1 H locs hp B => ?_)
        obtain ⟨hr1, hs1⟩ := hp
        rw [← hs1] at K
        refine lv_aload_n hx hb d_La_law_252 rfl (lv_at hl 2 rfl) ?_
        refine zrd hx hb hX hbl hbA B.2.2.2.1 hl 1 (by decide) (by omega) (by omega) d_La_law_253 d_La_law_254 d_La_law_255 d_La_law_256 d_La_law_257 ?_
        refine zrd hx hb hX hbl hbA B.2.2.2.1 hl 2 (by decide) (by omega) (by omega) d_La_law_258 d_La_law_259 d_La_law_260 d_La_law_261 d_La_law_262 ?_
        refine zcV_i (As := [.int (xs (i + 1)), .int (xs (i + 2))]) (rest := [.int r1]) ⟨hx, hb, hml, hown, hts⟩ (c_Mo_throwsAt l κ σ1 (xs (i + 1)) (xs (i + 2)) hn E K.1.1.2.1 hE3) (cwV 2 hts (zgoodV w_515 w_516 w_517 w_9 w_518) rfl rfl rfl (by decide +kernel) ⟨Nat.le_of_ble_eq_true rfl, Nat.le_of_ble_eq_true rfl⟩) B (zrecv B (ci := 6) rfl (wa_21 κ σ1)) rfl hl.1 rfl (Nat.le_of_ble_eq_true rfl) d_La_law_263 ⟨Nat.le_of_ble_eq_true rfl, Nat.le_of_ble_eq_true rfl⟩ (fun r2 σ2 H locs hp B => ?_)
        obtain ⟨hr2, hs2⟩ := hp
        rw [← hs2] at K
        refine lv_icmp_eq (tgt := 635) hx hb d_La_law_266 (by decide) (fun c_2 => ?_) (fun c_2 => ?_)
        · exact next _ K.2.2 _ _ B
        · exact absurd (by rw [hr1, hr2, K.2.1]) c_2
      by_cases h3 : x = 3
      · refine lv_tableIn (off := 228) (tgt := 271) hx hb d_La_law_43 (by rw [h3]; decide) (by rw [h3]; decide) (by rw [h3]; decide) (by decide) ?_
        have K := st_safe hR h1n hn (xs (i + 1)) ((Int32.toInt64 (xs (i + 2)) <<< (Int32.toInt64 (nI 32) &&& 63)) ||| (Int32.toInt64 (xs (i + 3)) &&& 4294967295))
        refine lv_aload_n hx hb d_La_law_271 rfl (lv_at hl 1 rfl) ?_
        refine zrd hx hb hX hbl hbA B.2.2.2.1 hl 1 (by decide) (by omega) (by omega) d_La_law_272 d_La_law_273 d_La_law_274 d_La_law_275 d_La_law_276 ?_
        refine zrd hx hb hX hbl hbA B.2.2.2.1 hl 2 (by decide) (by omega) (by omega) d_La_law_277 d_La_law_278 d_La_law_279 d_La_law_280 d_La_law_281 ?_
        refine lv_i2l (v := Int32.toInt64 (xs (i + 2))) hx hb d_La_law_282 rfl ?_
        refine lv_bipush (v := nI 32) hx hb d_La_law_283 (by decide) ?_
        refine lv_lshl hx hb d_La_law_285 rfl ?_
        refine zrd hx hb hX hbl hbA B.2.2.2.1 hl 3 (by decide) (by omega) (by omega) d_La_law_286 d_La_law_287 d_La_law_288 d_La_law_289 d_La_law_290 ?_
        refine lv_i2l (v := Int32.toInt64 (xs (i + 3))) hx hb d_La_law_291 rfl ?_
        refine lv_ldc2 (v := 4294967295) hx hb hown (hts _ w_609) d_La_law_292 ?_
        refine lv_land hx hb d_La_law_295 ?_
        refine lv_lor hx hb d_La_law_296 ?_
        refine zcV_i (As := [.int (xs (i + 1)), .long ((Int32.toInt64 (xs (i + 2)) <<< (Int32.toInt64 (nI 32) &&& 63)) ||| (Int32.toInt64 (xs (i + 3)) &&& 4294967295))]) (rest := []) ⟨hx, hb, hml, hown, hts⟩ (c_Ut_safe l κ σ (xs (i + 1)) ((Int32.toInt64 (xs (i + 2)) <<< (Int32.toInt64 (nI 32) &&& 63)) ||| (Int32.toInt64 (xs (i + 3)) &&& 4294967295)) hn) (cwV 2 hts (zgoodV w_227 w_228 w_229 w_1 w_230) rfl rfl rfl (by decide +kernel) ⟨Nat.le_of_ble_eq_true rfl, Nat.le_of_ble_eq_true rfl⟩) B (zrecv B (ci := 5) rfl (wa_0 κ σ)) rfl hl.1 rfl (Nat.le_of_ble_eq_true rfl) d_La_law_297 ⟨Nat.le_of_ble_eq_true rfl, Nat.le_of_ble_eq_true rfl⟩ (fun r1 σ1 H locs hp B => ?_)
        obtain ⟨hr1, hs1⟩ := hp
        rw [← hs1] at K
        refine lv_aload_n hx hb d_La_law_300 rfl (lv_at hl 2 rfl) ?_
        refine zrd hx hb hX hbl hbA B.2.2.2.1 hl 1 (by decide) (by omega) (by omega) d_La_law_301 d_La_law_302 d_La_law_303 d_La_law_304 d_La_law_305 ?_
        refine zrd hx hb hX hbl hbA B.2.2.2.1 hl 2 (by decide) (by omega) (by omega) d_La_law_306 d_La_law_307 d_La_law_308 d_La_law_309 d_La_law_310 ?_
        refine lv_i2l (v := Int32.toInt64 (xs (i + 2))) hx hb d_La_law_311 rfl ?_
        refine lv_bipush (v := nI 32) hx hb d_La_law_312 (by decide) ?_
        refine lv_lshl hx hb d_La_law_314 rfl ?_
        refine zrd hx hb hX hbl hbA B.2.2.2.1 hl 3 (by decide) (by omega) (by omega) d_La_law_315 d_La_law_316 d_La_law_317 d_La_law_318 d_La_law_319 ?_
        refine lv_i2l (v := Int32.toInt64 (xs (i + 3))) hx hb d_La_law_320 rfl ?_
        refine lv_ldc2 (v := 4294967295) hx hb hown (hts _ w_609) d_La_law_321 ?_
        refine lv_land hx hb d_La_law_324 ?_
        refine lv_lor hx hb d_La_law_325 ?_
        refine zcV_i (As := [.int (xs (i + 1)), .long ((Int32.toInt64 (xs (i + 2)) <<< (Int32.toInt64 (nI 32) &&& 63)) ||| (Int32.toInt64 (xs (i + 3)) &&& 4294967295))]) (rest := [.int r1]) ⟨hx, hb, hml, hown, hts⟩ (c_Mo_safe l κ σ1 (xs (i + 1)) ((Int32.toInt64 (xs (i + 2)) <<< (Int32.toInt64 (nI 32) &&& 63)) ||| (Int32.toInt64 (xs (i + 3)) &&& 4294967295)) hn) (cwV 2 hts (zgoodV w_519 w_520 w_521 w_9 w_522) rfl rfl rfl (by decide +kernel) ⟨Nat.le_of_ble_eq_true rfl, Nat.le_of_ble_eq_true rfl⟩) B (zrecv B (ci := 6) rfl (wa_21 κ σ1)) rfl hl.1 rfl (Nat.le_of_ble_eq_true rfl) d_La_law_326 ⟨Nat.le_of_ble_eq_true rfl, Nat.le_of_ble_eq_true rfl⟩ (fun r2 σ2 H locs hp B => ?_)
        obtain ⟨hr2, hs2⟩ := hp
        rw [← hs2] at K
        refine lv_icmp_eq (tgt := 635) hx hb d_La_law_329 (by decide) (fun c_2 => ?_) (fun c_2 => ?_)
        · exact next _ K.2.2 _ _ B
        · exact absurd (by rw [hr1, hr2, K.2.1]) c_2
      by_cases h4 : x = 4
      · refine lv_tableIn (off := 291) (tgt := 334) hx hb d_La_law_43 (by rw [h4]; decide) (by rw [h4]; decide) (by rw [h4]; decide) (by decide) ?_
        have K := st_bar hR (xs (i + 1)) (xs (i + 2))
        refine lv_aload_n hx hb d_La_law_334 rfl (lv_at hl 1 rfl) ?_
        refine zrd hx hb hX hbl hbA B.2.2.2.1 hl 1 (by decide) (by omega) (by omega) d_La_law_335 d_La_law_336 d_La_law_337 d_La_law_338 d_La_law_339 ?_
        refine zrd hx hb hX hbl hbA B.2.2.2.1 hl 2 (by decide) (by omega) (by omega) d_La_law_340 d_La_law_341 d_La_law_342 d_La_law_343 d_La_law_344 ?_
        refine zcV_i (As := [.int (xs (i + 1)), .int (xs (i + 2))]) (rest := []) ⟨hx, hb, hml, hown, hts⟩ (c_Ut_bar l κ σ (xs (i + 1)) (xs (i + 2)) ) (cwV 2 hts (zgoodV w_235 w_236 w_237 w_1 w_238) rfl rfl rfl (by decide +kernel) ⟨Nat.le_of_ble_eq_true rfl, Nat.le_of_ble_eq_true rfl⟩) B (zrecv B (ci := 5) rfl (wa_0 κ σ)) rfl hl.1 rfl (Nat.le_of_ble_eq_true rfl) d_La_law_345 ⟨Nat.le_of_ble_eq_true rfl, Nat.le_of_ble_eq_true rfl⟩ (fun r1 σ1 H locs hp B => ?_)
        obtain ⟨hr1, hs1⟩ := hp
        rw [← hs1] at K
        refine lv_aload_n hx hb d_La_law_348 rfl (lv_at hl 2 rfl) ?_
        refine zrd hx hb hX hbl hbA B.2.2.2.1 hl 1 (by decide) (by omega) (by omega) d_La_law_349 d_La_law_350 d_La_law_351 d_La_law_352 d_La_law_353 ?_
        refine zrd hx hb hX hbl hbA B.2.2.2.1 hl 2 (by decide) (by omega) (by omega) d_La_law_354 d_La_law_355 d_La_law_356 d_La_law_357 d_La_law_358 ?_
        refine zcV_i (As := [.int (xs (i + 1)), .int (xs (i + 2))]) (rest := [.int r1]) ⟨hx, hb, hml, hown, hts⟩ (c_Mo_bar l κ σ1 (xs (i + 1)) (xs (i + 2)) ) (cwV 2 hts (zgoodV w_523 w_524 w_525 w_9 w_526) rfl rfl rfl (by decide +kernel) ⟨Nat.le_of_ble_eq_true rfl, Nat.le_of_ble_eq_true rfl⟩) B (zrecv B (ci := 6) rfl (wa_21 κ σ1)) rfl hl.1 rfl (Nat.le_of_ble_eq_true rfl) d_La_law_359 ⟨Nat.le_of_ble_eq_true rfl, Nat.le_of_ble_eq_true rfl⟩ (fun r2 σ2 H locs hp B => ?_)
        obtain ⟨hr2, hs2⟩ := hp
        rw [← hs2] at K
        refine lv_icmp_eq (tgt := 635) hx hb d_La_law_362 (by decide) (fun c_2 => ?_) (fun c_2 => ?_)
        · exact next _ K.2.2 _ _ B
        · exact absurd (by rw [hr1, hr2, K.2.1]) c_2
      by_cases h5 : x = 5
      · refine lv_tableIn (off := 324) (tgt := 367) hx hb d_La_law_43 (by rw [h5]; decide) (by rw [h5]; decide) (by rw [h5]; decide) (by decide) ?_
        have K := st_play hR hn ((Int32.toInt64 (xs (i + 1)) <<< (Int32.toInt64 (nI 32) &&& 63)) ||| (Int32.toInt64 (xs (i + 2)) &&& 4294967295)) (xs (i + 3))
        refine lv_aload_n hx hb d_La_law_367 rfl (lv_at hl 1 rfl) ?_
        refine zrd hx hb hX hbl hbA B.2.2.2.1 hl 1 (by decide) (by omega) (by omega) d_La_law_368 d_La_law_369 d_La_law_370 d_La_law_371 d_La_law_372 ?_
        refine lv_i2l (v := Int32.toInt64 (xs (i + 1))) hx hb d_La_law_373 rfl ?_
        refine lv_bipush (v := nI 32) hx hb d_La_law_374 (by decide) ?_
        refine lv_lshl hx hb d_La_law_376 rfl ?_
        refine zrd hx hb hX hbl hbA B.2.2.2.1 hl 2 (by decide) (by omega) (by omega) d_La_law_377 d_La_law_378 d_La_law_379 d_La_law_380 d_La_law_381 ?_
        refine lv_i2l (v := Int32.toInt64 (xs (i + 2))) hx hb d_La_law_382 rfl ?_
        refine lv_ldc2 (v := 4294967295) hx hb hown (hts _ w_609) d_La_law_383 ?_
        refine lv_land hx hb d_La_law_386 ?_
        refine lv_lor hx hb d_La_law_387 ?_
        refine zrd hx hb hX hbl hbA B.2.2.2.1 hl 3 (by decide) (by omega) (by omega) d_La_law_388 d_La_law_389 d_La_law_390 d_La_law_391 d_La_law_392 ?_
        refine zcV_i (As := [.long ((Int32.toInt64 (xs (i + 1)) <<< (Int32.toInt64 (nI 32) &&& 63)) ||| (Int32.toInt64 (xs (i + 2)) &&& 4294967295)), .int (xs (i + 3))]) (rest := []) ⟨hx, hb, hml, hown, hts⟩ (c_Ut_play l κ σ ((Int32.toInt64 (xs (i + 1)) <<< (Int32.toInt64 (nI 32) &&& 63)) ||| (Int32.toInt64 (xs (i + 2)) &&& 4294967295)) (xs (i + 3)) hn E hE3 bb (InvX_Rl hR) hb64) (cwV 2 hts (zgoodV w_242 w_243 w_244 w_1 w_245) rfl rfl rfl (by decide +kernel) ⟨Nat.le_of_ble_eq_true rfl, Nat.le_of_ble_eq_true rfl⟩) B (zrecv B (ci := 5) rfl (wa_0 κ σ)) rfl hl.1 rfl (Nat.le_of_ble_eq_true rfl) d_La_law_393 ⟨Nat.le_of_ble_eq_true rfl, Nat.le_of_ble_eq_true rfl⟩ (fun r1 σ1 H locs hp B => ?_)
        obtain ⟨hr1, hs1⟩ := hp
        rw [← hs1] at K
        refine lv_aload_n hx hb d_La_law_396 rfl (lv_at hl 2 rfl) ?_
        refine zrd hx hb hX hbl hbA B.2.2.2.1 hl 1 (by decide) (by omega) (by omega) d_La_law_397 d_La_law_398 d_La_law_399 d_La_law_400 d_La_law_401 ?_
        refine lv_i2l (v := Int32.toInt64 (xs (i + 1))) hx hb d_La_law_402 rfl ?_
        refine lv_bipush (v := nI 32) hx hb d_La_law_403 (by decide) ?_
        refine lv_lshl hx hb d_La_law_405 rfl ?_
        refine zrd hx hb hX hbl hbA B.2.2.2.1 hl 2 (by decide) (by omega) (by omega) d_La_law_406 d_La_law_407 d_La_law_408 d_La_law_409 d_La_law_410 ?_
        refine lv_i2l (v := Int32.toInt64 (xs (i + 2))) hx hb d_La_law_411 rfl ?_
        refine lv_ldc2 (v := 4294967295) hx hb hown (hts _ w_609) d_La_law_412 ?_
        refine lv_land hx hb d_La_law_415 ?_
        refine lv_lor hx hb d_La_law_416 ?_
        refine zrd hx hb hX hbl hbA B.2.2.2.1 hl 3 (by decide) (by omega) (by omega) d_La_law_417 d_La_law_418 d_La_law_419 d_La_law_420 d_La_law_421 ?_
        refine zcV_i (As := [.long ((Int32.toInt64 (xs (i + 1)) <<< (Int32.toInt64 (nI 32) &&& 63)) ||| (Int32.toInt64 (xs (i + 2)) &&& 4294967295)), .int (xs (i + 3))]) (rest := [.int r1]) ⟨hx, hb, hml, hown, hts⟩ (c_Mo_play l κ σ1 ((Int32.toInt64 (xs (i + 1)) <<< (Int32.toInt64 (nI 32) &&& 63)) ||| (Int32.toInt64 (xs (i + 2)) &&& 4294967295)) (xs (i + 3)) hn E bb t hE3 (InvM_Rl K.1 hn) hb64 htn) (cwV 2 hts (zgoodV w_527 w_528 w_529 w_9 w_530) rfl rfl rfl (by decide +kernel) ⟨Nat.le_of_ble_eq_true rfl, Nat.le_of_ble_eq_true rfl⟩) B (zrecv B (ci := 6) rfl (wa_21 κ σ1)) rfl hl.1 rfl (Nat.le_of_ble_eq_true rfl) d_La_law_422 ⟨Nat.le_of_ble_eq_true rfl, Nat.le_of_ble_eq_true rfl⟩ (fun r2 σ2 H locs hp B => ?_)
        obtain ⟨hr2, hs2⟩ := hp
        rw [← hs2] at K
        refine lv_icmp_eq (tgt := 635) hx hb d_La_law_425 (by decide) (fun c_2 => ?_) (fun c_2 => ?_)
        · exact next _ K.2.2 _ _ B
        · exact absurd (by rw [hr1, hr2, K.2.1]) c_2
      by_cases h6 : x = 6
      · refine lv_tableIn (off := 387) (tgt := 430) hx hb d_La_law_43 (by rw [h6]; decide) (by rw [h6]; decide) (by rw [h6]; decide) (by decide) ?_
        have K := op_output hR h1n hn (xs (i + 1)) (xs (i + 2))
        refine lv_aload_n hx hb d_La_law_430 rfl (lv_at hl 1 rfl) ?_
        refine zrd hx hb hX hbl hbA B.2.2.2.1 hl 1 (by decide) (by omega) (by omega) d_La_law_431 d_La_law_432 d_La_law_433 d_La_law_434 d_La_law_435 ?_
        refine zrd hx hb hX hbl hbA B.2.2.2.1 hl 2 (by decide) (by omega) (by omega) d_La_law_436 d_La_law_437 d_La_law_438 d_La_law_439 d_La_law_440 ?_
        refine zcV_l (As := [.int (xs (i + 1)), .int (xs (i + 2))]) (rest := []) ⟨hx, hb, hml, hown, hts⟩ (c_Ut_output l κ σ (xs (i + 1)) (xs (i + 2)) hn bb hR.2.2.2.2.1.1 hb64) (cwV 2 hts (zgoodV w_345 w_346 w_347 w_1 w_348) rfl rfl rfl (by decide +kernel) ⟨Nat.le_of_ble_eq_true rfl, Nat.le_of_ble_eq_true rfl⟩) B (zrecv B (ci := 5) rfl (wa_0 κ σ)) rfl hl.1 rfl (Nat.le_of_ble_eq_true rfl) d_La_law_441 ⟨Nat.le_of_ble_eq_true rfl, Nat.le_of_ble_eq_true rfl⟩ (fun r1 σ1 H locs hp B => ?_)
        obtain ⟨hr1, hs1⟩ := hp
        rw [hs1] at B
        refine lv_aload_n hx hb d_La_law_444 rfl (lv_at hl 2 rfl) ?_
        refine zrd hx hb hX hbl hbA B.2.2.2.1 hl 1 (by decide) (by omega) (by omega) d_La_law_445 d_La_law_446 d_La_law_447 d_La_law_448 d_La_law_449 ?_
        refine zrd hx hb hX hbl hbA B.2.2.2.1 hl 2 (by decide) (by omega) (by omega) d_La_law_450 d_La_law_451 d_La_law_452 d_La_law_453 d_La_law_454 ?_
        refine zcV_l (As := [.int (xs (i + 1)), .int (xs (i + 2))]) (rest := [.long r1]) ⟨hx, hb, hml, hown, hts⟩ (c_Mo_output l κ σ (xs (i + 1)) (xs (i + 2)) hn bb hR.2.2.2.2.1.2.1 hb64) (cwV 2 hts (zgoodV w_577 w_578 w_579 w_9 w_580) rfl rfl rfl (by decide +kernel) ⟨Nat.le_of_ble_eq_true rfl, Nat.le_of_ble_eq_true rfl⟩) B (zrecv B (ci := 6) rfl (wa_21 κ σ)) rfl hl.1 rfl (Nat.le_of_ble_eq_true rfl) d_La_law_455 ⟨Nat.le_of_ble_eq_true rfl, Nat.le_of_ble_eq_true rfl⟩ (fun r2 σ2 H locs hp B => ?_)
        obtain ⟨hr2, hs2⟩ := hp
        rw [hs2] at B
        refine W.lcmp hx hb d_La_law_458 ?_
        refine lv_if_eq (tgt := 635) hx hb d_La_law_459 (by decide) (fun c_2 => ?_) (fun c_2 => ?_)
        · exact next σ ⟨E, bb, t, hR⟩ _ _ B
        · exact absurd ((lg_cmp_eq r1 r2).mpr (by rw [hr1, hr2, K])) c_2
      by_cases h7 : x = 7
      · refine lv_tableIn (off := 421) (tgt := 464) hx hb d_La_law_43 (by rw [h7]; decide) (by rw [h7]; decide) (by rw [h7]; decide) (by decide) ?_
        have K := op_owner hR (xs (i + 1)) (xs (i + 2))
        refine lv_aload_n hx hb d_La_law_464 rfl (lv_at hl 1 rfl) ?_
        refine zrd hx hb hX hbl hbA B.2.2.2.1 hl 1 (by decide) (by omega) (by omega) d_La_law_465 d_La_law_466 d_La_law_467 d_La_law_468 d_La_law_469 ?_
        refine zrd hx hb hX hbl hbA B.2.2.2.1 hl 2 (by decide) (by omega) (by omega) d_La_law_470 d_La_law_471 d_La_law_472 d_La_law_473 d_La_law_474 ?_
        refine zcV_i (As := [.int (xs (i + 1)), .int (xs (i + 2))]) (rest := []) ⟨hx, hb, hml, hown, hts⟩ (c_Ut_owner l κ σ (xs (i + 1)) (xs (i + 2)) bb hR.2.2.2.2.1.1 hb64) (cwV 2 hts (zgoodV w_358 w_359 w_360 w_1 w_361) rfl rfl rfl (by decide +kernel) ⟨Nat.le_of_ble_eq_true rfl, Nat.le_of_ble_eq_true rfl⟩) B (zrecv B (ci := 5) rfl (wa_0 κ σ)) rfl hl.1 rfl (Nat.le_of_ble_eq_true rfl) d_La_law_475 ⟨Nat.le_of_ble_eq_true rfl, Nat.le_of_ble_eq_true rfl⟩ (fun r1 σ1 H locs hp B => ?_)
        obtain ⟨hr1, hs1⟩ := hp
        rw [hs1] at B
        refine lv_aload_n hx hb d_La_law_478 rfl (lv_at hl 2 rfl) ?_
        refine zrd hx hb hX hbl hbA B.2.2.2.1 hl 1 (by decide) (by omega) (by omega) d_La_law_479 d_La_law_480 d_La_law_481 d_La_law_482 d_La_law_483 ?_
        refine zrd hx hb hX hbl hbA B.2.2.2.1 hl 2 (by decide) (by omega) (by omega) d_La_law_484 d_La_law_485 d_La_law_486 d_La_law_487 d_La_law_488 ?_
        refine zcV_i (As := [.int (xs (i + 1)), .int (xs (i + 2))]) (rest := [.int r1]) ⟨hx, hb, hml, hown, hts⟩ (c_Mo_owner l κ σ (xs (i + 1)) (xs (i + 2)) bb hR.2.2.2.2.1.2.1 hb64) (cwV 2 hts (zgoodV w_581 w_582 w_583 w_9 w_584) rfl rfl rfl (by decide +kernel) ⟨Nat.le_of_ble_eq_true rfl, Nat.le_of_ble_eq_true rfl⟩) B (zrecv B (ci := 6) rfl (wa_21 κ σ)) rfl hl.1 rfl (Nat.le_of_ble_eq_true rfl) d_La_law_489 ⟨Nat.le_of_ble_eq_true rfl, Nat.le_of_ble_eq_true rfl⟩ (fun r2 σ2 H locs hp B => ?_)
        obtain ⟨hr2, hs2⟩ := hp
        rw [hs2] at B
        refine lv_icmp_eq (tgt := 635) hx hb d_La_law_492 (by decide) (fun c_2 => ?_) (fun c_2 => ?_)
        · exact next σ ⟨E, bb, t, hR⟩ _ _ B
        · exact absurd (by rw [hr1, hr2, K]) c_2
      by_cases h8 : x = 8
      · refine lv_tableIn (off := 454) (tgt := 497) hx hb d_La_law_43 (by rw [h8]; decide) (by rw [h8]; decide) (by rw [h8]; decide) (by decide) ?_
        have K := op_state hR h1n hn (xs (i + 1))
        refine lv_aload_n hx hb d_La_law_497 rfl (lv_at hl 1 rfl) ?_
        refine zrd hx hb hX hbl hbA B.2.2.2.1 hl 1 (by decide) (by omega) (by omega) d_La_law_498 d_La_law_499 d_La_law_500 d_La_law_501 d_La_law_502 ?_
        refine zcV_i (As := [.int (xs (i + 1))]) (rest := []) ⟨hx, hb, hml, hown, hts⟩ (c_Ut_state l κ σ (xs (i + 1)) hn) (cwV 1 hts (zgoodV w_367 w_368 w_369 w_1 w_370) rfl rfl rfl (by decide +kernel) ⟨Nat.le_of_ble_eq_true rfl, Nat.le_of_ble_eq_true rfl⟩) B (zrecv B (ci := 5) rfl (wa_0 κ σ)) rfl hl.1 rfl (Nat.le_of_ble_eq_true rfl) d_La_law_503 ⟨Nat.le_of_ble_eq_true rfl, Nat.le_of_ble_eq_true rfl⟩ (fun r1 σ1 H locs hp B => ?_)
        obtain ⟨hr1, hs1⟩ := hp
        rw [hs1] at B
        refine lv_aload_n hx hb d_La_law_506 rfl (lv_at hl 2 rfl) ?_
        refine zrd hx hb hX hbl hbA B.2.2.2.1 hl 1 (by decide) (by omega) (by omega) d_La_law_507 d_La_law_508 d_La_law_509 d_La_law_510 d_La_law_511 ?_
        refine zcV_i (As := [.int (xs (i + 1))]) (rest := [.int r1]) ⟨hx, hb, hml, hown, hts⟩ (c_Mo_state l κ σ (xs (i + 1)) hn E hR.1.2.1 hE3) (cwV 1 hts (zgoodV w_585 w_586 w_587 w_9 w_588) rfl rfl rfl (by decide +kernel) ⟨Nat.le_of_ble_eq_true rfl, Nat.le_of_ble_eq_true rfl⟩) B (zrecv B (ci := 6) rfl (wa_21 κ σ)) rfl hl.1 rfl (Nat.le_of_ble_eq_true rfl) d_La_law_512 ⟨Nat.le_of_ble_eq_true rfl, Nat.le_of_ble_eq_true rfl⟩ (fun r2 σ2 H locs hp B => ?_)
        obtain ⟨hr2, hs2⟩ := hp
        rw [hs2] at B
        refine lv_icmp_eq (tgt := 635) hx hb d_La_law_515 (by decide) (fun c_2 => ?_) (fun c_2 => ?_)
        · exact next σ ⟨E, bb, t, hR⟩ _ _ B
        · exact absurd (by rw [hr1, hr2, K]) c_2
      by_cases h9 : x = 9
      · refine lv_tableIn (off := 477) (tgt := 520) hx hb d_La_law_43 (by rw [h9]; decide) (by rw [h9]; decide) (by rw [h9]; decide) (by decide) ?_
        have K := st_rest hR h1n hn (xs (i + 1))
        refine lv_aload_n hx hb d_La_law_520 rfl (lv_at hl 1 rfl) ?_
        refine zrd hx hb hX hbl hbA B.2.2.2.1 hl 1 (by decide) (by omega) (by omega) d_La_law_521 d_La_law_522 d_La_law_523 d_La_law_524 d_La_law_525 ?_
        refine zcV_i (As := [.int (xs (i + 1))]) (rest := []) ⟨hx, hb, hml, hown, hts⟩ (c_Ut_restart l κ σ (xs (i + 1)) hn) (cwV 1 hts (zgoodV w_371 w_372 w_373 w_1 w_374) rfl rfl rfl (by decide +kernel) ⟨Nat.le_of_ble_eq_true rfl, Nat.le_of_ble_eq_true rfl⟩) B (zrecv B (ci := 5) rfl (wa_0 κ σ)) rfl hl.1 rfl (Nat.le_of_ble_eq_true rfl) d_La_law_526 ⟨Nat.le_of_ble_eq_true rfl, Nat.le_of_ble_eq_true rfl⟩ (fun r1 σ1 H locs hp B => ?_)
        obtain ⟨hr1, hs1⟩ := hp
        rw [← hs1] at K
        refine lv_aload_n hx hb d_La_law_529 rfl (lv_at hl 2 rfl) ?_
        refine zrd hx hb hX hbl hbA B.2.2.2.1 hl 1 (by decide) (by omega) (by omega) d_La_law_530 d_La_law_531 d_La_law_532 d_La_law_533 d_La_law_534 ?_
        refine zcV_i (As := [.int (xs (i + 1))]) (rest := [.int r1]) ⟨hx, hb, hml, hown, hts⟩ (c_Mo_restart l κ σ1 (xs (i + 1)) hn) (cwV 1 hts (zgoodV w_589 w_590 w_591 w_9 w_592) rfl rfl rfl (by decide +kernel) ⟨Nat.le_of_ble_eq_true rfl, Nat.le_of_ble_eq_true rfl⟩) B (zrecv B (ci := 6) rfl (wa_21 κ σ1)) rfl hl.1 rfl (Nat.le_of_ble_eq_true rfl) d_La_law_535 ⟨Nat.le_of_ble_eq_true rfl, Nat.le_of_ble_eq_true rfl⟩ (fun r2 σ2 H locs hp B => ?_)
        obtain ⟨hr2, hs2⟩ := hp
        rw [← hs2] at K
        refine lv_icmp_eq (tgt := 635) hx hb d_La_law_538 (by decide) (fun c_2 => ?_) (fun c_2 => ?_)
        · exact next _ K.2.2 _ _ B
        · exact absurd (by rw [hr1, hr2, K.2.1]) c_2
      by_cases h10 : x = 10
      · refine lv_tableIn (off := 500) (tgt := 543) hx hb d_La_law_43 (by rw [h10]; decide) (by rw [h10]; decide) (by rw [h10]; decide) (by decide) ?_
        have K := op_held hR h1n hn (xs (i + 1))
        refine lv_aload_n hx hb d_La_law_543 rfl (lv_at hl 1 rfl) ?_
        refine zrd hx hb hX hbl hbA B.2.2.2.1 hl 1 (by decide) (by omega) (by omega) d_La_law_544 d_La_law_545 d_La_law_546 d_La_law_547 d_La_law_548 ?_
        refine zcV_i (As := [.int (xs (i + 1))]) (rest := []) ⟨hx, hb, hml, hown, hts⟩ (c_Ut_held l κ σ (xs (i + 1)) hn) (cwV 1 hts (zgoodV w_375 w_376 w_377 w_1 w_378) rfl rfl rfl (by decide +kernel) ⟨Nat.le_of_ble_eq_true rfl, Nat.le_of_ble_eq_true rfl⟩) B (zrecv B (ci := 5) rfl (wa_0 κ σ)) rfl hl.1 rfl (Nat.le_of_ble_eq_true rfl) d_La_law_549 ⟨Nat.le_of_ble_eq_true rfl, Nat.le_of_ble_eq_true rfl⟩ (fun r1 σ1 H locs hp B => ?_)
        obtain ⟨hr1, hs1⟩ := hp
        rw [hs1] at B
        refine lv_aload_n hx hb d_La_law_552 rfl (lv_at hl 2 rfl) ?_
        refine zrd hx hb hX hbl hbA B.2.2.2.1 hl 1 (by decide) (by omega) (by omega) d_La_law_553 d_La_law_554 d_La_law_555 d_La_law_556 d_La_law_557 ?_
        refine zcV_i (As := [.int (xs (i + 1))]) (rest := [.int r1]) ⟨hx, hb, hml, hown, hts⟩ (c_Mo_held l κ σ (xs (i + 1)) hn) (cwV 1 hts (zgoodV w_593 w_594 w_595 w_9 w_596) rfl rfl rfl (by decide +kernel) ⟨Nat.le_of_ble_eq_true rfl, Nat.le_of_ble_eq_true rfl⟩) B (zrecv B (ci := 6) rfl (wa_21 κ σ)) rfl hl.1 rfl (Nat.le_of_ble_eq_true rfl) d_La_law_558 ⟨Nat.le_of_ble_eq_true rfl, Nat.le_of_ble_eq_true rfl⟩ (fun r2 σ2 H locs hp B => ?_)
        obtain ⟨hr2, hs2⟩ := hp
        rw [hs2] at B
        refine lv_icmp_eq (tgt := 635) hx hb d_La_law_561 (by decide) (fun c_2 => ?_) (fun c_2 => ?_)
        · exact next σ ⟨E, bb, t, hR⟩ _ _ B
        · exact absurd (by rw [hr1, hr2, K]) c_2
      by_cases h11 : x = 11
      · refine lv_tableIn (off := 523) (tgt := 566) hx hb d_La_law_43 (by rw [h11]; decide) (by rw [h11]; decide) (by rw [h11]; decide) (by decide) ?_
        have K := op_log hR hn (xs (i + 1)) (xs (i + 2))
        refine lv_aload_n hx hb d_La_law_566 rfl (lv_at hl 1 rfl) ?_
        refine zrd hx hb hX hbl hbA B.2.2.2.1 hl 1 (by decide) (by omega) (by omega) d_La_law_567 d_La_law_568 d_La_law_569 d_La_law_570 d_La_law_571 ?_
        refine zrd hx hb hX hbl hbA B.2.2.2.1 hl 2 (by decide) (by omega) (by omega) d_La_law_572 d_La_law_573 d_La_law_574 d_La_law_575 d_La_law_576 ?_
        refine zcV_i (As := [.int (xs (i + 1)), .int (xs (i + 2))]) (rest := []) ⟨hx, hb, hml, hown, hts⟩ (c_Ut_log l κ σ (xs (i + 1)) (xs (i + 2)) hn t hR.2.2.2.2.2.2.1.1 htm) (cwV 2 hts (zgoodV w_379 w_380 w_381 w_1 w_382) rfl rfl rfl (by decide +kernel) ⟨Nat.le_of_ble_eq_true rfl, Nat.le_of_ble_eq_true rfl⟩) B (zrecv B (ci := 5) rfl (wa_0 κ σ)) rfl hl.1 rfl (Nat.le_of_ble_eq_true rfl) d_La_law_577 ⟨Nat.le_of_ble_eq_true rfl, Nat.le_of_ble_eq_true rfl⟩ (fun r1 σ1 H locs hp B => ?_)
        obtain ⟨hr1, hs1⟩ := hp
        rw [hs1] at B
        refine lv_aload_n hx hb d_La_law_580 rfl (lv_at hl 2 rfl) ?_
        refine zrd hx hb hX hbl hbA B.2.2.2.1 hl 1 (by decide) (by omega) (by omega) d_La_law_581 d_La_law_582 d_La_law_583 d_La_law_584 d_La_law_585 ?_
        refine zrd hx hb hX hbl hbA B.2.2.2.1 hl 2 (by decide) (by omega) (by omega) d_La_law_586 d_La_law_587 d_La_law_588 d_La_law_589 d_La_law_590 ?_
        refine zcV_i (As := [.int (xs (i + 1)), .int (xs (i + 2))]) (rest := [.int r1]) ⟨hx, hb, hml, hown, hts⟩ (c_Mo_log l κ σ (xs (i + 1)) (xs (i + 2)) t hR.2.2.2.2.2.2.1.2.1 (by omega)) (cwV 2 hts (zgoodV w_597 w_598 w_599 w_9 w_600) rfl rfl rfl (by decide +kernel) ⟨Nat.le_of_ble_eq_true rfl, Nat.le_of_ble_eq_true rfl⟩) B (zrecv B (ci := 6) rfl (wa_21 κ σ)) rfl hl.1 rfl (Nat.le_of_ble_eq_true rfl) d_La_law_591 ⟨Nat.le_of_ble_eq_true rfl, Nat.le_of_ble_eq_true rfl⟩ (fun r2 σ2 H locs hp B => ?_)
        obtain ⟨hr2, hs2⟩ := hp
        rw [hs2] at B
        refine lv_icmp_eq (tgt := 635) hx hb d_La_law_594 (by decide) (fun c_2 => ?_) (fun c_2 => ?_)
        · exact next σ ⟨E, bb, t, hR⟩ _ _ B
        · exact absurd (by rw [hr1, hr2, K]) c_2
      by_cases h12 : x = 12
      · refine lv_tableIn (off := 556) (tgt := 599) hx hb d_La_law_43 (by rw [h12]; decide) (by rw [h12]; decide) (by rw [h12]; decide) (by decide) ?_
        have K := op_count hR h1n hn (xs (i + 1))
        refine lv_aload_n hx hb d_La_law_599 rfl (lv_at hl 1 rfl) ?_
        refine zrd hx hb hX hbl hbA B.2.2.2.1 hl 1 (by decide) (by omega) (by omega) d_La_law_600 d_La_law_601 d_La_law_602 d_La_law_603 d_La_law_604 ?_
        refine zcV_i (As := [.int (xs (i + 1))]) (rest := []) ⟨hx, hb, hml, hown, hts⟩ (c_Ut_count l κ σ (xs (i + 1)) hn) (cwV 1 hts (zgoodV w_387 w_388 w_389 w_1 w_390) rfl rfl rfl (by decide +kernel) ⟨Nat.le_of_ble_eq_true rfl, Nat.le_of_ble_eq_true rfl⟩) B (zrecv B (ci := 5) rfl (wa_0 κ σ)) rfl hl.1 rfl (Nat.le_of_ble_eq_true rfl) d_La_law_605 ⟨Nat.le_of_ble_eq_true rfl, Nat.le_of_ble_eq_true rfl⟩ (fun r1 σ1 H locs hp B => ?_)
        obtain ⟨hr1, hs1⟩ := hp
        rw [hs1] at B
        refine lv_aload_n hx hb d_La_law_608 rfl (lv_at hl 2 rfl) ?_
        refine zrd hx hb hX hbl hbA B.2.2.2.1 hl 1 (by decide) (by omega) (by omega) d_La_law_609 d_La_law_610 d_La_law_611 d_La_law_612 d_La_law_613 ?_
        refine zcV_i (As := [.int (xs (i + 1))]) (rest := [.int r1]) ⟨hx, hb, hml, hown, hts⟩ (c_Mo_count l κ σ (xs (i + 1)) hn E hR.1.2.1 hE3) (cwV 1 hts (zgoodV w_601 w_602 w_603 w_9 w_604) rfl rfl rfl (by decide +kernel) ⟨Nat.le_of_ble_eq_true rfl, Nat.le_of_ble_eq_true rfl⟩) B (zrecv B (ci := 6) rfl (wa_21 κ σ)) rfl hl.1 rfl (Nat.le_of_ble_eq_true rfl) d_La_law_614 ⟨Nat.le_of_ble_eq_true rfl, Nat.le_of_ble_eq_true rfl⟩ (fun r2 σ2 H locs hp B => ?_)
        obtain ⟨hr2, hs2⟩ := hp
        rw [hs2] at B
        refine lv_icmp_eq (tgt := 635) hx hb d_La_law_617 (by decide) (fun c_2 => ?_) (fun c_2 => ?_)
        · exact next σ ⟨E, bb, t, hR⟩ _ _ B
        · exact absurd (by rw [hr1, hr2, K]) c_2
      by_cases h13 : x = 13
      · refine lv_tableIn (off := 579) (tgt := 622) hx hb d_La_law_43 (by rw [h13]; decide) (by rw [h13]; decide) (by rw [h13]; decide) (by decide) ?_
        have K := st_close hR hn
        refine lv_aload_n hx hb d_La_law_622 rfl (lv_at hl 1 rfl) ?_
        refine zcV_i (As := []) (rest := []) ⟨hx, hb, hml, hown, hts⟩ (c_Ut_close l κ σ  hn) (cwV 0 hts (zgoodV w_391 w_392 w_393 w_1 w_394) rfl rfl rfl (by decide +kernel) ⟨Nat.le_of_ble_eq_true rfl, Nat.le_of_ble_eq_true rfl⟩) B (zrecv B (ci := 5) rfl (wa_0 κ σ)) rfl hl.1 rfl (Nat.le_of_ble_eq_true rfl) d_La_law_623 ⟨Nat.le_of_ble_eq_true rfl, Nat.le_of_ble_eq_true rfl⟩ (fun r1 σ1 H locs hp B => ?_)
        obtain ⟨hr1, hs1⟩ := hp
        rw [← hs1] at K
        refine lv_aload_n hx hb d_La_law_626 rfl (lv_at hl 2 rfl) ?_
        refine zcV_i (As := []) (rest := [.int r1]) ⟨hx, hb, hml, hown, hts⟩ (c_Mo_close l κ σ1  hn E K.1.1.2.1 hE3) (cwV 0 hts (zgoodV w_605 w_606 w_607 w_9 w_608) rfl rfl rfl (by decide +kernel) ⟨Nat.le_of_ble_eq_true rfl, Nat.le_of_ble_eq_true rfl⟩) B (zrecv B (ci := 6) rfl (wa_21 κ σ1)) rfl hl.1 rfl (Nat.le_of_ble_eq_true rfl) d_La_law_627 ⟨Nat.le_of_ble_eq_true rfl, Nat.le_of_ble_eq_true rfl⟩ (fun r2 σ2 H locs hp B => ?_)
        obtain ⟨hr2, hs2⟩ := hp
        rw [← hs2] at K
        refine lv_icmp_eq (tgt := 635) hx hb d_La_law_630 (by decide) (fun c_2 => ?_) (fun c_2 => ?_)
        · exact next _ K.2.2 _ _ B
        · exact absurd (by rw [hr1, hr2, K.2.1]) c_2
      have hout : x.toInt < 0 ∨ 13 < x.toInt := by
        have a0 := lv_neT h0 (a := 0) rfl
        have a1 := lv_neT h1 (a := 1) rfl
        have a2 := lv_neT h2 (a := 2) rfl
        have a3 := lv_neT h3 (a := 3) rfl
        have a4 := lv_neT h4 (a := 4) rfl
        have a5 := lv_neT h5 (a := 5) rfl
        have a6 := lv_neT h6 (a := 6) rfl
        have a7 := lv_neT h7 (a := 7) rfl
        have a8 := lv_neT h8 (a := 8) rfl
        have a9 := lv_neT h9 (a := 9) rfl
        have a10 := lv_neT h10 (a := 10) rfl
        have a11 := lv_neT h11 (a := 11) rfl
        have a12 := lv_neT h12 (a := 12) rfl
        have a13 := lv_neT h13 (a := 13) rfl
        omega
      refine lv_tableOut (tgt := 635) hx hb d_La_law_43 hout (by decide) ?_
      exact next σ ⟨E, bb, t, hR⟩ _ _ B
