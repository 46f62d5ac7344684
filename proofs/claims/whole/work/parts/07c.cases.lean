/-! THE LAW'S CASES -/
/-- what holds through the law: its code, the machine's words, the script of L ints xs at b -/
def la_At (E : bd_E) (p : Program) (s : State) (m : MethodId) (c : Code) (b L : Nat) (xs : Nat → Int32) : Prop := bd_Cx E p m c cL_law 9 s #[Value.ref b] RL ∧ bd_ZZ (bd_A E) s s.heap ∧ bd_NC s ∧ va_X b L xs s s.heap ∧ b < s.heap.size ∧ ¬ bd_A E b ∧ L ≤ 2560
/-- a call of the class by the law's helper, and of the reference: they answer alike, and J holds behind -/
def la_Ok (l : Launch) (E : bd_E) (yL : MethodName) (cL : ByteArray) (nL : Nat) (hh : List (Nat × Nat × Nat × Nat)) (y7 : MethodName) (c7 : ByteArray) (n7 : Nat) (As : List Value) (xm ym : bd_M) (om : Nat → Int64) (J : bd_M → bd_M → Prop) : Prop :=
  ∃ (fr lo mc ms fr2 lo2 mc2 ms2 : Nat) (xm' ym' : bd_M) (om' : Nat → Int64) (k r : Int32), (fr ≤ 11 ∧ lo ≤ 400 ∧ fr2 ≤ 11 ∧ lo2 ≤ 400 ∧ mc + mc2 ≤ 400 ∧ ms + ms2 ≤ 1600) ∧ bd_CL l yL cL nL hh fr lo mc ms E (.ref (bd_ea E 0 0 0) :: (As ++ [.ref (bd_ea E 30 0 0)])) xm ym om xm' ym om' k ∧ bd_Ct l y7 c7 n7 (some .int) fr2 lo2 mc2 ms2 E (.ref (bd_ea E 12 0 0) :: As) xm' ym om' xm' ym' om' (some (.int r)) ∧ ym' 0 0 0 = k ∧ (k = 0 → om' 0 = r.toInt64) ∧ J xm' ym'
abbrev la_lv (E : bd_E) (b g : Nat) : List (Nat × Value) := [(0, .ref b), (1, .ref (bd_ea E 0 0 0)), (2, .ref (bd_ea E 12 0 0)), (3, .ref (bd_ea E 30 0 0)), (4, .int (nI g))]
section LA
variable {p : Program} {l : Launch} {e : Env} {R : Room} {s : State} {m : MethodId} {below : List Frame} {meth : Method} {c : Code} {H : Heap} {locs : List Loc} {cells slots : Nat} {Q : State → Prop}
variable {pc : Nat} {ls : Array Slot} {rest : List Value} {E : bd_E} {b L g : Nat} {xs : Nat → Int32} {xm ym : bd_M} {om : Nat → Int64} {J : bd_M → bd_M → Prop}
theorem la_sld (A : la_At E p s m c b L xs) (hS : va_S (bd_A E) s.heap H locs) (j : Nat) {jc : Int32} (hj : jc = nI j) (h : g + j < L) (hdg : decode cL_law pc = .ok (.iaload, 1)) (kk : W p l e R s m #[Value.ref b] below meth c H locs cells slots Q (F0 m (pc + 1) ls (.int (xs (g + j)) :: rest))) : W p l e R s m #[Value.ref b] below meth c H locs cells slots Q (F0 m pc ls (.int (nI g + jc) :: .ref b :: rest)) := by
  obtain ⟨C, Z, N, hX, hbl, hbA, hL⟩ := A
  subst hj
  rw [nI_add]
  refine va_sld C.1.1 C.1.2.1 hX hbl hbA hS (vp_in_nI h (by omega)) hdg ?_
  rw [nI_clamp (by omega)]
  exact kk
theorem la_sld0 (A : la_At E p s m c b L xs) (hS : va_S (bd_A E) s.heap H locs) (h : g < L) (hdg : decode cL_law pc = .ok (.iaload, 1)) (kk : W p l e R s m #[Value.ref b] below meth c H locs cells slots Q (F0 m (pc + 1) ls (.int (xs g) :: rest))) : W p l e R s m #[Value.ref b] below meth c H locs cells slots Q (F0 m pc ls (.int (nI g) :: .ref b :: rest)) := by
  obtain ⟨C, Z, N, hX, hbl, hbA, hL⟩ := A
  refine va_sld C.1.1 C.1.2.1 hX hbl hbA hS (vp_in_nI h (by omega)) hdg ?_
  rw [nI_clamp (by omega)]
  exact kk

set_option maxHeartbeats 4000000 in
set_option maxRecDepth 100000 in
theorem la_addPlayer (A : la_At E p s m c b L xs) (hR0 : 12 ≤ R.frames ∧ 440 ≤ R.locals) (hg : g + 4 < L) (hO : la_Ok l E yL_addPlayer cL_addPlayer 7 [(0, 14, 17, 13), (0, 14, 21, 15)] yX7_addPlayer cX7_addPlayer 6 [.int (xs (g + 1)), .int (xs (g + 2)), .int (xs (g + 3)), .int (xs (g + 4))] xm ym om J) (hR : bd_Rep E xm ym om H) (hS : va_S (bd_A E) s.heap H locs) (hl : lv_has ls 9 (la_lv E b g)) (hf : cells + 400 ≤ R.cells ∧ slots + 1600 ≤ R.slots)
    (kk : ∀ (xm' ym' : bd_M) (om' : Nat → Int64) (H1 : Heap) (locs1 : List Loc) (ls1 : Array Slot), J xm' ym' → bd_Rep E xm' ym' om' H1 → va_S (bd_A E) s.heap H1 locs1 → lv_has ls1 9 (la_lv E b g) → W p l e R s m #[Value.ref b] below meth c H1 locs1 (cells + 400) (slots + 1600) Q (F0 m 1315 ls1 [])) : W p l e R s m #[Value.ref b] below meth c H locs cells slots Q (F0 m 128 ls []) := by
  obtain ⟨fr, lo, mc, ms, fr2, lo2, mc2, ms2, xm', ym', om', k, r, ⟨b1, b2, b3, b4, b5, b6⟩, hM, hM2, hth, hag, hJ⟩ := hO
  have C := A.1
  have Z := A.2.1
  have N := A.2.2.1
  have hx := C.1.1
  have hb := C.1.2.1
  refine lv_aload_n hx hb dL_law_128 rfl (lv_at hl 1 rfl) ?_
  refine lv_aload_n hx hb dL_law_129 rfl (lv_at hl 0 rfl) ?_
  refine lv_iload hx hb dL_law_130 (lv_at hl 4 rfl) ?_
  refine lv_iconst (v := 1) hx hb dL_law_132 (by decide) ?_
  refine lv_iadd hx hb dL_law_133 ?_
  refine la_sld A hS 1 rfl (by omega) dL_law_134 ?_
  refine lv_aload_n hx hb dL_law_135 rfl (lv_at hl 0 rfl) ?_
  refine lv_iload hx hb dL_law_136 (lv_at hl 4 rfl) ?_
  refine lv_iconst (v := 2) hx hb dL_law_138 (by decide) ?_
  refine lv_iadd hx hb dL_law_139 ?_
  refine la_sld A hS 2 rfl (by omega) dL_law_140 ?_
  refine lv_aload_n hx hb dL_law_141 rfl (lv_at hl 0 rfl) ?_
  refine lv_iload hx hb dL_law_142 (lv_at hl 4 rfl) ?_
  refine lv_iconst (v := 3) hx hb dL_law_144 (by decide) ?_
  refine lv_iadd hx hb dL_law_145 ?_
  refine la_sld A hS 3 rfl (by omega) dL_law_146 ?_
  refine lv_aload_n hx hb dL_law_147 rfl (lv_at hl 0 rfl) ?_
  refine lv_iload hx hb dL_law_148 (lv_at hl 4 rfl) ?_
  refine lv_iconst (v := 4) hx hb dL_law_150 (by decide) ?_
  refine lv_iadd hx hb dL_law_151 ?_
  refine la_sld A hS 4 rfl (by omega) dL_law_152 ?_
  refine lv_aload_n hx hb dL_law_153 rfl (lv_at hl 3 rfl) ?_
  refine bd_cL [Value.ref (bd_ea E 0 0 0), Value.int (xs (g + 1)), Value.int (xs (g + 2)), Value.int (xs (g + 3)), Value.int (xs (g + 4)), Value.ref (bd_ea E 30 0 0)] [] C Z N hM hR hS qm_L_75 qt_L_addPlayer qz_L qc_L_addPlayer qp_L_addPlayer.2 ⟨by omega, by omega⟩ hl.1 (Nat.le_of_ble_eq_true rfl) dL_law_154 ⟨by omega, by omega⟩ (fun H locs hR hS hz1 => ?_)
  refine lv_istore (lv' := (5, .int k) :: la_lv E b g) hx hb dL_law_157 hl (by decide) rfl (fun ls hl => ?_)
  refine lv_aload_n hx hb dL_law_159 rfl (lv_at hl 3 rfl) ?_
  refine lv_aload_n hx hb dL_law_160 rfl (lv_at hl 1 rfl) ?_
  refine lv_iload hx hb dL_law_161 (lv_at hl 5 rfl) ?_
  refine lv_iconst (v := 1) hx hb dL_law_163 (by decide) ?_
  refine lv_iadd hx hb dL_law_164 ?_
  refine la_sld A hS 1 rfl (by omega) dL_law_165 ?_
  refine lv_aload_n hx hb dL_law_166 rfl (lv_at hl 1 rfl) ?_
  refine lv_iload hx hb dL_law_167 (lv_at hl 5 rfl) ?_
  refine lv_iconst (v := 2) hx hb dL_law_169 (by decide) ?_
  refine lv_iadd hx hb dL_law_170 ?_
  refine la_sld A hS 2 rfl (by omega) dL_law_171 ?_
  refine lv_aload_n hx hb dL_law_172 rfl (lv_at hl 1 rfl) ?_
  refine lv_iload hx hb dL_law_173 (lv_at hl 5 rfl) ?_
  refine lv_iconst (v := 3) hx hb dL_law_175 (by decide) ?_
  refine lv_iadd hx hb dL_law_176 ?_
  refine la_sld A hS 3 rfl (by omega) dL_law_177 ?_
  refine lv_aload_n hx hb dL_law_178 rfl (lv_at hl 1 rfl) ?_
  refine lv_iload hx hb dL_law_179 (lv_at hl 5 rfl) ?_
  refine lv_iconst (v := 4) hx hb dL_law_181 (by decide) ?_
  refine lv_iadd hx hb dL_law_182 ?_
  refine la_sld A hS 4 rfl (by omega) dL_law_183 ?_
  refine bd_cV1 [.int (xs (g + 1)), .int (xs (g + 2)), .int (xs (g + 3)), .int (xs (g + 4))] [] C hM2 hR hS (bd_recv C.2 hR ⟨by decide, (by decide), (by decide)⟩ rfl rfl) qm_L_80 qi_X7_addPlayer qs_X7_addPlayer qz_X7 qc_X7_addPlayer qp_X7_addPlayer ⟨by omega, by omega⟩ hl.1 (Nat.le_of_ble_eq_true rfl) dL_law_184 ⟨by omega, by omega⟩ (fun H locs hR hS hz2 => ?_)
  refine lv_istore (lv' := (6, .int r) :: (5, .int k) :: la_lv E b g) hx hb dL_law_187 hl (by decide) rfl (fun ls hl => ?_)
  refine lv_aload_n hx hb dL_law_189 rfl (lv_at hl 4 rfl) ?_
  refine bd_cV1 [] [] C (k_X7_thrown l E xm' ym' om') hR hS (bd_recv C.2 hR ⟨by decide, (by decide), (by decide)⟩ rfl rfl) qm_L_81 qi_X7_thrown qs_X7_thrown qz_X7 qc_X7_thrown qp_X7_thrown ⟨by omega, by omega⟩ hl.1 (Nat.le_of_ble_eq_true rfl) dL_law_190 ⟨by omega, by omega⟩ (fun H locs hR hS hz3 => ?_)
  refine lv_iload hx hb dL_law_193 (lv_at hl 1 rfl) ?_
  refine lv_icmp_eq (tgt := 200) hx hb dL_law_195 (by decide) (fun _ => ?_) (fun c9 => absurd hth c9)
  have hl9 : lv_has ls 9 (la_lv E b g) := lv_sub hl [2, 3, 4, 5, 6] rfl
  refine lv_iload hx hb dL_law_200 (lv_at hl 1 rfl) ?_
  refine lv_if_ne (tgt := 217) hx hb dL_law_202 (by decide) (fun _ => ?_) (fun k0 => ?_)
  · refine lv_goto (tgt := 1315) hx hb dL_law_217 (by decide) ?_
    refine W.widen (k := cells + 400) (n := slots + 1600) (by omega) (by omega) ?_
    exact kk xm' ym' om' H locs ls hJ hR hS hl9
  · refine lv_aload_n hx hb dL_law_205 rfl (lv_at hl 5 rfl) ?_
    refine lv_iconst (v := 0) hx hb dL_law_206 (by decide) ?_
    refine bd_ldO C hR dL_law_207 ?_
    refine lv_iload hx hb dL_law_208 (lv_at hl 0 rfl) ?_
    refine lv_i2l (v := r.toInt64) hx hb dL_law_210 rfl ?_
    refine W.lcmp hx hb dL_law_211 ?_
    refine lv_if_eq (tgt := 217) hx hb dL_law_212 (by decide) (fun _ => ?_) (fun c9 => absurd ((lg_cmp_eq _ _).mpr (hag k0)) c9)
    refine lv_goto (tgt := 1315) hx hb dL_law_217 (by decide) ?_
    refine W.widen (k := cells + 400) (n := slots + 1600) (by omega) (by omega) ?_
    exact kk xm' ym' om' H locs ls hJ hR hS hl9

set_option maxHeartbeats 4000000 in
set_option maxRecDepth 100000 in
theorem la_found (A : la_At E p s m c b L xs) (hR0 : 12 ≤ R.frames ∧ 440 ≤ R.locals) (hg : g + 4 < L) (hO : la_Ok l E yL_found cL_found 4 [(0, 9, 12, 13), (0, 9, 15, 15)] yX7_found cX7_found 6 [.int (xs (g + 1))] xm ym om J) (hR : bd_Rep E xm ym om H) (hS : va_S (bd_A E) s.heap H locs) (hl : lv_has ls 9 (la_lv E b g)) (hf : cells + 400 ≤ R.cells ∧ slots + 1600 ≤ R.slots)
    (kk : ∀ (xm' ym' : bd_M) (om' : Nat → Int64) (H1 : Heap) (locs1 : List Loc) (ls1 : Array Slot), J xm' ym' → bd_Rep E xm' ym' om' H1 → va_S (bd_A E) s.heap H1 locs1 → lv_has ls1 9 (la_lv E b g) → W p l e R s m #[Value.ref b] below meth c H1 locs1 (cells + 400) (slots + 1600) Q (F0 m 1315 ls1 [])) : W p l e R s m #[Value.ref b] below meth c H locs cells slots Q (F0 m 220 ls []) := by
  obtain ⟨fr, lo, mc, ms, fr2, lo2, mc2, ms2, xm', ym', om', k, r, ⟨b1, b2, b3, b4, b5, b6⟩, hM, hM2, hth, hag, hJ⟩ := hO
  have C := A.1
  have Z := A.2.1
  have N := A.2.2.1
  have hx := C.1.1
  have hb := C.1.2.1
  refine lv_aload_n hx hb dL_law_220 rfl (lv_at hl 1 rfl) ?_
  refine lv_aload_n hx hb dL_law_221 rfl (lv_at hl 0 rfl) ?_
  refine lv_iload hx hb dL_law_222 (lv_at hl 4 rfl) ?_
  refine lv_iconst (v := 1) hx hb dL_law_224 (by decide) ?_
  refine lv_iadd hx hb dL_law_225 ?_
  refine la_sld A hS 1 rfl (by omega) dL_law_226 ?_
  refine lv_aload_n hx hb dL_law_227 rfl (lv_at hl 3 rfl) ?_
  refine bd_cL [Value.ref (bd_ea E 0 0 0), Value.int (xs (g + 1)), Value.ref (bd_ea E 30 0 0)] [] C Z N hM hR hS qm_L_84 qt_L_found qz_L qc_L_found qp_L_found.2 ⟨by omega, by omega⟩ hl.1 (Nat.le_of_ble_eq_true rfl) dL_law_228 ⟨by omega, by omega⟩ (fun H locs hR hS hz1 => ?_)
  refine lv_istore (lv' := (5, .int k) :: la_lv E b g) hx hb dL_law_231 hl (by decide) rfl (fun ls hl => ?_)
  refine lv_aload_n hx hb dL_law_233 rfl (lv_at hl 3 rfl) ?_
  refine lv_aload_n hx hb dL_law_234 rfl (lv_at hl 1 rfl) ?_
  refine lv_iload hx hb dL_law_235 (lv_at hl 5 rfl) ?_
  refine lv_iconst (v := 1) hx hb dL_law_237 (by decide) ?_
  refine lv_iadd hx hb dL_law_238 ?_
  refine la_sld A hS 1 rfl (by omega) dL_law_239 ?_
  refine bd_cV1 [.int (xs (g + 1))] [] C hM2 hR hS (bd_recv C.2 hR ⟨by decide, (by decide), (by decide)⟩ rfl rfl) qm_L_87 qi_X7_found qs_X7_found qz_X7 qc_X7_found qp_X7_found ⟨by omega, by omega⟩ hl.1 (Nat.le_of_ble_eq_true rfl) dL_law_240 ⟨by omega, by omega⟩ (fun H locs hR hS hz2 => ?_)
  refine lv_istore (lv' := (6, .int r) :: (5, .int k) :: la_lv E b g) hx hb dL_law_243 hl (by decide) rfl (fun ls hl => ?_)
  refine lv_aload_n hx hb dL_law_245 rfl (lv_at hl 4 rfl) ?_
  refine bd_cV1 [] [] C (k_X7_thrown l E xm' ym' om') hR hS (bd_recv C.2 hR ⟨by decide, (by decide), (by decide)⟩ rfl rfl) qm_L_81 qi_X7_thrown qs_X7_thrown qz_X7 qc_X7_thrown qp_X7_thrown ⟨by omega, by omega⟩ hl.1 (Nat.le_of_ble_eq_true rfl) dL_law_246 ⟨by omega, by omega⟩ (fun H locs hR hS hz3 => ?_)
  refine lv_iload hx hb dL_law_249 (lv_at hl 1 rfl) ?_
  refine lv_icmp_eq (tgt := 256) hx hb dL_law_251 (by decide) (fun _ => ?_) (fun c9 => absurd hth c9)
  have hl9 : lv_has ls 9 (la_lv E b g) := lv_sub hl [2, 3, 4, 5, 6] rfl
  refine lv_iload hx hb dL_law_256 (lv_at hl 1 rfl) ?_
  refine lv_if_ne (tgt := 273) hx hb dL_law_258 (by decide) (fun _ => ?_) (fun k0 => ?_)
  · refine lv_goto (tgt := 1315) hx hb dL_law_273 (by decide) ?_
    refine W.widen (k := cells + 400) (n := slots + 1600) (by omega) (by omega) ?_
    exact kk xm' ym' om' H locs ls hJ hR hS hl9
  · refine lv_aload_n hx hb dL_law_261 rfl (lv_at hl 5 rfl) ?_
    refine lv_iconst (v := 0) hx hb dL_law_262 (by decide) ?_
    refine bd_ldO C hR dL_law_263 ?_
    refine lv_iload hx hb dL_law_264 (lv_at hl 0 rfl) ?_
    refine lv_i2l (v := r.toInt64) hx hb dL_law_266 rfl ?_
    refine W.lcmp hx hb dL_law_267 ?_
    refine lv_if_eq (tgt := 273) hx hb dL_law_268 (by decide) (fun _ => ?_) (fun c9 => absurd ((lg_cmp_eq _ _).mpr (hag k0)) c9)
    refine lv_goto (tgt := 1315) hx hb dL_law_273 (by decide) ?_
    refine W.widen (k := cells + 400) (n := slots + 1600) (by omega) (by omega) ?_
    exact kk xm' ym' om' H locs ls hJ hR hS hl9

set_option maxHeartbeats 4000000 in
set_option maxRecDepth 100000 in
theorem la_seat (A : la_At E p s m c b L xs) (hR0 : 12 ≤ R.frames ∧ 440 ≤ R.locals) (hg : g + 4 < L) (hO : la_Ok l E yL_seat cL_seat 6 [(0, 12, 15, 25), (0, 12, 19, 15)] yX7_seat cX7_seat 7 [.int (xs (g + 1)), .int (xs (g + 2)), .int (xs (g + 3))] xm ym om J) (hR : bd_Rep E xm ym om H) (hS : va_S (bd_A E) s.heap H locs) (hl : lv_has ls 9 (la_lv E b g)) (hf : cells + 400 ≤ R.cells ∧ slots + 1600 ≤ R.slots)
    (kk : ∀ (xm' ym' : bd_M) (om' : Nat → Int64) (H1 : Heap) (locs1 : List Loc) (ls1 : Array Slot), J xm' ym' → bd_Rep E xm' ym' om' H1 → va_S (bd_A E) s.heap H1 locs1 → lv_has ls1 9 (la_lv E b g) → W p l e R s m #[Value.ref b] below meth c H1 locs1 (cells + 400) (slots + 1600) Q (F0 m 1315 ls1 [])) : W p l e R s m #[Value.ref b] below meth c H locs cells slots Q (F0 m 276 ls []) := by
  obtain ⟨fr, lo, mc, ms, fr2, lo2, mc2, ms2, xm', ym', om', k, r, ⟨b1, b2, b3, b4, b5, b6⟩, hM, hM2, hth, hag, hJ⟩ := hO
  have C := A.1
  have Z := A.2.1
  have N := A.2.2.1
  have hx := C.1.1
  have hb := C.1.2.1
  refine lv_aload_n hx hb dL_law_276 rfl (lv_at hl 1 rfl) ?_
  refine lv_aload_n hx hb dL_law_277 rfl (lv_at hl 0 rfl) ?_
  refine lv_iload hx hb dL_law_278 (lv_at hl 4 rfl) ?_
  refine lv_iconst (v := 1) hx hb dL_law_280 (by decide) ?_
  refine lv_iadd hx hb dL_law_281 ?_
  refine la_sld A hS 1 rfl (by omega) dL_law_282 ?_
  refine lv_aload_n hx hb dL_law_283 rfl (lv_at hl 0 rfl) ?_
  refine lv_iload hx hb dL_law_284 (lv_at hl 4 rfl) ?_
  refine lv_iconst (v := 2) hx hb dL_law_286 (by decide) ?_
  refine lv_iadd hx hb dL_law_287 ?_
  refine la_sld A hS 2 rfl (by omega) dL_law_288 ?_
  refine lv_aload_n hx hb dL_law_289 rfl (lv_at hl 0 rfl) ?_
  refine lv_iload hx hb dL_law_290 (lv_at hl 4 rfl) ?_
  refine lv_iconst (v := 3) hx hb dL_law_292 (by decide) ?_
  refine lv_iadd hx hb dL_law_293 ?_
  refine la_sld A hS 3 rfl (by omega) dL_law_294 ?_
  refine lv_aload_n hx hb dL_law_295 rfl (lv_at hl 3 rfl) ?_
  refine bd_cL [Value.ref (bd_ea E 0 0 0), Value.int (xs (g + 1)), Value.int (xs (g + 2)), Value.int (xs (g + 3)), Value.ref (bd_ea E 30 0 0)] [] C Z N hM hR hS qm_L_88 qt_L_seat qz_L qc_L_seat qp_L_seat.2 ⟨by omega, by omega⟩ hl.1 (Nat.le_of_ble_eq_true rfl) dL_law_296 ⟨by omega, by omega⟩ (fun H locs hR hS hz1 => ?_)
  refine lv_istore (lv' := (5, .int k) :: la_lv E b g) hx hb dL_law_299 hl (by decide) rfl (fun ls hl => ?_)
  refine lv_aload_n hx hb dL_law_301 rfl (lv_at hl 3 rfl) ?_
  refine lv_aload_n hx hb dL_law_302 rfl (lv_at hl 1 rfl) ?_
  refine lv_iload hx hb dL_law_303 (lv_at hl 5 rfl) ?_
  refine lv_iconst (v := 1) hx hb dL_law_305 (by decide) ?_
  refine lv_iadd hx hb dL_law_306 ?_
  refine la_sld A hS 1 rfl (by omega) dL_law_307 ?_
  refine lv_aload_n hx hb dL_law_308 rfl (lv_at hl 1 rfl) ?_
  refine lv_iload hx hb dL_law_309 (lv_at hl 5 rfl) ?_
  refine lv_iconst (v := 2) hx hb dL_law_311 (by decide) ?_
  refine lv_iadd hx hb dL_law_312 ?_
  refine la_sld A hS 2 rfl (by omega) dL_law_313 ?_
  refine lv_aload_n hx hb dL_law_314 rfl (lv_at hl 1 rfl) ?_
  refine lv_iload hx hb dL_law_315 (lv_at hl 5 rfl) ?_
  refine lv_iconst (v := 3) hx hb dL_law_317 (by decide) ?_
  refine lv_iadd hx hb dL_law_318 ?_
  refine la_sld A hS 3 rfl (by omega) dL_law_319 ?_
  refine bd_cV1 [.int (xs (g + 1)), .int (xs (g + 2)), .int (xs (g + 3))] [] C hM2 hR hS (bd_recv C.2 hR ⟨by decide, (by decide), (by decide)⟩ rfl rfl) qm_L_91 qi_X7_seat qs_X7_seat qz_X7 qc_X7_seat qp_X7_seat ⟨by omega, by omega⟩ hl.1 (Nat.le_of_ble_eq_true rfl) dL_law_320 ⟨by omega, by omega⟩ (fun H locs hR hS hz2 => ?_)
  refine lv_istore (lv' := (6, .int r) :: (5, .int k) :: la_lv E b g) hx hb dL_law_323 hl (by decide) rfl (fun ls hl => ?_)
  refine lv_aload_n hx hb dL_law_325 rfl (lv_at hl 4 rfl) ?_
  refine bd_cV1 [] [] C (k_X7_thrown l E xm' ym' om') hR hS (bd_recv C.2 hR ⟨by decide, (by decide), (by decide)⟩ rfl rfl) qm_L_81 qi_X7_thrown qs_X7_thrown qz_X7 qc_X7_thrown qp_X7_thrown ⟨by omega, by omega⟩ hl.1 (Nat.le_of_ble_eq_true rfl) dL_law_326 ⟨by omega, by omega⟩ (fun H locs hR hS hz3 => ?_)
  refine lv_iload hx hb dL_law_329 (lv_at hl 1 rfl) ?_
  refine lv_icmp_eq (tgt := 336) hx hb dL_law_331 (by decide) (fun _ => ?_) (fun c9 => absurd hth c9)
  have hl9 : lv_has ls 9 (la_lv E b g) := lv_sub hl [2, 3, 4, 5, 6] rfl
  refine lv_iload hx hb dL_law_336 (lv_at hl 1 rfl) ?_
  refine lv_if_ne (tgt := 353) hx hb dL_law_338 (by decide) (fun _ => ?_) (fun k0 => ?_)
  · refine lv_goto (tgt := 1315) hx hb dL_law_353 (by decide) ?_
    refine W.widen (k := cells + 400) (n := slots + 1600) (by omega) (by omega) ?_
    exact kk xm' ym' om' H locs ls hJ hR hS hl9
  · refine lv_aload_n hx hb dL_law_341 rfl (lv_at hl 5 rfl) ?_
    refine lv_iconst (v := 0) hx hb dL_law_342 (by decide) ?_
    refine bd_ldO C hR dL_law_343 ?_
    refine lv_iload hx hb dL_law_344 (lv_at hl 0 rfl) ?_
    refine lv_i2l (v := r.toInt64) hx hb dL_law_346 rfl ?_
    refine W.lcmp hx hb dL_law_347 ?_
    refine lv_if_eq (tgt := 353) hx hb dL_law_348 (by decide) (fun _ => ?_) (fun c9 => absurd ((lg_cmp_eq _ _).mpr (hag k0)) c9)
    refine lv_goto (tgt := 1315) hx hb dL_law_353 (by decide) ?_
    refine W.widen (k := cells + 400) (n := slots + 1600) (by omega) (by omega) ?_
    exact kk xm' ym' om' H locs ls hJ hR hS hl9

set_option maxHeartbeats 4000000 in
set_option maxRecDepth 100000 in
theorem la_change (A : la_At E p s m c b L xs) (hR0 : 12 ≤ R.frames ∧ 440 ≤ R.locals) (hg : g + 4 < L) (hO : la_Ok l E yL_change cL_change 6 [(0, 12, 15, 25)] yX7_change cX7_change 4 [.int (xs (g + 1)), .int (xs (g + 2)), .int (xs (g + 3))] xm ym om J) (hR : bd_Rep E xm ym om H) (hS : va_S (bd_A E) s.heap H locs) (hl : lv_has ls 9 (la_lv E b g)) (hf : cells + 400 ≤ R.cells ∧ slots + 1600 ≤ R.slots)
    (kk : ∀ (xm' ym' : bd_M) (om' : Nat → Int64) (H1 : Heap) (locs1 : List Loc) (ls1 : Array Slot), J xm' ym' → bd_Rep E xm' ym' om' H1 → va_S (bd_A E) s.heap H1 locs1 → lv_has ls1 9 (la_lv E b g) → W p l e R s m #[Value.ref b] below meth c H1 locs1 (cells + 400) (slots + 1600) Q (F0 m 1315 ls1 [])) : W p l e R s m #[Value.ref b] below meth c H locs cells slots Q (F0 m 356 ls []) := by
  obtain ⟨fr, lo, mc, ms, fr2, lo2, mc2, ms2, xm', ym', om', k, r, ⟨b1, b2, b3, b4, b5, b6⟩, hM, hM2, hth, hag, hJ⟩ := hO
  have C := A.1
  have Z := A.2.1
  have N := A.2.2.1
  have hx := C.1.1
  have hb := C.1.2.1
  refine lv_aload_n hx hb dL_law_356 rfl (lv_at hl 1 rfl) ?_
  refine lv_aload_n hx hb dL_law_357 rfl (lv_at hl 0 rfl) ?_
  refine lv_iload hx hb dL_law_358 (lv_at hl 4 rfl) ?_
  refine lv_iconst (v := 1) hx hb dL_law_360 (by decide) ?_
  refine lv_iadd hx hb dL_law_361 ?_
  refine la_sld A hS 1 rfl (by omega) dL_law_362 ?_
  refine lv_aload_n hx hb dL_law_363 rfl (lv_at hl 0 rfl) ?_
  refine lv_iload hx hb dL_law_364 (lv_at hl 4 rfl) ?_
  refine lv_iconst (v := 2) hx hb dL_law_366 (by decide) ?_
  refine lv_iadd hx hb dL_law_367 ?_
  refine la_sld A hS 2 rfl (by omega) dL_law_368 ?_
  refine lv_aload_n hx hb dL_law_369 rfl (lv_at hl 0 rfl) ?_
  refine lv_iload hx hb dL_law_370 (lv_at hl 4 rfl) ?_
  refine lv_iconst (v := 3) hx hb dL_law_372 (by decide) ?_
  refine lv_iadd hx hb dL_law_373 ?_
  refine la_sld A hS 3 rfl (by omega) dL_law_374 ?_
  refine lv_aload_n hx hb dL_law_375 rfl (lv_at hl 3 rfl) ?_
  refine bd_cL [Value.ref (bd_ea E 0 0 0), Value.int (xs (g + 1)), Value.int (xs (g + 2)), Value.int (xs (g + 3)), Value.ref (bd_ea E 30 0 0)] [] C Z N hM hR hS qm_L_92 qt_L_change qz_L qc_L_change qp_L_change.2 ⟨by omega, by omega⟩ hl.1 (Nat.le_of_ble_eq_true rfl) dL_law_376 ⟨by omega, by omega⟩ (fun H locs hR hS hz1 => ?_)
  refine lv_istore (lv' := (5, .int k) :: la_lv E b g) hx hb dL_law_379 hl (by decide) rfl (fun ls hl => ?_)
  refine lv_aload_n hx hb dL_law_381 rfl (lv_at hl 3 rfl) ?_
  refine lv_aload_n hx hb dL_law_382 rfl (lv_at hl 1 rfl) ?_
  refine lv_iload hx hb dL_law_383 (lv_at hl 5 rfl) ?_
  refine lv_iconst (v := 1) hx hb dL_law_385 (by decide) ?_
  refine lv_iadd hx hb dL_law_386 ?_
  refine la_sld A hS 1 rfl (by omega) dL_law_387 ?_
  refine lv_aload_n hx hb dL_law_388 rfl (lv_at hl 1 rfl) ?_
  refine lv_iload hx hb dL_law_389 (lv_at hl 5 rfl) ?_
  refine lv_iconst (v := 2) hx hb dL_law_391 (by decide) ?_
  refine lv_iadd hx hb dL_law_392 ?_
  refine la_sld A hS 2 rfl (by omega) dL_law_393 ?_
  refine lv_aload_n hx hb dL_law_394 rfl (lv_at hl 1 rfl) ?_
  refine lv_iload hx hb dL_law_395 (lv_at hl 5 rfl) ?_
  refine lv_iconst (v := 3) hx hb dL_law_397 (by decide) ?_
  refine lv_iadd hx hb dL_law_398 ?_
  refine la_sld A hS 3 rfl (by omega) dL_law_399 ?_
  refine bd_cV1 [.int (xs (g + 1)), .int (xs (g + 2)), .int (xs (g + 3))] [] C hM2 hR hS (bd_recv C.2 hR ⟨by decide, (by decide), (by decide)⟩ rfl rfl) qm_L_94 qi_X7_change qs_X7_change qz_X7 qc_X7_change qp_X7_change ⟨by omega, by omega⟩ hl.1 (Nat.le_of_ble_eq_true rfl) dL_law_400 ⟨by omega, by omega⟩ (fun H locs hR hS hz2 => ?_)
  refine lv_istore (lv' := (6, .int r) :: (5, .int k) :: la_lv E b g) hx hb dL_law_403 hl (by decide) rfl (fun ls hl => ?_)
  refine lv_aload_n hx hb dL_law_405 rfl (lv_at hl 4 rfl) ?_
  refine bd_cV1 [] [] C (k_X7_thrown l E xm' ym' om') hR hS (bd_recv C.2 hR ⟨by decide, (by decide), (by decide)⟩ rfl rfl) qm_L_81 qi_X7_thrown qs_X7_thrown qz_X7 qc_X7_thrown qp_X7_thrown ⟨by omega, by omega⟩ hl.1 (Nat.le_of_ble_eq_true rfl) dL_law_406 ⟨by omega, by omega⟩ (fun H locs hR hS hz3 => ?_)
  refine lv_iload hx hb dL_law_409 (lv_at hl 1 rfl) ?_
  refine lv_icmp_eq (tgt := 416) hx hb dL_law_411 (by decide) (fun _ => ?_) (fun c9 => absurd hth c9)
  have hl9 : lv_has ls 9 (la_lv E b g) := lv_sub hl [2, 3, 4, 5, 6] rfl
  refine lv_iload hx hb dL_law_416 (lv_at hl 1 rfl) ?_
  refine lv_if_ne (tgt := 433) hx hb dL_law_418 (by decide) (fun _ => ?_) (fun k0 => ?_)
  · refine lv_goto (tgt := 1315) hx hb dL_law_433 (by decide) ?_
    refine W.widen (k := cells + 400) (n := slots + 1600) (by omega) (by omega) ?_
    exact kk xm' ym' om' H locs ls hJ hR hS hl9
  · refine lv_aload_n hx hb dL_law_421 rfl (lv_at hl 5 rfl) ?_
    refine lv_iconst (v := 0) hx hb dL_law_422 (by decide) ?_
    refine bd_ldO C hR dL_law_423 ?_
    refine lv_iload hx hb dL_law_424 (lv_at hl 0 rfl) ?_
    refine lv_i2l (v := r.toInt64) hx hb dL_law_426 rfl ?_
    refine W.lcmp hx hb dL_law_427 ?_
    refine lv_if_eq (tgt := 433) hx hb dL_law_428 (by decide) (fun _ => ?_) (fun c9 => absurd ((lg_cmp_eq _ _).mpr (hag k0)) c9)
    refine lv_goto (tgt := 1315) hx hb dL_law_433 (by decide) ?_
    refine W.widen (k := cells + 400) (n := slots + 1600) (by omega) (by omega) ?_
    exact kk xm' ym' om' H locs ls hJ hR hS hl9

set_option maxHeartbeats 4000000 in
set_option maxRecDepth 100000 in
theorem la_absent (A : la_At E p s m c b L xs) (hR0 : 12 ≤ R.frames ∧ 440 ≤ R.locals) (hg : g + 4 < L) (hO : la_Ok l E yL_absent cL_absent 5 [(0, 10, 13, 25), (0, 10, 17, 13)] yX7_absent cX7_absent 4 [.int (xs (g + 1)), .int (xs (g + 2))] xm ym om J) (hR : bd_Rep E xm ym om H) (hS : va_S (bd_A E) s.heap H locs) (hl : lv_has ls 9 (la_lv E b g)) (hf : cells + 400 ≤ R.cells ∧ slots + 1600 ≤ R.slots)
    (kk : ∀ (xm' ym' : bd_M) (om' : Nat → Int64) (H1 : Heap) (locs1 : List Loc) (ls1 : Array Slot), J xm' ym' → bd_Rep E xm' ym' om' H1 → va_S (bd_A E) s.heap H1 locs1 → lv_has ls1 9 (la_lv E b g) → W p l e R s m #[Value.ref b] below meth c H1 locs1 (cells + 400) (slots + 1600) Q (F0 m 1315 ls1 [])) : W p l e R s m #[Value.ref b] below meth c H locs cells slots Q (F0 m 436 ls []) := by
  obtain ⟨fr, lo, mc, ms, fr2, lo2, mc2, ms2, xm', ym', om', k, r, ⟨b1, b2, b3, b4, b5, b6⟩, hM, hM2, hth, hag, hJ⟩ := hO
  have C := A.1
  have Z := A.2.1
  have N := A.2.2.1
  have hx := C.1.1
  have hb := C.1.2.1
  refine lv_aload_n hx hb dL_law_436 rfl (lv_at hl 1 rfl) ?_
  refine lv_aload_n hx hb dL_law_437 rfl (lv_at hl 0 rfl) ?_
  refine lv_iload hx hb dL_law_438 (lv_at hl 4 rfl) ?_
  refine lv_iconst (v := 1) hx hb dL_law_440 (by decide) ?_
  refine lv_iadd hx hb dL_law_441 ?_
  refine la_sld A hS 1 rfl (by omega) dL_law_442 ?_
  refine lv_aload_n hx hb dL_law_443 rfl (lv_at hl 0 rfl) ?_
  refine lv_iload hx hb dL_law_444 (lv_at hl 4 rfl) ?_
  refine lv_iconst (v := 2) hx hb dL_law_446 (by decide) ?_
  refine lv_iadd hx hb dL_law_447 ?_
  refine la_sld A hS 2 rfl (by omega) dL_law_448 ?_
  refine lv_aload_n hx hb dL_law_449 rfl (lv_at hl 3 rfl) ?_
  refine bd_cL [Value.ref (bd_ea E 0 0 0), Value.int (xs (g + 1)), Value.int (xs (g + 2)), Value.ref (bd_ea E 30 0 0)] [] C Z N hM hR hS qm_L_95 qt_L_absent qz_L qc_L_absent qp_L_absent.2 ⟨by omega, by omega⟩ hl.1 (Nat.le_of_ble_eq_true rfl) dL_law_450 ⟨by omega, by omega⟩ (fun H locs hR hS hz1 => ?_)
  refine lv_istore (lv' := (5, .int k) :: la_lv E b g) hx hb dL_law_453 hl (by decide) rfl (fun ls hl => ?_)
  refine lv_aload_n hx hb dL_law_455 rfl (lv_at hl 3 rfl) ?_
  refine lv_aload_n hx hb dL_law_456 rfl (lv_at hl 1 rfl) ?_
  refine lv_iload hx hb dL_law_457 (lv_at hl 5 rfl) ?_
  refine lv_iconst (v := 1) hx hb dL_law_459 (by decide) ?_
  refine lv_iadd hx hb dL_law_460 ?_
  refine la_sld A hS 1 rfl (by omega) dL_law_461 ?_
  refine lv_aload_n hx hb dL_law_462 rfl (lv_at hl 1 rfl) ?_
  refine lv_iload hx hb dL_law_463 (lv_at hl 5 rfl) ?_
  refine lv_iconst (v := 2) hx hb dL_law_465 (by decide) ?_
  refine lv_iadd hx hb dL_law_466 ?_
  refine la_sld A hS 2 rfl (by omega) dL_law_467 ?_
  refine bd_cV1 [.int (xs (g + 1)), .int (xs (g + 2))] [] C hM2 hR hS (bd_recv C.2 hR ⟨by decide, (by decide), (by decide)⟩ rfl rfl) qm_L_98 qi_X7_absent qs_X7_absent qz_X7 qc_X7_absent qp_X7_absent ⟨by omega, by omega⟩ hl.1 (Nat.le_of_ble_eq_true rfl) dL_law_468 ⟨by omega, by omega⟩ (fun H locs hR hS hz2 => ?_)
  refine lv_istore (lv' := (6, .int r) :: (5, .int k) :: la_lv E b g) hx hb dL_law_471 hl (by decide) rfl (fun ls hl => ?_)
  refine lv_aload_n hx hb dL_law_473 rfl (lv_at hl 4 rfl) ?_
  refine bd_cV1 [] [] C (k_X7_thrown l E xm' ym' om') hR hS (bd_recv C.2 hR ⟨by decide, (by decide), (by decide)⟩ rfl rfl) qm_L_81 qi_X7_thrown qs_X7_thrown qz_X7 qc_X7_thrown qp_X7_thrown ⟨by omega, by omega⟩ hl.1 (Nat.le_of_ble_eq_true rfl) dL_law_474 ⟨by omega, by omega⟩ (fun H locs hR hS hz3 => ?_)
  refine lv_iload hx hb dL_law_477 (lv_at hl 1 rfl) ?_
  refine lv_icmp_eq (tgt := 484) hx hb dL_law_479 (by decide) (fun _ => ?_) (fun c9 => absurd hth c9)
  have hl9 : lv_has ls 9 (la_lv E b g) := lv_sub hl [2, 3, 4, 5, 6] rfl
  refine lv_iload hx hb dL_law_484 (lv_at hl 1 rfl) ?_
  refine lv_if_ne (tgt := 501) hx hb dL_law_486 (by decide) (fun _ => ?_) (fun k0 => ?_)
  · refine lv_goto (tgt := 1315) hx hb dL_law_501 (by decide) ?_
    refine W.widen (k := cells + 400) (n := slots + 1600) (by omega) (by omega) ?_
    exact kk xm' ym' om' H locs ls hJ hR hS hl9
  · refine lv_aload_n hx hb dL_law_489 rfl (lv_at hl 5 rfl) ?_
    refine lv_iconst (v := 0) hx hb dL_law_490 (by decide) ?_
    refine bd_ldO C hR dL_law_491 ?_
    refine lv_iload hx hb dL_law_492 (lv_at hl 0 rfl) ?_
    refine lv_i2l (v := r.toInt64) hx hb dL_law_494 rfl ?_
    refine W.lcmp hx hb dL_law_495 ?_
    refine lv_if_eq (tgt := 501) hx hb dL_law_496 (by decide) (fun _ => ?_) (fun c9 => absurd ((lg_cmp_eq _ _).mpr (hag k0)) c9)
    refine lv_goto (tgt := 1315) hx hb dL_law_501 (by decide) ?_
    refine W.widen (k := cells + 400) (n := slots + 1600) (by omega) (by omega) ?_
    exact kk xm' ym' om' H locs ls hJ hR hS hl9

set_option maxHeartbeats 4000000 in
set_option maxRecDepth 100000 in
theorem la_rehearse (A : la_At E p s m c b L xs) (hR0 : 12 ≤ R.frames ∧ 440 ≤ R.locals) (hg : g + 4 < L) (hO : la_Ok l E yL_rehearse cL_rehearse 4 [(0, 9, 12, 25)] yX7_rehearse cX7_rehearse 4 [.int (xs (g + 1))] xm ym om J) (hR : bd_Rep E xm ym om H) (hS : va_S (bd_A E) s.heap H locs) (hl : lv_has ls 9 (la_lv E b g)) (hf : cells + 400 ≤ R.cells ∧ slots + 1600 ≤ R.slots)
    (kk : ∀ (xm' ym' : bd_M) (om' : Nat → Int64) (H1 : Heap) (locs1 : List Loc) (ls1 : Array Slot), J xm' ym' → bd_Rep E xm' ym' om' H1 → va_S (bd_A E) s.heap H1 locs1 → lv_has ls1 9 (la_lv E b g) → W p l e R s m #[Value.ref b] below meth c H1 locs1 (cells + 400) (slots + 1600) Q (F0 m 1315 ls1 [])) : W p l e R s m #[Value.ref b] below meth c H locs cells slots Q (F0 m 504 ls []) := by
  obtain ⟨fr, lo, mc, ms, fr2, lo2, mc2, ms2, xm', ym', om', k, r, ⟨b1, b2, b3, b4, b5, b6⟩, hM, hM2, hth, hag, hJ⟩ := hO
  have C := A.1
  have Z := A.2.1
  have N := A.2.2.1
  have hx := C.1.1
  have hb := C.1.2.1
  refine lv_aload_n hx hb dL_law_504 rfl (lv_at hl 1 rfl) ?_
  refine lv_aload_n hx hb dL_law_505 rfl (lv_at hl 0 rfl) ?_
  refine lv_iload hx hb dL_law_506 (lv_at hl 4 rfl) ?_
  refine lv_iconst (v := 1) hx hb dL_law_508 (by decide) ?_
  refine lv_iadd hx hb dL_law_509 ?_
  refine la_sld A hS 1 rfl (by omega) dL_law_510 ?_
  refine lv_aload_n hx hb dL_law_511 rfl (lv_at hl 3 rfl) ?_
  refine bd_cL [Value.ref (bd_ea E 0 0 0), Value.int (xs (g + 1)), Value.ref (bd_ea E 30 0 0)] [] C Z N hM hR hS qm_L_99 qt_L_rehearse qz_L qc_L_rehearse qp_L_rehearse.2 ⟨by omega, by omega⟩ hl.1 (Nat.le_of_ble_eq_true rfl) dL_law_512 ⟨by omega, by omega⟩ (fun H locs hR hS hz1 => ?_)
  refine lv_istore (lv' := (5, .int k) :: la_lv E b g) hx hb dL_law_515 hl (by decide) rfl (fun ls hl => ?_)
  refine lv_aload_n hx hb dL_law_517 rfl (lv_at hl 3 rfl) ?_
  refine lv_aload_n hx hb dL_law_518 rfl (lv_at hl 1 rfl) ?_
  refine lv_iload hx hb dL_law_519 (lv_at hl 5 rfl) ?_
  refine lv_iconst (v := 1) hx hb dL_law_521 (by decide) ?_
  refine lv_iadd hx hb dL_law_522 ?_
  refine la_sld A hS 1 rfl (by omega) dL_law_523 ?_
  refine bd_cV1 [.int (xs (g + 1))] [] C hM2 hR hS (bd_recv C.2 hR ⟨by decide, (by decide), (by decide)⟩ rfl rfl) qm_L_101 qi_X7_rehearse qs_X7_rehearse qz_X7 qc_X7_rehearse qp_X7_rehearse ⟨by omega, by omega⟩ hl.1 (Nat.le_of_ble_eq_true rfl) dL_law_524 ⟨by omega, by omega⟩ (fun H locs hR hS hz2 => ?_)
  refine lv_istore (lv' := (6, .int r) :: (5, .int k) :: la_lv E b g) hx hb dL_law_527 hl (by decide) rfl (fun ls hl => ?_)
  refine lv_aload_n hx hb dL_law_529 rfl (lv_at hl 4 rfl) ?_
  refine bd_cV1 [] [] C (k_X7_thrown l E xm' ym' om') hR hS (bd_recv C.2 hR ⟨by decide, (by decide), (by decide)⟩ rfl rfl) qm_L_81 qi_X7_thrown qs_X7_thrown qz_X7 qc_X7_thrown qp_X7_thrown ⟨by omega, by omega⟩ hl.1 (Nat.le_of_ble_eq_true rfl) dL_law_530 ⟨by omega, by omega⟩ (fun H locs hR hS hz3 => ?_)
  refine lv_iload hx hb dL_law_533 (lv_at hl 1 rfl) ?_
  refine lv_icmp_eq (tgt := 540) hx hb dL_law_535 (by decide) (fun _ => ?_) (fun c9 => absurd hth c9)
  have hl9 : lv_has ls 9 (la_lv E b g) := lv_sub hl [2, 3, 4, 5, 6] rfl
  refine lv_iload hx hb dL_law_540 (lv_at hl 1 rfl) ?_
  refine lv_if_ne (tgt := 557) hx hb dL_law_542 (by decide) (fun _ => ?_) (fun k0 => ?_)
  · refine lv_goto (tgt := 1315) hx hb dL_law_557 (by decide) ?_
    refine W.widen (k := cells + 400) (n := slots + 1600) (by omega) (by omega) ?_
    exact kk xm' ym' om' H locs ls hJ hR hS hl9
  · refine lv_aload_n hx hb dL_law_545 rfl (lv_at hl 5 rfl) ?_
    refine lv_iconst (v := 0) hx hb dL_law_546 (by decide) ?_
    refine bd_ldO C hR dL_law_547 ?_
    refine lv_iload hx hb dL_law_548 (lv_at hl 0 rfl) ?_
    refine lv_i2l (v := r.toInt64) hx hb dL_law_550 rfl ?_
    refine W.lcmp hx hb dL_law_551 ?_
    refine lv_if_eq (tgt := 557) hx hb dL_law_552 (by decide) (fun _ => ?_) (fun c9 => absurd ((lg_cmp_eq _ _).mpr (hag k0)) c9)
    refine lv_goto (tgt := 1315) hx hb dL_law_557 (by decide) ?_
    refine W.widen (k := cells + 400) (n := slots + 1600) (by omega) (by omega) ?_
    exact kk xm' ym' om' H locs ls hJ hR hS hl9

set_option maxHeartbeats 4000000 in
set_option maxRecDepth 100000 in
theorem la_setPiece (A : la_At E p s m c b L xs) (hR0 : 12 ≤ R.frames ∧ 440 ≤ R.locals) (hg : g + 4 < L) (hO : la_Ok l E yL_setPiece cL_setPiece 5 [(0, 10, 13, 25), (0, 10, 17, 13)] yX7_setPiece cX7_setPiece 4 [.int (xs (g + 1)), .int (xs (g + 2))] xm ym om J) (hR : bd_Rep E xm ym om H) (hS : va_S (bd_A E) s.heap H locs) (hl : lv_has ls 9 (la_lv E b g)) (hf : cells + 400 ≤ R.cells ∧ slots + 1600 ≤ R.slots)
    (kk : ∀ (xm' ym' : bd_M) (om' : Nat → Int64) (H1 : Heap) (locs1 : List Loc) (ls1 : Array Slot), J xm' ym' → bd_Rep E xm' ym' om' H1 → va_S (bd_A E) s.heap H1 locs1 → lv_has ls1 9 (la_lv E b g) → W p l e R s m #[Value.ref b] below meth c H1 locs1 (cells + 400) (slots + 1600) Q (F0 m 1315 ls1 [])) : W p l e R s m #[Value.ref b] below meth c H locs cells slots Q (F0 m 560 ls []) := by
  obtain ⟨fr, lo, mc, ms, fr2, lo2, mc2, ms2, xm', ym', om', k, r, ⟨b1, b2, b3, b4, b5, b6⟩, hM, hM2, hth, hag, hJ⟩ := hO
  have C := A.1
  have Z := A.2.1
  have N := A.2.2.1
  have hx := C.1.1
  have hb := C.1.2.1
  refine lv_aload_n hx hb dL_law_560 rfl (lv_at hl 1 rfl) ?_
  refine lv_aload_n hx hb dL_law_561 rfl (lv_at hl 0 rfl) ?_
  refine lv_iload hx hb dL_law_562 (lv_at hl 4 rfl) ?_
  refine lv_iconst (v := 1) hx hb dL_law_564 (by decide) ?_
  refine lv_iadd hx hb dL_law_565 ?_
  refine la_sld A hS 1 rfl (by omega) dL_law_566 ?_
  refine lv_aload_n hx hb dL_law_567 rfl (lv_at hl 0 rfl) ?_
  refine lv_iload hx hb dL_law_568 (lv_at hl 4 rfl) ?_
  refine lv_iconst (v := 2) hx hb dL_law_570 (by decide) ?_
  refine lv_iadd hx hb dL_law_571 ?_
  refine la_sld A hS 2 rfl (by omega) dL_law_572 ?_
  refine lv_aload_n hx hb dL_law_573 rfl (lv_at hl 3 rfl) ?_
  refine bd_cL [Value.ref (bd_ea E 0 0 0), Value.int (xs (g + 1)), Value.int (xs (g + 2)), Value.ref (bd_ea E 30 0 0)] [] C Z N hM hR hS qm_L_102 qt_L_setPiece qz_L qc_L_setPiece qp_L_setPiece.2 ⟨by omega, by omega⟩ hl.1 (Nat.le_of_ble_eq_true rfl) dL_law_574 ⟨by omega, by omega⟩ (fun H locs hR hS hz1 => ?_)
  refine lv_istore (lv' := (5, .int k) :: la_lv E b g) hx hb dL_law_577 hl (by decide) rfl (fun ls hl => ?_)
  refine lv_aload_n hx hb dL_law_579 rfl (lv_at hl 3 rfl) ?_
  refine lv_aload_n hx hb dL_law_580 rfl (lv_at hl 1 rfl) ?_
  refine lv_iload hx hb dL_law_581 (lv_at hl 5 rfl) ?_
  refine lv_iconst (v := 1) hx hb dL_law_583 (by decide) ?_
  refine lv_iadd hx hb dL_law_584 ?_
  refine la_sld A hS 1 rfl (by omega) dL_law_585 ?_
  refine lv_aload_n hx hb dL_law_586 rfl (lv_at hl 1 rfl) ?_
  refine lv_iload hx hb dL_law_587 (lv_at hl 5 rfl) ?_
  refine lv_iconst (v := 2) hx hb dL_law_589 (by decide) ?_
  refine lv_iadd hx hb dL_law_590 ?_
  refine la_sld A hS 2 rfl (by omega) dL_law_591 ?_
  refine bd_cV1 [.int (xs (g + 1)), .int (xs (g + 2))] [] C hM2 hR hS (bd_recv C.2 hR ⟨by decide, (by decide), (by decide)⟩ rfl rfl) qm_L_104 qi_X7_setPiece qs_X7_setPiece qz_X7 qc_X7_setPiece qp_X7_setPiece ⟨by omega, by omega⟩ hl.1 (Nat.le_of_ble_eq_true rfl) dL_law_592 ⟨by omega, by omega⟩ (fun H locs hR hS hz2 => ?_)
  refine lv_istore (lv' := (6, .int r) :: (5, .int k) :: la_lv E b g) hx hb dL_law_595 hl (by decide) rfl (fun ls hl => ?_)
  refine lv_aload_n hx hb dL_law_597 rfl (lv_at hl 4 rfl) ?_
  refine bd_cV1 [] [] C (k_X7_thrown l E xm' ym' om') hR hS (bd_recv C.2 hR ⟨by decide, (by decide), (by decide)⟩ rfl rfl) qm_L_81 qi_X7_thrown qs_X7_thrown qz_X7 qc_X7_thrown qp_X7_thrown ⟨by omega, by omega⟩ hl.1 (Nat.le_of_ble_eq_true rfl) dL_law_598 ⟨by omega, by omega⟩ (fun H locs hR hS hz3 => ?_)
  refine lv_iload hx hb dL_law_601 (lv_at hl 1 rfl) ?_
  refine lv_icmp_eq (tgt := 608) hx hb dL_law_603 (by decide) (fun _ => ?_) (fun c9 => absurd hth c9)
  have hl9 : lv_has ls 9 (la_lv E b g) := lv_sub hl [2, 3, 4, 5, 6] rfl
  refine lv_iload hx hb dL_law_608 (lv_at hl 1 rfl) ?_
  refine lv_if_ne (tgt := 625) hx hb dL_law_610 (by decide) (fun _ => ?_) (fun k0 => ?_)
  · refine lv_goto (tgt := 1315) hx hb dL_law_625 (by decide) ?_
    refine W.widen (k := cells + 400) (n := slots + 1600) (by omega) (by omega) ?_
    exact kk xm' ym' om' H locs ls hJ hR hS hl9
  · refine lv_aload_n hx hb dL_law_613 rfl (lv_at hl 5 rfl) ?_
    refine lv_iconst (v := 0) hx hb dL_law_614 (by decide) ?_
    refine bd_ldO C hR dL_law_615 ?_
    refine lv_iload hx hb dL_law_616 (lv_at hl 0 rfl) ?_
    refine lv_i2l (v := r.toInt64) hx hb dL_law_618 rfl ?_
    refine W.lcmp hx hb dL_law_619 ?_
    refine lv_if_eq (tgt := 625) hx hb dL_law_620 (by decide) (fun _ => ?_) (fun c9 => absurd ((lg_cmp_eq _ _).mpr (hag k0)) c9)
    refine lv_goto (tgt := 1315) hx hb dL_law_625 (by decide) ?_
    refine W.widen (k := cells + 400) (n := slots + 1600) (by omega) (by omega) ?_
    exact kk xm' ym' om' H locs ls hJ hR hS hl9

set_option maxHeartbeats 4000000 in
set_option maxRecDepth 100000 in
theorem la_setTaste (A : la_At E p s m c b L xs) (hR0 : 12 ≤ R.frames ∧ 440 ≤ R.locals) (hg : g + 4 < L) (hO : la_Ok l E yL_setTaste cL_setTaste 5 [(0, 10, 13, 25), (0, 10, 17, 13)] yX7_setTaste cX7_setTaste 4 [.int (xs (g + 1)), .int (xs (g + 2))] xm ym om J) (hR : bd_Rep E xm ym om H) (hS : va_S (bd_A E) s.heap H locs) (hl : lv_has ls 9 (la_lv E b g)) (hf : cells + 400 ≤ R.cells ∧ slots + 1600 ≤ R.slots)
    (kk : ∀ (xm' ym' : bd_M) (om' : Nat → Int64) (H1 : Heap) (locs1 : List Loc) (ls1 : Array Slot), J xm' ym' → bd_Rep E xm' ym' om' H1 → va_S (bd_A E) s.heap H1 locs1 → lv_has ls1 9 (la_lv E b g) → W p l e R s m #[Value.ref b] below meth c H1 locs1 (cells + 400) (slots + 1600) Q (F0 m 1315 ls1 [])) : W p l e R s m #[Value.ref b] below meth c H locs cells slots Q (F0 m 628 ls []) := by
  obtain ⟨fr, lo, mc, ms, fr2, lo2, mc2, ms2, xm', ym', om', k, r, ⟨b1, b2, b3, b4, b5, b6⟩, hM, hM2, hth, hag, hJ⟩ := hO
  have C := A.1
  have Z := A.2.1
  have N := A.2.2.1
  have hx := C.1.1
  have hb := C.1.2.1
  refine lv_aload_n hx hb dL_law_628 rfl (lv_at hl 1 rfl) ?_
  refine lv_aload_n hx hb dL_law_629 rfl (lv_at hl 0 rfl) ?_
  refine lv_iload hx hb dL_law_630 (lv_at hl 4 rfl) ?_
  refine lv_iconst (v := 1) hx hb dL_law_632 (by decide) ?_
  refine lv_iadd hx hb dL_law_633 ?_
  refine la_sld A hS 1 rfl (by omega) dL_law_634 ?_
  refine lv_aload_n hx hb dL_law_635 rfl (lv_at hl 0 rfl) ?_
  refine lv_iload hx hb dL_law_636 (lv_at hl 4 rfl) ?_
  refine lv_iconst (v := 2) hx hb dL_law_638 (by decide) ?_
  refine lv_iadd hx hb dL_law_639 ?_
  refine la_sld A hS 2 rfl (by omega) dL_law_640 ?_
  refine lv_aload_n hx hb dL_law_641 rfl (lv_at hl 3 rfl) ?_
  refine bd_cL [Value.ref (bd_ea E 0 0 0), Value.int (xs (g + 1)), Value.int (xs (g + 2)), Value.ref (bd_ea E 30 0 0)] [] C Z N hM hR hS qm_L_105 qt_L_setTaste qz_L qc_L_setTaste qp_L_setTaste.2 ⟨by omega, by omega⟩ hl.1 (Nat.le_of_ble_eq_true rfl) dL_law_642 ⟨by omega, by omega⟩ (fun H locs hR hS hz1 => ?_)
  refine lv_istore (lv' := (5, .int k) :: la_lv E b g) hx hb dL_law_645 hl (by decide) rfl (fun ls hl => ?_)
  refine lv_aload_n hx hb dL_law_647 rfl (lv_at hl 3 rfl) ?_
  refine lv_aload_n hx hb dL_law_648 rfl (lv_at hl 1 rfl) ?_
  refine lv_iload hx hb dL_law_649 (lv_at hl 5 rfl) ?_
  refine lv_iconst (v := 1) hx hb dL_law_651 (by decide) ?_
  refine lv_iadd hx hb dL_law_652 ?_
  refine la_sld A hS 1 rfl (by omega) dL_law_653 ?_
  refine lv_aload_n hx hb dL_law_654 rfl (lv_at hl 1 rfl) ?_
  refine lv_iload hx hb dL_law_655 (lv_at hl 5 rfl) ?_
  refine lv_iconst (v := 2) hx hb dL_law_657 (by decide) ?_
  refine lv_iadd hx hb dL_law_658 ?_
  refine la_sld A hS 2 rfl (by omega) dL_law_659 ?_
  refine bd_cV1 [.int (xs (g + 1)), .int (xs (g + 2))] [] C hM2 hR hS (bd_recv C.2 hR ⟨by decide, (by decide), (by decide)⟩ rfl rfl) qm_L_107 qi_X7_setTaste qs_X7_setTaste qz_X7 qc_X7_setTaste qp_X7_setTaste ⟨by omega, by omega⟩ hl.1 (Nat.le_of_ble_eq_true rfl) dL_law_660 ⟨by omega, by omega⟩ (fun H locs hR hS hz2 => ?_)
  refine lv_istore (lv' := (6, .int r) :: (5, .int k) :: la_lv E b g) hx hb dL_law_663 hl (by decide) rfl (fun ls hl => ?_)
  refine lv_aload_n hx hb dL_law_665 rfl (lv_at hl 4 rfl) ?_
  refine bd_cV1 [] [] C (k_X7_thrown l E xm' ym' om') hR hS (bd_recv C.2 hR ⟨by decide, (by decide), (by decide)⟩ rfl rfl) qm_L_81 qi_X7_thrown qs_X7_thrown qz_X7 qc_X7_thrown qp_X7_thrown ⟨by omega, by omega⟩ hl.1 (Nat.le_of_ble_eq_true rfl) dL_law_666 ⟨by omega, by omega⟩ (fun H locs hR hS hz3 => ?_)
  refine lv_iload hx hb dL_law_669 (lv_at hl 1 rfl) ?_
  refine lv_icmp_eq (tgt := 676) hx hb dL_law_671 (by decide) (fun _ => ?_) (fun c9 => absurd hth c9)
  have hl9 : lv_has ls 9 (la_lv E b g) := lv_sub hl [2, 3, 4, 5, 6] rfl
  refine lv_iload hx hb dL_law_676 (lv_at hl 1 rfl) ?_
  refine lv_if_ne (tgt := 693) hx hb dL_law_678 (by decide) (fun _ => ?_) (fun k0 => ?_)
  · refine lv_goto (tgt := 1315) hx hb dL_law_693 (by decide) ?_
    refine W.widen (k := cells + 400) (n := slots + 1600) (by omega) (by omega) ?_
    exact kk xm' ym' om' H locs ls hJ hR hS hl9
  · refine lv_aload_n hx hb dL_law_681 rfl (lv_at hl 5 rfl) ?_
    refine lv_iconst (v := 0) hx hb dL_law_682 (by decide) ?_
    refine bd_ldO C hR dL_law_683 ?_
    refine lv_iload hx hb dL_law_684 (lv_at hl 0 rfl) ?_
    refine lv_i2l (v := r.toInt64) hx hb dL_law_686 rfl ?_
    refine W.lcmp hx hb dL_law_687 ?_
    refine lv_if_eq (tgt := 693) hx hb dL_law_688 (by decide) (fun _ => ?_) (fun c9 => absurd ((lg_cmp_eq _ _).mpr (hag k0)) c9)
    refine lv_goto (tgt := 1315) hx hb dL_law_693 (by decide) ?_
    refine W.widen (k := cells + 400) (n := slots + 1600) (by omega) (by omega) ?_
    exact kk xm' ym' om' H locs ls hJ hR hS hl9

set_option maxHeartbeats 4000000 in
set_option maxRecDepth 100000 in
theorem la_player (A : la_At E p s m c b L xs) (hR0 : 12 ≤ R.frames ∧ 440 ≤ R.locals) (hg : g + 4 < L) (hO : la_Ok l E yL_player cL_player 5 [(0, 10, 13, 25)] yX7_player cX7_player 3 [.int (xs (g + 1)), .int (xs (g + 2))] xm ym om J) (hR : bd_Rep E xm ym om H) (hS : va_S (bd_A E) s.heap H locs) (hl : lv_has ls 9 (la_lv E b g)) (hf : cells + 400 ≤ R.cells ∧ slots + 1600 ≤ R.slots)
    (kk : ∀ (xm' ym' : bd_M) (om' : Nat → Int64) (H1 : Heap) (locs1 : List Loc) (ls1 : Array Slot), J xm' ym' → bd_Rep E xm' ym' om' H1 → va_S (bd_A E) s.heap H1 locs1 → lv_has ls1 9 (la_lv E b g) → W p l e R s m #[Value.ref b] below meth c H1 locs1 (cells + 400) (slots + 1600) Q (F0 m 1315 ls1 [])) : W p l e R s m #[Value.ref b] below meth c H locs cells slots Q (F0 m 696 ls []) := by
  obtain ⟨fr, lo, mc, ms, fr2, lo2, mc2, ms2, xm', ym', om', k, r, ⟨b1, b2, b3, b4, b5, b6⟩, hM, hM2, hth, hag, hJ⟩ := hO
  have C := A.1
  have Z := A.2.1
  have N := A.2.2.1
  have hx := C.1.1
  have hb := C.1.2.1
  refine lv_aload_n hx hb dL_law_696 rfl (lv_at hl 1 rfl) ?_
  refine lv_aload_n hx hb dL_law_697 rfl (lv_at hl 0 rfl) ?_
  refine lv_iload hx hb dL_law_698 (lv_at hl 4 rfl) ?_
  refine lv_iconst (v := 1) hx hb dL_law_700 (by decide) ?_
  refine lv_iadd hx hb dL_law_701 ?_
  refine la_sld A hS 1 rfl (by omega) dL_law_702 ?_
  refine lv_aload_n hx hb dL_law_703 rfl (lv_at hl 0 rfl) ?_
  refine lv_iload hx hb dL_law_704 (lv_at hl 4 rfl) ?_
  refine lv_iconst (v := 2) hx hb dL_law_706 (by decide) ?_
  refine lv_iadd hx hb dL_law_707 ?_
  refine la_sld A hS 2 rfl (by omega) dL_law_708 ?_
  refine lv_aload_n hx hb dL_law_709 rfl (lv_at hl 3 rfl) ?_
  refine bd_cL [Value.ref (bd_ea E 0 0 0), Value.int (xs (g + 1)), Value.int (xs (g + 2)), Value.ref (bd_ea E 30 0 0)] [] C Z N hM hR hS qm_L_108 qt_L_player qz_L qc_L_player qp_L_player.2 ⟨by omega, by omega⟩ hl.1 (Nat.le_of_ble_eq_true rfl) dL_law_710 ⟨by omega, by omega⟩ (fun H locs hR hS hz1 => ?_)
  refine lv_istore (lv' := (5, .int k) :: la_lv E b g) hx hb dL_law_713 hl (by decide) rfl (fun ls hl => ?_)
  refine lv_aload_n hx hb dL_law_715 rfl (lv_at hl 3 rfl) ?_
  refine lv_aload_n hx hb dL_law_716 rfl (lv_at hl 1 rfl) ?_
  refine lv_iload hx hb dL_law_717 (lv_at hl 5 rfl) ?_
  refine lv_iconst (v := 1) hx hb dL_law_719 (by decide) ?_
  refine lv_iadd hx hb dL_law_720 ?_
  refine la_sld A hS 1 rfl (by omega) dL_law_721 ?_
  refine lv_aload_n hx hb dL_law_722 rfl (lv_at hl 1 rfl) ?_
  refine lv_iload hx hb dL_law_723 (lv_at hl 5 rfl) ?_
  refine lv_iconst (v := 2) hx hb dL_law_725 (by decide) ?_
  refine lv_iadd hx hb dL_law_726 ?_
  refine la_sld A hS 2 rfl (by omega) dL_law_727 ?_
  refine bd_cV1 [.int (xs (g + 1)), .int (xs (g + 2))] [] C hM2 hR hS (bd_recv C.2 hR ⟨by decide, (by decide), (by decide)⟩ rfl rfl) qm_L_110 qi_X7_player qs_X7_player qz_X7 qc_X7_player qp_X7_player ⟨by omega, by omega⟩ hl.1 (Nat.le_of_ble_eq_true rfl) dL_law_728 ⟨by omega, by omega⟩ (fun H locs hR hS hz2 => ?_)
  refine lv_istore (lv' := (6, .int r) :: (5, .int k) :: la_lv E b g) hx hb dL_law_731 hl (by decide) rfl (fun ls hl => ?_)
  refine lv_aload_n hx hb dL_law_733 rfl (lv_at hl 4 rfl) ?_
  refine bd_cV1 [] [] C (k_X7_thrown l E xm' ym' om') hR hS (bd_recv C.2 hR ⟨by decide, (by decide), (by decide)⟩ rfl rfl) qm_L_81 qi_X7_thrown qs_X7_thrown qz_X7 qc_X7_thrown qp_X7_thrown ⟨by omega, by omega⟩ hl.1 (Nat.le_of_ble_eq_true rfl) dL_law_734 ⟨by omega, by omega⟩ (fun H locs hR hS hz3 => ?_)
  refine lv_iload hx hb dL_law_737 (lv_at hl 1 rfl) ?_
  refine lv_icmp_eq (tgt := 744) hx hb dL_law_739 (by decide) (fun _ => ?_) (fun c9 => absurd hth c9)
  have hl9 : lv_has ls 9 (la_lv E b g) := lv_sub hl [2, 3, 4, 5, 6] rfl
  refine lv_iload hx hb dL_law_744 (lv_at hl 1 rfl) ?_
  refine lv_if_ne (tgt := 761) hx hb dL_law_746 (by decide) (fun _ => ?_) (fun k0 => ?_)
  · refine lv_goto (tgt := 1315) hx hb dL_law_761 (by decide) ?_
    refine W.widen (k := cells + 400) (n := slots + 1600) (by omega) (by omega) ?_
    exact kk xm' ym' om' H locs ls hJ hR hS hl9
  · refine lv_aload_n hx hb dL_law_749 rfl (lv_at hl 5 rfl) ?_
    refine lv_iconst (v := 0) hx hb dL_law_750 (by decide) ?_
    refine bd_ldO C hR dL_law_751 ?_
    refine lv_iload hx hb dL_law_752 (lv_at hl 0 rfl) ?_
    refine lv_i2l (v := r.toInt64) hx hb dL_law_754 rfl ?_
    refine W.lcmp hx hb dL_law_755 ?_
    refine lv_if_eq (tgt := 761) hx hb dL_law_756 (by decide) (fun _ => ?_) (fun c9 => absurd ((lg_cmp_eq _ _).mpr (hag k0)) c9)
    refine lv_goto (tgt := 1315) hx hb dL_law_761 (by decide) ?_
    refine W.widen (k := cells + 400) (n := slots + 1600) (by omega) (by omega) ?_
    exact kk xm' ym' om' H locs ls hJ hR hS hl9

set_option maxHeartbeats 4000000 in
set_option maxRecDepth 100000 in
theorem la_band (A : la_At E p s m c b L xs) (hR0 : 12 ≤ R.frames ∧ 440 ≤ R.locals) (hg : g + 4 < L) (hO : la_Ok l E yL_band cL_band 5 [(0, 10, 13, 25)] yX7_band cX7_band 3 [.int (xs (g + 1)), .int (xs (g + 2))] xm ym om J) (hR : bd_Rep E xm ym om H) (hS : va_S (bd_A E) s.heap H locs) (hl : lv_has ls 9 (la_lv E b g)) (hf : cells + 400 ≤ R.cells ∧ slots + 1600 ≤ R.slots)
    (kk : ∀ (xm' ym' : bd_M) (om' : Nat → Int64) (H1 : Heap) (locs1 : List Loc) (ls1 : Array Slot), J xm' ym' → bd_Rep E xm' ym' om' H1 → va_S (bd_A E) s.heap H1 locs1 → lv_has ls1 9 (la_lv E b g) → W p l e R s m #[Value.ref b] below meth c H1 locs1 (cells + 400) (slots + 1600) Q (F0 m 1315 ls1 [])) : W p l e R s m #[Value.ref b] below meth c H locs cells slots Q (F0 m 764 ls []) := by
  obtain ⟨fr, lo, mc, ms, fr2, lo2, mc2, ms2, xm', ym', om', k, r, ⟨b1, b2, b3, b4, b5, b6⟩, hM, hM2, hth, hag, hJ⟩ := hO
  have C := A.1
  have Z := A.2.1
  have N := A.2.2.1
  have hx := C.1.1
  have hb := C.1.2.1
  refine lv_aload_n hx hb dL_law_764 rfl (lv_at hl 1 rfl) ?_
  refine lv_aload_n hx hb dL_law_765 rfl (lv_at hl 0 rfl) ?_
  refine lv_iload hx hb dL_law_766 (lv_at hl 4 rfl) ?_
  refine lv_iconst (v := 1) hx hb dL_law_768 (by decide) ?_
  refine lv_iadd hx hb dL_law_769 ?_
  refine la_sld A hS 1 rfl (by omega) dL_law_770 ?_
  refine lv_aload_n hx hb dL_law_771 rfl (lv_at hl 0 rfl) ?_
  refine lv_iload hx hb dL_law_772 (lv_at hl 4 rfl) ?_
  refine lv_iconst (v := 2) hx hb dL_law_774 (by decide) ?_
  refine lv_iadd hx hb dL_law_775 ?_
  refine la_sld A hS 2 rfl (by omega) dL_law_776 ?_
  refine lv_aload_n hx hb dL_law_777 rfl (lv_at hl 3 rfl) ?_
  refine bd_cL [Value.ref (bd_ea E 0 0 0), Value.int (xs (g + 1)), Value.int (xs (g + 2)), Value.ref (bd_ea E 30 0 0)] [] C Z N hM hR hS qm_L_111 qt_L_band qz_L qc_L_band qp_L_band.2 ⟨by omega, by omega⟩ hl.1 (Nat.le_of_ble_eq_true rfl) dL_law_778 ⟨by omega, by omega⟩ (fun H locs hR hS hz1 => ?_)
  refine lv_istore (lv' := (5, .int k) :: la_lv E b g) hx hb dL_law_781 hl (by decide) rfl (fun ls hl => ?_)
  refine lv_aload_n hx hb dL_law_783 rfl (lv_at hl 3 rfl) ?_
  refine lv_aload_n hx hb dL_law_784 rfl (lv_at hl 1 rfl) ?_
  refine lv_iload hx hb dL_law_785 (lv_at hl 5 rfl) ?_
  refine lv_iconst (v := 1) hx hb dL_law_787 (by decide) ?_
  refine lv_iadd hx hb dL_law_788 ?_
  refine la_sld A hS 1 rfl (by omega) dL_law_789 ?_
  refine lv_aload_n hx hb dL_law_790 rfl (lv_at hl 1 rfl) ?_
  refine lv_iload hx hb dL_law_791 (lv_at hl 5 rfl) ?_
  refine lv_iconst (v := 2) hx hb dL_law_793 (by decide) ?_
  refine lv_iadd hx hb dL_law_794 ?_
  refine la_sld A hS 2 rfl (by omega) dL_law_795 ?_
  refine bd_cV1 [.int (xs (g + 1)), .int (xs (g + 2))] [] C hM2 hR hS (bd_recv C.2 hR ⟨by decide, (by decide), (by decide)⟩ rfl rfl) qm_L_113 qi_X7_band qs_X7_band qz_X7 qc_X7_band qp_X7_band ⟨by omega, by omega⟩ hl.1 (Nat.le_of_ble_eq_true rfl) dL_law_796 ⟨by omega, by omega⟩ (fun H locs hR hS hz2 => ?_)
  refine lv_istore (lv' := (6, .int r) :: (5, .int k) :: la_lv E b g) hx hb dL_law_799 hl (by decide) rfl (fun ls hl => ?_)
  refine lv_aload_n hx hb dL_law_801 rfl (lv_at hl 4 rfl) ?_
  refine bd_cV1 [] [] C (k_X7_thrown l E xm' ym' om') hR hS (bd_recv C.2 hR ⟨by decide, (by decide), (by decide)⟩ rfl rfl) qm_L_81 qi_X7_thrown qs_X7_thrown qz_X7 qc_X7_thrown qp_X7_thrown ⟨by omega, by omega⟩ hl.1 (Nat.le_of_ble_eq_true rfl) dL_law_802 ⟨by omega, by omega⟩ (fun H locs hR hS hz3 => ?_)
  refine lv_iload hx hb dL_law_805 (lv_at hl 1 rfl) ?_
  refine lv_icmp_eq (tgt := 812) hx hb dL_law_807 (by decide) (fun _ => ?_) (fun c9 => absurd hth c9)
  have hl9 : lv_has ls 9 (la_lv E b g) := lv_sub hl [2, 3, 4, 5, 6] rfl
  refine lv_iload hx hb dL_law_812 (lv_at hl 1 rfl) ?_
  refine lv_if_ne (tgt := 829) hx hb dL_law_814 (by decide) (fun _ => ?_) (fun k0 => ?_)
  · refine lv_goto (tgt := 1315) hx hb dL_law_829 (by decide) ?_
    refine W.widen (k := cells + 400) (n := slots + 1600) (by omega) (by omega) ?_
    exact kk xm' ym' om' H locs ls hJ hR hS hl9
  · refine lv_aload_n hx hb dL_law_817 rfl (lv_at hl 5 rfl) ?_
    refine lv_iconst (v := 0) hx hb dL_law_818 (by decide) ?_
    refine bd_ldO C hR dL_law_819 ?_
    refine lv_iload hx hb dL_law_820 (lv_at hl 0 rfl) ?_
    refine lv_i2l (v := r.toInt64) hx hb dL_law_822 rfl ?_
    refine W.lcmp hx hb dL_law_823 ?_
    refine lv_if_eq (tgt := 829) hx hb dL_law_824 (by decide) (fun _ => ?_) (fun c9 => absurd ((lg_cmp_eq _ _).mpr (hag k0)) c9)
    refine lv_goto (tgt := 1315) hx hb dL_law_829 (by decide) ?_
    refine W.widen (k := cells + 400) (n := slots + 1600) (by omega) (by omega) ?_
    exact kk xm' ym' om' H locs ls hJ hR hS hl9

set_option maxHeartbeats 4000000 in
set_option maxRecDepth 100000 in
theorem la_chair (A : la_At E p s m c b L xs) (hR0 : 12 ≤ R.frames ∧ 440 ≤ R.locals) (hg : g + 4 < L) (hO : la_Ok l E yL_chair cL_chair 6 [(0, 12, 15, 25)] yX7_chair cX7_chair 4 [.int (xs (g + 1)), .int (xs (g + 2)), .int (xs (g + 3))] xm ym om J) (hR : bd_Rep E xm ym om H) (hS : va_S (bd_A E) s.heap H locs) (hl : lv_has ls 9 (la_lv E b g)) (hf : cells + 400 ≤ R.cells ∧ slots + 1600 ≤ R.slots)
    (kk : ∀ (xm' ym' : bd_M) (om' : Nat → Int64) (H1 : Heap) (locs1 : List Loc) (ls1 : Array Slot), J xm' ym' → bd_Rep E xm' ym' om' H1 → va_S (bd_A E) s.heap H1 locs1 → lv_has ls1 9 (la_lv E b g) → W p l e R s m #[Value.ref b] below meth c H1 locs1 (cells + 400) (slots + 1600) Q (F0 m 1315 ls1 [])) : W p l e R s m #[Value.ref b] below meth c H locs cells slots Q (F0 m 832 ls []) := by
  obtain ⟨fr, lo, mc, ms, fr2, lo2, mc2, ms2, xm', ym', om', k, r, ⟨b1, b2, b3, b4, b5, b6⟩, hM, hM2, hth, hag, hJ⟩ := hO
  have C := A.1
  have Z := A.2.1
  have N := A.2.2.1
  have hx := C.1.1
  have hb := C.1.2.1
  refine lv_aload_n hx hb dL_law_832 rfl (lv_at hl 1 rfl) ?_
  refine lv_aload_n hx hb dL_law_833 rfl (lv_at hl 0 rfl) ?_
  refine lv_iload hx hb dL_law_834 (lv_at hl 4 rfl) ?_
  refine lv_iconst (v := 1) hx hb dL_law_836 (by decide) ?_
  refine lv_iadd hx hb dL_law_837 ?_
  refine la_sld A hS 1 rfl (by omega) dL_law_838 ?_
  refine lv_aload_n hx hb dL_law_839 rfl (lv_at hl 0 rfl) ?_
  refine lv_iload hx hb dL_law_840 (lv_at hl 4 rfl) ?_
  refine lv_iconst (v := 2) hx hb dL_law_842 (by decide) ?_
  refine lv_iadd hx hb dL_law_843 ?_
  refine la_sld A hS 2 rfl (by omega) dL_law_844 ?_
  refine lv_aload_n hx hb dL_law_845 rfl (lv_at hl 0 rfl) ?_
  refine lv_iload hx hb dL_law_846 (lv_at hl 4 rfl) ?_
  refine lv_iconst (v := 3) hx hb dL_law_848 (by decide) ?_
  refine lv_iadd hx hb dL_law_849 ?_
  refine la_sld A hS 3 rfl (by omega) dL_law_850 ?_
  refine lv_aload_n hx hb dL_law_851 rfl (lv_at hl 3 rfl) ?_
  refine bd_cL [Value.ref (bd_ea E 0 0 0), Value.int (xs (g + 1)), Value.int (xs (g + 2)), Value.int (xs (g + 3)), Value.ref (bd_ea E 30 0 0)] [] C Z N hM hR hS qm_L_114 qt_L_chair qz_L qc_L_chair qp_L_chair.2 ⟨by omega, by omega⟩ hl.1 (Nat.le_of_ble_eq_true rfl) dL_law_852 ⟨by omega, by omega⟩ (fun H locs hR hS hz1 => ?_)
  refine lv_istore (lv' := (5, .int k) :: la_lv E b g) hx hb dL_law_855 hl (by decide) rfl (fun ls hl => ?_)
  refine lv_aload_n hx hb dL_law_857 rfl (lv_at hl 3 rfl) ?_
  refine lv_aload_n hx hb dL_law_858 rfl (lv_at hl 1 rfl) ?_
  refine lv_iload hx hb dL_law_859 (lv_at hl 5 rfl) ?_
  refine lv_iconst (v := 1) hx hb dL_law_861 (by decide) ?_
  refine lv_iadd hx hb dL_law_862 ?_
  refine la_sld A hS 1 rfl (by omega) dL_law_863 ?_
  refine lv_aload_n hx hb dL_law_864 rfl (lv_at hl 1 rfl) ?_
  refine lv_iload hx hb dL_law_865 (lv_at hl 5 rfl) ?_
  refine lv_iconst (v := 2) hx hb dL_law_867 (by decide) ?_
  refine lv_iadd hx hb dL_law_868 ?_
  refine la_sld A hS 2 rfl (by omega) dL_law_869 ?_
  refine lv_aload_n hx hb dL_law_870 rfl (lv_at hl 1 rfl) ?_
  refine lv_iload hx hb dL_law_871 (lv_at hl 5 rfl) ?_
  refine lv_iconst (v := 3) hx hb dL_law_873 (by decide) ?_
  refine lv_iadd hx hb dL_law_874 ?_
  refine la_sld A hS 3 rfl (by omega) dL_law_875 ?_
  refine bd_cV1 [.int (xs (g + 1)), .int (xs (g + 2)), .int (xs (g + 3))] [] C hM2 hR hS (bd_recv C.2 hR ⟨by decide, (by decide), (by decide)⟩ rfl rfl) qm_L_116 qi_X7_chair qs_X7_chair qz_X7 qc_X7_chair qp_X7_chair ⟨by omega, by omega⟩ hl.1 (Nat.le_of_ble_eq_true rfl) dL_law_876 ⟨by omega, by omega⟩ (fun H locs hR hS hz2 => ?_)
  refine lv_istore (lv' := (6, .int r) :: (5, .int k) :: la_lv E b g) hx hb dL_law_879 hl (by decide) rfl (fun ls hl => ?_)
  refine lv_aload_n hx hb dL_law_881 rfl (lv_at hl 4 rfl) ?_
  refine bd_cV1 [] [] C (k_X7_thrown l E xm' ym' om') hR hS (bd_recv C.2 hR ⟨by decide, (by decide), (by decide)⟩ rfl rfl) qm_L_81 qi_X7_thrown qs_X7_thrown qz_X7 qc_X7_thrown qp_X7_thrown ⟨by omega, by omega⟩ hl.1 (Nat.le_of_ble_eq_true rfl) dL_law_882 ⟨by omega, by omega⟩ (fun H locs hR hS hz3 => ?_)
  refine lv_iload hx hb dL_law_885 (lv_at hl 1 rfl) ?_
  refine lv_icmp_eq (tgt := 892) hx hb dL_law_887 (by decide) (fun _ => ?_) (fun c9 => absurd hth c9)
  have hl9 : lv_has ls 9 (la_lv E b g) := lv_sub hl [2, 3, 4, 5, 6] rfl
  refine lv_iload hx hb dL_law_892 (lv_at hl 1 rfl) ?_
  refine lv_if_ne (tgt := 909) hx hb dL_law_894 (by decide) (fun _ => ?_) (fun k0 => ?_)
  · refine lv_goto (tgt := 1315) hx hb dL_law_909 (by decide) ?_
    refine W.widen (k := cells + 400) (n := slots + 1600) (by omega) (by omega) ?_
    exact kk xm' ym' om' H locs ls hJ hR hS hl9
  · refine lv_aload_n hx hb dL_law_897 rfl (lv_at hl 5 rfl) ?_
    refine lv_iconst (v := 0) hx hb dL_law_898 (by decide) ?_
    refine bd_ldO C hR dL_law_899 ?_
    refine lv_iload hx hb dL_law_900 (lv_at hl 0 rfl) ?_
    refine lv_i2l (v := r.toInt64) hx hb dL_law_902 rfl ?_
    refine W.lcmp hx hb dL_law_903 ?_
    refine lv_if_eq (tgt := 909) hx hb dL_law_904 (by decide) (fun _ => ?_) (fun c9 => absurd ((lg_cmp_eq _ _).mpr (hag k0)) c9)
    refine lv_goto (tgt := 1315) hx hb dL_law_909 (by decide) ?_
    refine W.widen (k := cells + 400) (n := slots + 1600) (by omega) (by omega) ?_
    exact kk xm' ym' om' H locs ls hJ hR hS hl9

set_option maxHeartbeats 4000000 in
set_option maxRecDepth 100000 in
theorem la_contest (A : la_At E p s m c b L xs) (hR0 : 12 ≤ R.frames ∧ 440 ≤ R.locals) (hg : g + 4 < L) (hO : la_Ok l E yL_contest cL_contest 3 [(0, 8, 11, 15)] yX7_contest cX7_contest 1 [] xm ym om J) (hR : bd_Rep E xm ym om H) (hS : va_S (bd_A E) s.heap H locs) (hl : lv_has ls 9 (la_lv E b g)) (hf : cells + 400 ≤ R.cells ∧ slots + 1600 ≤ R.slots)
    (kk : ∀ (xm' ym' : bd_M) (om' : Nat → Int64) (H1 : Heap) (locs1 : List Loc) (ls1 : Array Slot), J xm' ym' → bd_Rep E xm' ym' om' H1 → va_S (bd_A E) s.heap H1 locs1 → lv_has ls1 9 (la_lv E b g) → W p l e R s m #[Value.ref b] below meth c H1 locs1 (cells + 400) (slots + 1600) Q (F0 m 1315 ls1 [])) : W p l e R s m #[Value.ref b] below meth c H locs cells slots Q (F0 m 912 ls []) := by
  obtain ⟨fr, lo, mc, ms, fr2, lo2, mc2, ms2, xm', ym', om', k, r, ⟨b1, b2, b3, b4, b5, b6⟩, hM, hM2, hth, hag, hJ⟩ := hO
  have C := A.1
  have Z := A.2.1
  have N := A.2.2.1
  have hx := C.1.1
  have hb := C.1.2.1
  refine lv_aload_n hx hb dL_law_912 rfl (lv_at hl 1 rfl) ?_
  refine lv_aload_n hx hb dL_law_913 rfl (lv_at hl 3 rfl) ?_
  refine bd_cL [Value.ref (bd_ea E 0 0 0), Value.ref (bd_ea E 30 0 0)] [] C Z N hM hR hS qm_L_117 qt_L_contest qz_L qc_L_contest qp_L_contest.2 ⟨by omega, by omega⟩ hl.1 (Nat.le_of_ble_eq_true rfl) dL_law_914 ⟨by omega, by omega⟩ (fun H locs hR hS hz1 => ?_)
  refine lv_istore (lv' := (5, .int k) :: la_lv E b g) hx hb dL_law_917 hl (by decide) rfl (fun ls hl => ?_)
  refine lv_aload_n hx hb dL_law_919 rfl (lv_at hl 3 rfl) ?_
  refine bd_cV1 [] [] C hM2 hR hS (bd_recv C.2 hR ⟨by decide, (by decide), (by decide)⟩ rfl rfl) qm_L_120 qi_X7_contest qs_X7_contest qz_X7 qc_X7_contest qp_X7_contest ⟨by omega, by omega⟩ hl.1 (Nat.le_of_ble_eq_true rfl) dL_law_920 ⟨by omega, by omega⟩ (fun H locs hR hS hz2 => ?_)
  refine lv_istore (lv' := (6, .int r) :: (5, .int k) :: la_lv E b g) hx hb dL_law_923 hl (by decide) rfl (fun ls hl => ?_)
  refine lv_aload_n hx hb dL_law_925 rfl (lv_at hl 4 rfl) ?_
  refine bd_cV1 [] [] C (k_X7_thrown l E xm' ym' om') hR hS (bd_recv C.2 hR ⟨by decide, (by decide), (by decide)⟩ rfl rfl) qm_L_81 qi_X7_thrown qs_X7_thrown qz_X7 qc_X7_thrown qp_X7_thrown ⟨by omega, by omega⟩ hl.1 (Nat.le_of_ble_eq_true rfl) dL_law_926 ⟨by omega, by omega⟩ (fun H locs hR hS hz3 => ?_)
  refine lv_iload hx hb dL_law_929 (lv_at hl 1 rfl) ?_
  refine lv_icmp_eq (tgt := 936) hx hb dL_law_931 (by decide) (fun _ => ?_) (fun c9 => absurd hth c9)
  have hl9 : lv_has ls 9 (la_lv E b g) := lv_sub hl [2, 3, 4, 5, 6] rfl
  refine lv_iload hx hb dL_law_936 (lv_at hl 1 rfl) ?_
  refine lv_if_ne (tgt := 953) hx hb dL_law_938 (by decide) (fun _ => ?_) (fun k0 => ?_)
  · refine lv_goto (tgt := 1315) hx hb dL_law_953 (by decide) ?_
    refine W.widen (k := cells + 400) (n := slots + 1600) (by omega) (by omega) ?_
    exact kk xm' ym' om' H locs ls hJ hR hS hl9
  · refine lv_aload_n hx hb dL_law_941 rfl (lv_at hl 5 rfl) ?_
    refine lv_iconst (v := 0) hx hb dL_law_942 (by decide) ?_
    refine bd_ldO C hR dL_law_943 ?_
    refine lv_iload hx hb dL_law_944 (lv_at hl 0 rfl) ?_
    refine lv_i2l (v := r.toInt64) hx hb dL_law_946 rfl ?_
    refine W.lcmp hx hb dL_law_947 ?_
    refine lv_if_eq (tgt := 953) hx hb dL_law_948 (by decide) (fun _ => ?_) (fun c9 => absurd ((lg_cmp_eq _ _).mpr (hag k0)) c9)
    refine lv_goto (tgt := 1315) hx hb dL_law_953 (by decide) ?_
    refine W.widen (k := cells + 400) (n := slots + 1600) (by omega) (by omega) ?_
    exact kk xm' ym' om' H locs ls hJ hR hS hl9

set_option maxHeartbeats 4000000 in
set_option maxRecDepth 100000 in
theorem la_rank (A : la_At E p s m c b L xs) (hR0 : 12 ≤ R.frames ∧ 440 ≤ R.locals) (hg : g + 4 < L) (hO : la_Ok l E yL_rank cL_rank 4 [(0, 9, 12, 25)] yX7_rank cX7_rank 5 [.int (xs (g + 1))] xm ym om J) (hR : bd_Rep E xm ym om H) (hS : va_S (bd_A E) s.heap H locs) (hl : lv_has ls 9 (la_lv E b g)) (hf : cells + 400 ≤ R.cells ∧ slots + 1600 ≤ R.slots)
    (kk : ∀ (xm' ym' : bd_M) (om' : Nat → Int64) (H1 : Heap) (locs1 : List Loc) (ls1 : Array Slot), J xm' ym' → bd_Rep E xm' ym' om' H1 → va_S (bd_A E) s.heap H1 locs1 → lv_has ls1 9 (la_lv E b g) → W p l e R s m #[Value.ref b] below meth c H1 locs1 (cells + 400) (slots + 1600) Q (F0 m 1315 ls1 [])) : W p l e R s m #[Value.ref b] below meth c H locs cells slots Q (F0 m 956 ls []) := by
  obtain ⟨fr, lo, mc, ms, fr2, lo2, mc2, ms2, xm', ym', om', k, r, ⟨b1, b2, b3, b4, b5, b6⟩, hM, hM2, hth, hag, hJ⟩ := hO
  have C := A.1
  have Z := A.2.1
  have N := A.2.2.1
  have hx := C.1.1
  have hb := C.1.2.1
  refine lv_aload_n hx hb dL_law_956 rfl (lv_at hl 1 rfl) ?_
  refine lv_aload_n hx hb dL_law_957 rfl (lv_at hl 0 rfl) ?_
  refine lv_iload hx hb dL_law_958 (lv_at hl 4 rfl) ?_
  refine lv_iconst (v := 1) hx hb dL_law_960 (by decide) ?_
  refine lv_iadd hx hb dL_law_961 ?_
  refine la_sld A hS 1 rfl (by omega) dL_law_962 ?_
  refine lv_aload_n hx hb dL_law_963 rfl (lv_at hl 3 rfl) ?_
  refine bd_cL [Value.ref (bd_ea E 0 0 0), Value.int (xs (g + 1)), Value.ref (bd_ea E 30 0 0)] [] C Z N hM hR hS qm_L_121 qt_L_rank qz_L qc_L_rank qp_L_rank.2 ⟨by omega, by omega⟩ hl.1 (Nat.le_of_ble_eq_true rfl) dL_law_964 ⟨by omega, by omega⟩ (fun H locs hR hS hz1 => ?_)
  refine lv_istore (lv' := (5, .int k) :: la_lv E b g) hx hb dL_law_967 hl (by decide) rfl (fun ls hl => ?_)
  refine lv_aload_n hx hb dL_law_969 rfl (lv_at hl 3 rfl) ?_
  refine lv_aload_n hx hb dL_law_970 rfl (lv_at hl 1 rfl) ?_
  refine lv_iload hx hb dL_law_971 (lv_at hl 5 rfl) ?_
  refine lv_iconst (v := 1) hx hb dL_law_973 (by decide) ?_
  refine lv_iadd hx hb dL_law_974 ?_
  refine la_sld A hS 1 rfl (by omega) dL_law_975 ?_
  refine bd_cV1 [.int (xs (g + 1))] [] C hM2 hR hS (bd_recv C.2 hR ⟨by decide, (by decide), (by decide)⟩ rfl rfl) qm_L_123 qi_X7_rank qs_X7_rank qz_X7 qc_X7_rank qp_X7_rank ⟨by omega, by omega⟩ hl.1 (Nat.le_of_ble_eq_true rfl) dL_law_976 ⟨by omega, by omega⟩ (fun H locs hR hS hz2 => ?_)
  refine lv_istore (lv' := (6, .int r) :: (5, .int k) :: la_lv E b g) hx hb dL_law_979 hl (by decide) rfl (fun ls hl => ?_)
  refine lv_aload_n hx hb dL_law_981 rfl (lv_at hl 4 rfl) ?_
  refine bd_cV1 [] [] C (k_X7_thrown l E xm' ym' om') hR hS (bd_recv C.2 hR ⟨by decide, (by decide), (by decide)⟩ rfl rfl) qm_L_81 qi_X7_thrown qs_X7_thrown qz_X7 qc_X7_thrown qp_X7_thrown ⟨by omega, by omega⟩ hl.1 (Nat.le_of_ble_eq_true rfl) dL_law_982 ⟨by omega, by omega⟩ (fun H locs hR hS hz3 => ?_)
  refine lv_iload hx hb dL_law_985 (lv_at hl 1 rfl) ?_
  refine lv_icmp_eq (tgt := 992) hx hb dL_law_987 (by decide) (fun _ => ?_) (fun c9 => absurd hth c9)
  have hl9 : lv_has ls 9 (la_lv E b g) := lv_sub hl [2, 3, 4, 5, 6] rfl
  refine lv_iload hx hb dL_law_992 (lv_at hl 1 rfl) ?_
  refine lv_if_ne (tgt := 1009) hx hb dL_law_994 (by decide) (fun _ => ?_) (fun k0 => ?_)
  · refine lv_goto (tgt := 1315) hx hb dL_law_1009 (by decide) ?_
    refine W.widen (k := cells + 400) (n := slots + 1600) (by omega) (by omega) ?_
    exact kk xm' ym' om' H locs ls hJ hR hS hl9
  · refine lv_aload_n hx hb dL_law_997 rfl (lv_at hl 5 rfl) ?_
    refine lv_iconst (v := 0) hx hb dL_law_998 (by decide) ?_
    refine bd_ldO C hR dL_law_999 ?_
    refine lv_iload hx hb dL_law_1000 (lv_at hl 0 rfl) ?_
    refine lv_i2l (v := r.toInt64) hx hb dL_law_1002 rfl ?_
    refine W.lcmp hx hb dL_law_1003 ?_
    refine lv_if_eq (tgt := 1009) hx hb dL_law_1004 (by decide) (fun _ => ?_) (fun c9 => absurd ((lg_cmp_eq _ _).mpr (hag k0)) c9)
    refine lv_goto (tgt := 1315) hx hb dL_law_1009 (by decide) ?_
    refine W.widen (k := cells + 400) (n := slots + 1600) (by omega) (by omega) ?_
    exact kk xm' ym' om' H locs ls hJ hR hS hl9

set_option maxHeartbeats 4000000 in
set_option maxRecDepth 100000 in
theorem la_count (A : la_At E p s m c b L xs) (hR0 : 12 ≤ R.frames ∧ 440 ≤ R.locals) (hg : g + 4 < L) (hO : la_Ok l E yL_count cL_count 4 [(0, 9, 12, 25)] yX7_count cX7_count 2 [.int (xs (g + 1))] xm ym om J) (hR : bd_Rep E xm ym om H) (hS : va_S (bd_A E) s.heap H locs) (hl : lv_has ls 9 (la_lv E b g)) (hf : cells + 400 ≤ R.cells ∧ slots + 1600 ≤ R.slots)
    (kk : ∀ (xm' ym' : bd_M) (om' : Nat → Int64) (H1 : Heap) (locs1 : List Loc) (ls1 : Array Slot), J xm' ym' → bd_Rep E xm' ym' om' H1 → va_S (bd_A E) s.heap H1 locs1 → lv_has ls1 9 (la_lv E b g) → W p l e R s m #[Value.ref b] below meth c H1 locs1 (cells + 400) (slots + 1600) Q (F0 m 1315 ls1 [])) : W p l e R s m #[Value.ref b] below meth c H locs cells slots Q (F0 m 1012 ls []) := by
  obtain ⟨fr, lo, mc, ms, fr2, lo2, mc2, ms2, xm', ym', om', k, r, ⟨b1, b2, b3, b4, b5, b6⟩, hM, hM2, hth, hag, hJ⟩ := hO
  have C := A.1
  have Z := A.2.1
  have N := A.2.2.1
  have hx := C.1.1
  have hb := C.1.2.1
  refine lv_aload_n hx hb dL_law_1012 rfl (lv_at hl 1 rfl) ?_
  refine lv_aload_n hx hb dL_law_1013 rfl (lv_at hl 0 rfl) ?_
  refine lv_iload hx hb dL_law_1014 (lv_at hl 4 rfl) ?_
  refine lv_iconst (v := 1) hx hb dL_law_1016 (by decide) ?_
  refine lv_iadd hx hb dL_law_1017 ?_
  refine la_sld A hS 1 rfl (by omega) dL_law_1018 ?_
  refine lv_aload_n hx hb dL_law_1019 rfl (lv_at hl 3 rfl) ?_
  refine bd_cL [Value.ref (bd_ea E 0 0 0), Value.int (xs (g + 1)), Value.ref (bd_ea E 30 0 0)] [] C Z N hM hR hS qm_L_124 qt_L_count qz_L qc_L_count qp_L_count.2 ⟨by omega, by omega⟩ hl.1 (Nat.le_of_ble_eq_true rfl) dL_law_1020 ⟨by omega, by omega⟩ (fun H locs hR hS hz1 => ?_)
  refine lv_istore (lv' := (5, .int k) :: la_lv E b g) hx hb dL_law_1023 hl (by decide) rfl (fun ls hl => ?_)
  refine lv_aload_n hx hb dL_law_1025 rfl (lv_at hl 3 rfl) ?_
  refine lv_aload_n hx hb dL_law_1026 rfl (lv_at hl 1 rfl) ?_
  refine lv_iload hx hb dL_law_1027 (lv_at hl 5 rfl) ?_
  refine lv_iconst (v := 1) hx hb dL_law_1029 (by decide) ?_
  refine lv_iadd hx hb dL_law_1030 ?_
  refine la_sld A hS 1 rfl (by omega) dL_law_1031 ?_
  refine bd_cV1 [.int (xs (g + 1))] [] C hM2 hR hS (bd_recv C.2 hR ⟨by decide, (by decide), (by decide)⟩ rfl rfl) qm_L_126 qi_X7_count qs_X7_count qz_X7 qc_X7_count qp_X7_count ⟨by omega, by omega⟩ hl.1 (Nat.le_of_ble_eq_true rfl) dL_law_1032 ⟨by omega, by omega⟩ (fun H locs hR hS hz2 => ?_)
  refine lv_istore (lv' := (6, .int r) :: (5, .int k) :: la_lv E b g) hx hb dL_law_1035 hl (by decide) rfl (fun ls hl => ?_)
  refine lv_aload_n hx hb dL_law_1037 rfl (lv_at hl 4 rfl) ?_
  refine bd_cV1 [] [] C (k_X7_thrown l E xm' ym' om') hR hS (bd_recv C.2 hR ⟨by decide, (by decide), (by decide)⟩ rfl rfl) qm_L_81 qi_X7_thrown qs_X7_thrown qz_X7 qc_X7_thrown qp_X7_thrown ⟨by omega, by omega⟩ hl.1 (Nat.le_of_ble_eq_true rfl) dL_law_1038 ⟨by omega, by omega⟩ (fun H locs hR hS hz3 => ?_)
  refine lv_iload hx hb dL_law_1041 (lv_at hl 1 rfl) ?_
  refine lv_icmp_eq (tgt := 1048) hx hb dL_law_1043 (by decide) (fun _ => ?_) (fun c9 => absurd hth c9)
  have hl9 : lv_has ls 9 (la_lv E b g) := lv_sub hl [2, 3, 4, 5, 6] rfl
  refine lv_iload hx hb dL_law_1048 (lv_at hl 1 rfl) ?_
  refine lv_if_ne (tgt := 1065) hx hb dL_law_1050 (by decide) (fun _ => ?_) (fun k0 => ?_)
  · refine lv_goto (tgt := 1315) hx hb dL_law_1065 (by decide) ?_
    refine W.widen (k := cells + 400) (n := slots + 1600) (by omega) (by omega) ?_
    exact kk xm' ym' om' H locs ls hJ hR hS hl9
  · refine lv_aload_n hx hb dL_law_1053 rfl (lv_at hl 5 rfl) ?_
    refine lv_iconst (v := 0) hx hb dL_law_1054 (by decide) ?_
    refine bd_ldO C hR dL_law_1055 ?_
    refine lv_iload hx hb dL_law_1056 (lv_at hl 0 rfl) ?_
    refine lv_i2l (v := r.toInt64) hx hb dL_law_1058 rfl ?_
    refine W.lcmp hx hb dL_law_1059 ?_
    refine lv_if_eq (tgt := 1065) hx hb dL_law_1060 (by decide) (fun _ => ?_) (fun c9 => absurd ((lg_cmp_eq _ _).mpr (hag k0)) c9)
    refine lv_goto (tgt := 1315) hx hb dL_law_1065 (by decide) ?_
    refine W.widen (k := cells + 400) (n := slots + 1600) (by omega) (by omega) ?_
    exact kk xm' ym' om' H locs ls hJ hR hS hl9

set_option maxHeartbeats 4000000 in
set_option maxRecDepth 100000 in
theorem la_foresee (A : la_At E p s m c b L xs) (hR0 : 12 ≤ R.frames ∧ 440 ≤ R.locals) (hg : g + 4 < L) (hO : la_Ok l E yL_foresee cL_foresee 6 [(0, 12, 15, 25), (0, 12, 19, 13)] yX7_foresee cX7_foresee 5 [.int (xs (g + 1)), .int (xs (g + 2)), .int (xs (g + 3))] xm ym om J) (hR : bd_Rep E xm ym om H) (hS : va_S (bd_A E) s.heap H locs) (hl : lv_has ls 9 (la_lv E b g)) (hf : cells + 400 ≤ R.cells ∧ slots + 1600 ≤ R.slots)
    (kk : ∀ (xm' ym' : bd_M) (om' : Nat → Int64) (H1 : Heap) (locs1 : List Loc) (ls1 : Array Slot), J xm' ym' → bd_Rep E xm' ym' om' H1 → va_S (bd_A E) s.heap H1 locs1 → lv_has ls1 9 (la_lv E b g) → W p l e R s m #[Value.ref b] below meth c H1 locs1 (cells + 400) (slots + 1600) Q (F0 m 1315 ls1 [])) : W p l e R s m #[Value.ref b] below meth c H locs cells slots Q (F0 m 1068 ls []) := by
  obtain ⟨fr, lo, mc, ms, fr2, lo2, mc2, ms2, xm', ym', om', k, r, ⟨b1, b2, b3, b4, b5, b6⟩, hM, hM2, hth, hag, hJ⟩ := hO
  have C := A.1
  have Z := A.2.1
  have N := A.2.2.1
  have hx := C.1.1
  have hb := C.1.2.1
  refine lv_aload_n hx hb dL_law_1068 rfl (lv_at hl 1 rfl) ?_
  refine lv_aload_n hx hb dL_law_1069 rfl (lv_at hl 0 rfl) ?_
  refine lv_iload hx hb dL_law_1070 (lv_at hl 4 rfl) ?_
  refine lv_iconst (v := 1) hx hb dL_law_1072 (by decide) ?_
  refine lv_iadd hx hb dL_law_1073 ?_
  refine la_sld A hS 1 rfl (by omega) dL_law_1074 ?_
  refine lv_aload_n hx hb dL_law_1075 rfl (lv_at hl 0 rfl) ?_
  refine lv_iload hx hb dL_law_1076 (lv_at hl 4 rfl) ?_
  refine lv_iconst (v := 2) hx hb dL_law_1078 (by decide) ?_
  refine lv_iadd hx hb dL_law_1079 ?_
  refine la_sld A hS 2 rfl (by omega) dL_law_1080 ?_
  refine lv_aload_n hx hb dL_law_1081 rfl (lv_at hl 0 rfl) ?_
  refine lv_iload hx hb dL_law_1082 (lv_at hl 4 rfl) ?_
  refine lv_iconst (v := 3) hx hb dL_law_1084 (by decide) ?_
  refine lv_iadd hx hb dL_law_1085 ?_
  refine la_sld A hS 3 rfl (by omega) dL_law_1086 ?_
  refine lv_aload_n hx hb dL_law_1087 rfl (lv_at hl 3 rfl) ?_
  refine bd_cL [Value.ref (bd_ea E 0 0 0), Value.int (xs (g + 1)), Value.int (xs (g + 2)), Value.int (xs (g + 3)), Value.ref (bd_ea E 30 0 0)] [] C Z N hM hR hS qm_L_127 qt_L_foresee qz_L qc_L_foresee qp_L_foresee.2 ⟨by omega, by omega⟩ hl.1 (Nat.le_of_ble_eq_true rfl) dL_law_1088 ⟨by omega, by omega⟩ (fun H locs hR hS hz1 => ?_)
  refine lv_istore (lv' := (5, .int k) :: la_lv E b g) hx hb dL_law_1091 hl (by decide) rfl (fun ls hl => ?_)
  refine lv_aload_n hx hb dL_law_1093 rfl (lv_at hl 3 rfl) ?_
  refine lv_aload_n hx hb dL_law_1094 rfl (lv_at hl 1 rfl) ?_
  refine lv_iload hx hb dL_law_1095 (lv_at hl 5 rfl) ?_
  refine lv_iconst (v := 1) hx hb dL_law_1097 (by decide) ?_
  refine lv_iadd hx hb dL_law_1098 ?_
  refine la_sld A hS 1 rfl (by omega) dL_law_1099 ?_
  refine lv_aload_n hx hb dL_law_1100 rfl (lv_at hl 1 rfl) ?_
  refine lv_iload hx hb dL_law_1101 (lv_at hl 5 rfl) ?_
  refine lv_iconst (v := 2) hx hb dL_law_1103 (by decide) ?_
  refine lv_iadd hx hb dL_law_1104 ?_
  refine la_sld A hS 2 rfl (by omega) dL_law_1105 ?_
  refine lv_aload_n hx hb dL_law_1106 rfl (lv_at hl 1 rfl) ?_
  refine lv_iload hx hb dL_law_1107 (lv_at hl 5 rfl) ?_
  refine lv_iconst (v := 3) hx hb dL_law_1109 (by decide) ?_
  refine lv_iadd hx hb dL_law_1110 ?_
  refine la_sld A hS 3 rfl (by omega) dL_law_1111 ?_
  refine bd_cV1 [.int (xs (g + 1)), .int (xs (g + 2)), .int (xs (g + 3))] [] C hM2 hR hS (bd_recv C.2 hR ⟨by decide, (by decide), (by decide)⟩ rfl rfl) qm_L_129 qi_X7_foresee qs_X7_foresee qz_X7 qc_X7_foresee qp_X7_foresee ⟨by omega, by omega⟩ hl.1 (Nat.le_of_ble_eq_true rfl) dL_law_1112 ⟨by omega, by omega⟩ (fun H locs hR hS hz2 => ?_)
  refine lv_istore (lv' := (6, .int r) :: (5, .int k) :: la_lv E b g) hx hb dL_law_1115 hl (by decide) rfl (fun ls hl => ?_)
  refine lv_aload_n hx hb dL_law_1117 rfl (lv_at hl 4 rfl) ?_
  refine bd_cV1 [] [] C (k_X7_thrown l E xm' ym' om') hR hS (bd_recv C.2 hR ⟨by decide, (by decide), (by decide)⟩ rfl rfl) qm_L_81 qi_X7_thrown qs_X7_thrown qz_X7 qc_X7_thrown qp_X7_thrown ⟨by omega, by omega⟩ hl.1 (Nat.le_of_ble_eq_true rfl) dL_law_1118 ⟨by omega, by omega⟩ (fun H locs hR hS hz3 => ?_)
  refine lv_iload hx hb dL_law_1121 (lv_at hl 1 rfl) ?_
  refine lv_icmp_eq (tgt := 1128) hx hb dL_law_1123 (by decide) (fun _ => ?_) (fun c9 => absurd hth c9)
  have hl9 : lv_has ls 9 (la_lv E b g) := lv_sub hl [2, 3, 4, 5, 6] rfl
  refine lv_iload hx hb dL_law_1128 (lv_at hl 1 rfl) ?_
  refine lv_if_ne (tgt := 1145) hx hb dL_law_1130 (by decide) (fun _ => ?_) (fun k0 => ?_)
  · refine lv_goto (tgt := 1315) hx hb dL_law_1145 (by decide) ?_
    refine W.widen (k := cells + 400) (n := slots + 1600) (by omega) (by omega) ?_
    exact kk xm' ym' om' H locs ls hJ hR hS hl9
  · refine lv_aload_n hx hb dL_law_1133 rfl (lv_at hl 5 rfl) ?_
    refine lv_iconst (v := 0) hx hb dL_law_1134 (by decide) ?_
    refine bd_ldO C hR dL_law_1135 ?_
    refine lv_iload hx hb dL_law_1136 (lv_at hl 0 rfl) ?_
    refine lv_i2l (v := r.toInt64) hx hb dL_law_1138 rfl ?_
    refine W.lcmp hx hb dL_law_1139 ?_
    refine lv_if_eq (tgt := 1145) hx hb dL_law_1140 (by decide) (fun _ => ?_) (fun c9 => absurd ((lg_cmp_eq _ _).mpr (hag k0)) c9)
    refine lv_goto (tgt := 1315) hx hb dL_law_1145 (by decide) ?_
    refine W.widen (k := cells + 400) (n := slots + 1600) (by omega) (by omega) ?_
    exact kk xm' ym' om' H locs ls hJ hR hS hl9

set_option maxHeartbeats 4000000 in
set_option maxRecDepth 100000 in
theorem la_advise (A : la_At E p s m c b L xs) (hR0 : 12 ≤ R.frames ∧ 440 ≤ R.locals) (hg : g + 4 < L) (hO : la_Ok l E yL_advise cL_advise 4 [(0, 9, 12, 25)] yX7_advise cX7_advise 6 [.int (xs (g + 1))] xm ym om J) (hR : bd_Rep E xm ym om H) (hS : va_S (bd_A E) s.heap H locs) (hl : lv_has ls 9 (la_lv E b g)) (hf : cells + 400 ≤ R.cells ∧ slots + 1600 ≤ R.slots)
    (kk : ∀ (xm' ym' : bd_M) (om' : Nat → Int64) (H1 : Heap) (locs1 : List Loc) (ls1 : Array Slot), J xm' ym' → bd_Rep E xm' ym' om' H1 → va_S (bd_A E) s.heap H1 locs1 → lv_has ls1 9 (la_lv E b g) → W p l e R s m #[Value.ref b] below meth c H1 locs1 (cells + 400) (slots + 1600) Q (F0 m 1315 ls1 [])) : W p l e R s m #[Value.ref b] below meth c H locs cells slots Q (F0 m 1148 ls []) := by
  obtain ⟨fr, lo, mc, ms, fr2, lo2, mc2, ms2, xm', ym', om', k, r, ⟨b1, b2, b3, b4, b5, b6⟩, hM, hM2, hth, hag, hJ⟩ := hO
  have C := A.1
  have Z := A.2.1
  have N := A.2.2.1
  have hx := C.1.1
  have hb := C.1.2.1
  refine lv_aload_n hx hb dL_law_1148 rfl (lv_at hl 1 rfl) ?_
  refine lv_aload_n hx hb dL_law_1149 rfl (lv_at hl 0 rfl) ?_
  refine lv_iload hx hb dL_law_1150 (lv_at hl 4 rfl) ?_
  refine lv_iconst (v := 1) hx hb dL_law_1152 (by decide) ?_
  refine lv_iadd hx hb dL_law_1153 ?_
  refine la_sld A hS 1 rfl (by omega) dL_law_1154 ?_
  refine lv_aload_n hx hb dL_law_1155 rfl (lv_at hl 3 rfl) ?_
  refine bd_cL [Value.ref (bd_ea E 0 0 0), Value.int (xs (g + 1)), Value.ref (bd_ea E 30 0 0)] [] C Z N hM hR hS qm_L_130 qt_L_advise qz_L qc_L_advise qp_L_advise.2 ⟨by omega, by omega⟩ hl.1 (Nat.le_of_ble_eq_true rfl) dL_law_1156 ⟨by omega, by omega⟩ (fun H locs hR hS hz1 => ?_)
  refine lv_istore (lv' := (5, .int k) :: la_lv E b g) hx hb dL_law_1159 hl (by decide) rfl (fun ls hl => ?_)
  refine lv_aload_n hx hb dL_law_1161 rfl (lv_at hl 3 rfl) ?_
  refine lv_aload_n hx hb dL_law_1162 rfl (lv_at hl 1 rfl) ?_
  refine lv_iload hx hb dL_law_1163 (lv_at hl 5 rfl) ?_
  refine lv_iconst (v := 1) hx hb dL_law_1165 (by decide) ?_
  refine lv_iadd hx hb dL_law_1166 ?_
  refine la_sld A hS 1 rfl (by omega) dL_law_1167 ?_
  refine bd_cV1 [.int (xs (g + 1))] [] C hM2 hR hS (bd_recv C.2 hR ⟨by decide, (by decide), (by decide)⟩ rfl rfl) qm_L_132 qi_X7_advise qs_X7_advise qz_X7 qc_X7_advise qp_X7_advise ⟨by omega, by omega⟩ hl.1 (Nat.le_of_ble_eq_true rfl) dL_law_1168 ⟨by omega, by omega⟩ (fun H locs hR hS hz2 => ?_)
  refine lv_istore (lv' := (6, .int r) :: (5, .int k) :: la_lv E b g) hx hb dL_law_1171 hl (by decide) rfl (fun ls hl => ?_)
  refine lv_aload_n hx hb dL_law_1173 rfl (lv_at hl 4 rfl) ?_
  refine bd_cV1 [] [] C (k_X7_thrown l E xm' ym' om') hR hS (bd_recv C.2 hR ⟨by decide, (by decide), (by decide)⟩ rfl rfl) qm_L_81 qi_X7_thrown qs_X7_thrown qz_X7 qc_X7_thrown qp_X7_thrown ⟨by omega, by omega⟩ hl.1 (Nat.le_of_ble_eq_true rfl) dL_law_1174 ⟨by omega, by omega⟩ (fun H locs hR hS hz3 => ?_)
  refine lv_iload hx hb dL_law_1177 (lv_at hl 1 rfl) ?_
  refine lv_icmp_eq (tgt := 1184) hx hb dL_law_1179 (by decide) (fun _ => ?_) (fun c9 => absurd hth c9)
  have hl9 : lv_has ls 9 (la_lv E b g) := lv_sub hl [2, 3, 4, 5, 6] rfl
  refine lv_iload hx hb dL_law_1184 (lv_at hl 1 rfl) ?_
  refine lv_if_ne (tgt := 1201) hx hb dL_law_1186 (by decide) (fun _ => ?_) (fun k0 => ?_)
  · refine lv_goto (tgt := 1315) hx hb dL_law_1201 (by decide) ?_
    refine W.widen (k := cells + 400) (n := slots + 1600) (by omega) (by omega) ?_
    exact kk xm' ym' om' H locs ls hJ hR hS hl9
  · refine lv_aload_n hx hb dL_law_1189 rfl (lv_at hl 5 rfl) ?_
    refine lv_iconst (v := 0) hx hb dL_law_1190 (by decide) ?_
    refine bd_ldO C hR dL_law_1191 ?_
    refine lv_iload hx hb dL_law_1192 (lv_at hl 0 rfl) ?_
    refine lv_i2l (v := r.toInt64) hx hb dL_law_1194 rfl ?_
    refine W.lcmp hx hb dL_law_1195 ?_
    refine lv_if_eq (tgt := 1201) hx hb dL_law_1196 (by decide) (fun _ => ?_) (fun c9 => absurd ((lg_cmp_eq _ _).mpr (hag k0)) c9)
    refine lv_goto (tgt := 1315) hx hb dL_law_1201 (by decide) ?_
    refine W.widen (k := cells + 400) (n := slots + 1600) (by omega) (by omega) ?_
    exact kk xm' ym' om' H locs ls hJ hR hS hl9

set_option maxHeartbeats 4000000 in
set_option maxRecDepth 100000 in
theorem la_free (A : la_At E p s m c b L xs) (hR0 : 12 ≤ R.frames ∧ 440 ≤ R.locals) (hg : g + 4 < L) (hO : la_Ok l E yL_free cL_free 4 [(0, 9, 12, 25)] yX7_free cX7_free 4 [.int (xs (g + 1))] xm ym om J) (hR : bd_Rep E xm ym om H) (hS : va_S (bd_A E) s.heap H locs) (hl : lv_has ls 9 (la_lv E b g)) (hf : cells + 400 ≤ R.cells ∧ slots + 1600 ≤ R.slots)
    (kk : ∀ (xm' ym' : bd_M) (om' : Nat → Int64) (H1 : Heap) (locs1 : List Loc) (ls1 : Array Slot), J xm' ym' → bd_Rep E xm' ym' om' H1 → va_S (bd_A E) s.heap H1 locs1 → lv_has ls1 9 (la_lv E b g) → W p l e R s m #[Value.ref b] below meth c H1 locs1 (cells + 400) (slots + 1600) Q (F0 m 1315 ls1 [])) : W p l e R s m #[Value.ref b] below meth c H locs cells slots Q (F0 m 1204 ls []) := by
  obtain ⟨fr, lo, mc, ms, fr2, lo2, mc2, ms2, xm', ym', om', k, r, ⟨b1, b2, b3, b4, b5, b6⟩, hM, hM2, hth, hag, hJ⟩ := hO
  have C := A.1
  have Z := A.2.1
  have N := A.2.2.1
  have hx := C.1.1
  have hb := C.1.2.1
  refine lv_aload_n hx hb dL_law_1204 rfl (lv_at hl 1 rfl) ?_
  refine lv_aload_n hx hb dL_law_1205 rfl (lv_at hl 0 rfl) ?_
  refine lv_iload hx hb dL_law_1206 (lv_at hl 4 rfl) ?_
  refine lv_iconst (v := 1) hx hb dL_law_1208 (by decide) ?_
  refine lv_iadd hx hb dL_law_1209 ?_
  refine la_sld A hS 1 rfl (by omega) dL_law_1210 ?_
  refine lv_aload_n hx hb dL_law_1211 rfl (lv_at hl 3 rfl) ?_
  refine bd_cL [Value.ref (bd_ea E 0 0 0), Value.int (xs (g + 1)), Value.ref (bd_ea E 30 0 0)] [] C Z N hM hR hS qm_L_133 qt_L_free qz_L qc_L_free qp_L_free.2 ⟨by omega, by omega⟩ hl.1 (Nat.le_of_ble_eq_true rfl) dL_law_1212 ⟨by omega, by omega⟩ (fun H locs hR hS hz1 => ?_)
  refine lv_istore (lv' := (5, .int k) :: la_lv E b g) hx hb dL_law_1215 hl (by decide) rfl (fun ls hl => ?_)
  refine lv_aload_n hx hb dL_law_1217 rfl (lv_at hl 3 rfl) ?_
  refine lv_aload_n hx hb dL_law_1218 rfl (lv_at hl 1 rfl) ?_
  refine lv_iload hx hb dL_law_1219 (lv_at hl 5 rfl) ?_
  refine lv_iconst (v := 1) hx hb dL_law_1221 (by decide) ?_
  refine lv_iadd hx hb dL_law_1222 ?_
  refine la_sld A hS 1 rfl (by omega) dL_law_1223 ?_
  refine bd_cV1 [.int (xs (g + 1))] [] C hM2 hR hS (bd_recv C.2 hR ⟨by decide, (by decide), (by decide)⟩ rfl rfl) qm_L_135 qi_X7_free qs_X7_free qz_X7 qc_X7_free qp_X7_free ⟨by omega, by omega⟩ hl.1 (Nat.le_of_ble_eq_true rfl) dL_law_1224 ⟨by omega, by omega⟩ (fun H locs hR hS hz2 => ?_)
  refine lv_istore (lv' := (6, .int r) :: (5, .int k) :: la_lv E b g) hx hb dL_law_1227 hl (by decide) rfl (fun ls hl => ?_)
  refine lv_aload_n hx hb dL_law_1229 rfl (lv_at hl 4 rfl) ?_
  refine bd_cV1 [] [] C (k_X7_thrown l E xm' ym' om') hR hS (bd_recv C.2 hR ⟨by decide, (by decide), (by decide)⟩ rfl rfl) qm_L_81 qi_X7_thrown qs_X7_thrown qz_X7 qc_X7_thrown qp_X7_thrown ⟨by omega, by omega⟩ hl.1 (Nat.le_of_ble_eq_true rfl) dL_law_1230 ⟨by omega, by omega⟩ (fun H locs hR hS hz3 => ?_)
  refine lv_iload hx hb dL_law_1233 (lv_at hl 1 rfl) ?_
  refine lv_icmp_eq (tgt := 1240) hx hb dL_law_1235 (by decide) (fun _ => ?_) (fun c9 => absurd hth c9)
  have hl9 : lv_has ls 9 (la_lv E b g) := lv_sub hl [2, 3, 4, 5, 6] rfl
  refine lv_iload hx hb dL_law_1240 (lv_at hl 1 rfl) ?_
  refine lv_if_ne (tgt := 1257) hx hb dL_law_1242 (by decide) (fun _ => ?_) (fun k0 => ?_)
  · refine lv_goto (tgt := 1315) hx hb dL_law_1257 (by decide) ?_
    refine W.widen (k := cells + 400) (n := slots + 1600) (by omega) (by omega) ?_
    exact kk xm' ym' om' H locs ls hJ hR hS hl9
  · refine lv_aload_n hx hb dL_law_1245 rfl (lv_at hl 5 rfl) ?_
    refine lv_iconst (v := 0) hx hb dL_law_1246 (by decide) ?_
    refine bd_ldO C hR dL_law_1247 ?_
    refine lv_iload hx hb dL_law_1248 (lv_at hl 0 rfl) ?_
    refine lv_i2l (v := r.toInt64) hx hb dL_law_1250 rfl ?_
    refine W.lcmp hx hb dL_law_1251 ?_
    refine lv_if_eq (tgt := 1257) hx hb dL_law_1252 (by decide) (fun _ => ?_) (fun c9 => absurd ((lg_cmp_eq _ _).mpr (hag k0)) c9)
    refine lv_goto (tgt := 1315) hx hb dL_law_1257 (by decide) ?_
    refine W.widen (k := cells + 400) (n := slots + 1600) (by omega) (by omega) ?_
    exact kk xm' ym' om' H locs ls hJ hR hS hl9

set_option maxHeartbeats 4000000 in
set_option maxRecDepth 100000 in
theorem la_mean (A : la_At E p s m c b L xs) (hR0 : 12 ≤ R.frames ∧ 440 ≤ R.locals) {xm' ym' : bd_M} {v : UInt64} {fr lo mc ms fr2 lo2 mc2 ms2 : Nat} (hb9 : fr ≤ 11 ∧ lo ≤ 400 ∧ fr2 ≤ 11 ∧ lo2 ≤ 400 ∧ mc + mc2 ≤ 400 ∧ ms + ms2 ≤ 1600) (hM : bd_Ct l yX5_mean cX5_mean 1 (some .double) fr lo mc ms E [.ref (bd_ea E 0 0 0)] xm ym om xm' ym om (some (.double v))) (hM2 : bd_Ct l yX7_mean cX7_mean 4 (some .double) fr2 lo2 mc2 ms2 E [.ref (bd_ea E 12 0 0)] xm' ym om xm' ym' om (some (.double v))) (hR : bd_Rep E xm ym om H) (hS : va_S (bd_A E) s.heap H locs) (hl : lv_has ls 9 (la_lv E b g)) (hf : cells + 400 ≤ R.cells ∧ slots + 1600 ≤ R.slots)
    (kk : ∀ (H1 : Heap) (locs1 : List Loc) (ls1 : Array Slot), bd_Rep E xm' ym' om H1 → va_S (bd_A E) s.heap H1 locs1 → lv_has ls1 9 (la_lv E b g) → W p l e R s m #[Value.ref b] below meth c H1 locs1 (cells + 400) (slots + 1600) Q (F0 m 1315 ls1 [])) : W p l e R s m #[Value.ref b] below meth c H locs cells slots Q (F0 m 1260 ls []) := by
  obtain ⟨b1, b2, b3, b4, b5, b6⟩ := hb9
  have C := A.1
  have hx := C.1.1
  have hb := C.1.2.1
  refine lv_aload_n hx hb dL_law_1260 rfl (lv_at hl 1 rfl) ?_
  refine bd_cV1 [] [] C hM hR hS (bd_recv C.2 hR ⟨by decide, (by decide), (by decide)⟩ rfl rfl) qm_L_136 qi_X5_mean qs_X5_mean qz_X5 qc_X5_mean qp_X5_mean ⟨by omega, by omega⟩ hl.1 (Nat.le_of_ble_eq_true rfl) dL_law_1261 ⟨by omega, by omega⟩ (fun H locs hR hS hz1 => ?_)
  refine lv_dstore (lv' := (5, .double v) :: la_lv E b g) hx hb dL_law_1264 hl (by decide) rfl (fun ls hl => ?_)
  refine lv_aload_n hx hb dL_law_1266 rfl (lv_at hl 3 rfl) ?_
  refine bd_cV1 [] [] C hM2 hR hS (bd_recv C.2 hR ⟨by decide, (by decide), (by decide)⟩ rfl rfl) qm_L_140 qi_X7_mean qs_X7_mean qz_X7 qc_X7_mean qp_X7_mean ⟨by omega, by omega⟩ hl.1 (Nat.le_of_ble_eq_true rfl) dL_law_1267 ⟨by omega, by omega⟩ (fun H locs hR hS hz2 => ?_)
  refine lv_dstore (lv' := (7, .double v) :: (5, .double v) :: la_lv E b g) hx hb dL_law_1270 hl (by decide) rfl (fun ls hl => ?_)
  have hl9 : lv_has ls 9 (la_lv E b g) := lv_sub hl [2, 3, 4, 5, 6] rfl
  have fin : W p l e R s m #[Value.ref b] below meth c H locs (cells + mc + mc2) (slots + ms + ms2) Q (F0 m 1298 ls []) := by
    refine lv_goto (tgt := 1315) hx hb dL_law_1298 (by decide) ?_
    refine W.widen (k := cells + 400) (n := slots + 1600) (by omega) (by omega) ?_
    exact kk H locs ls hR hS hl9
  refine lv_dload hx hb dL_law_1272 (lv_at hl 1 rfl) ?_
  refine lv_dload hx hb dL_law_1274 (lv_at hl 0 rfl) ?_
  refine lv_dcmp hx hb dL_law_1276 ?_
  refine lv_if_eq (tgt := 1298) hx hb dL_law_1277 (by decide) (fun _ => fin) (fun c9 => ?_)
  refine lv_dload hx hb dL_law_1280 (lv_at hl 1 rfl) ?_
  refine lv_dload hx hb dL_law_1282 (lv_at hl 1 rfl) ?_
  refine lv_dcmp hx hb dL_law_1284 ?_
  refine lv_if_eq (tgt := 1296) hx hb dL_law_1285 (by decide) (fun c8 => absurd c8 c9) (fun _ => ?_)
  refine lv_dload hx hb dL_law_1288 (lv_at hl 0 rfl) ?_
  refine lv_dload hx hb dL_law_1290 (lv_at hl 0 rfl) ?_
  refine lv_dcmp hx hb dL_law_1292 ?_
  exact lv_if_ne (tgt := 1298) hx hb dL_law_1293 (by decide) (fun _ => fin) (fun c8 => absurd c8 c9)
set_option maxHeartbeats 4000000 in
set_option maxRecDepth 100000 in
theorem la_digest (A : la_At E p s m c b L xs) (hR0 : 12 ≤ R.frames ∧ 440 ≤ R.locals) {xm' ym' : bd_M} {v : Int64} {fr lo mc ms fr2 lo2 mc2 ms2 : Nat} (hb9 : fr ≤ 11 ∧ lo ≤ 400 ∧ fr2 ≤ 11 ∧ lo2 ≤ 400 ∧ mc + mc2 ≤ 400 ∧ ms + ms2 ≤ 1600) (hM : bd_Ct l yX5_digest cX5_digest 1 (some .long) fr lo mc ms E [.ref (bd_ea E 0 0 0)] xm ym om xm' ym om (some (.long v))) (hM2 : bd_Ct l yX7_digest cX7_digest 6 (some .long) fr2 lo2 mc2 ms2 E [.ref (bd_ea E 12 0 0)] xm' ym om xm' ym' om (some (.long v))) (hR : bd_Rep E xm ym om H) (hS : va_S (bd_A E) s.heap H locs) (hl : lv_has ls 9 (la_lv E b g)) (hf : cells + 400 ≤ R.cells ∧ slots + 1600 ≤ R.slots)
    (kk : ∀ (H1 : Heap) (locs1 : List Loc) (ls1 : Array Slot), bd_Rep E xm' ym' om H1 → va_S (bd_A E) s.heap H1 locs1 → lv_has ls1 9 (la_lv E b g) → W p l e R s m #[Value.ref b] below meth c H1 locs1 (cells + 400) (slots + 1600) Q (F0 m 1315 ls1 [])) : W p l e R s m #[Value.ref b] below meth c H locs cells slots Q (F0 m 1301 ls []) := by
  obtain ⟨b1, b2, b3, b4, b5, b6⟩ := hb9
  have C := A.1
  have hx := C.1.1
  have hb := C.1.2.1
  refine lv_aload_n hx hb dL_law_1301 rfl (lv_at hl 1 rfl) ?_
  refine bd_cV1 [] [] C hM hR hS (bd_recv C.2 hR ⟨by decide, (by decide), (by decide)⟩ rfl rfl) qm_L_141 qi_X5_digest qs_X5_digest qz_X5 qc_X5_digest qp_X5_digest ⟨by omega, by omega⟩ hl.1 (Nat.le_of_ble_eq_true rfl) dL_law_1302 ⟨by omega, by omega⟩ (fun H locs hR hS hz1 => ?_)
  refine lv_aload_n hx hb dL_law_1305 rfl (lv_at hl 2 rfl) ?_
  refine bd_cV1 [] [.long v] C hM2 hR hS (bd_recv C.2 hR ⟨by decide, (by decide), (by decide)⟩ rfl rfl) qm_L_145 qi_X7_digest qs_X7_digest qz_X7 qc_X7_digest qp_X7_digest ⟨by omega, by omega⟩ hl.1 (Nat.le_of_ble_eq_true rfl) dL_law_1306 ⟨by omega, by omega⟩ (fun H locs hR hS hz2 => ?_)
  refine W.lcmp hx hb dL_law_1309 ?_
  refine lv_if_eq (tgt := 1315) hx hb dL_law_1310 (by decide) (fun _ => ?_) (fun c9 => absurd ((lg_cmp_eq _ _).mpr rfl) c9)
  refine W.widen (k := cells + 400) (n := slots + 1600) (by omega) (by omega) ?_
  exact kk H locs ls hR hS hl
end LA
