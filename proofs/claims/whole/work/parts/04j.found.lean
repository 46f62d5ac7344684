/-! A BAND IS FOUNDED IN THE REFERENCE -/
set_option maxHeartbeats 4000000 in
set_option maxRecDepth 100000 in
theorem k_X7_found_ok (l : Launch) (E : bd_E) (xm ym : bd_M) (om : Nat → Int64) (n : Nat) (nb : Nat) (z : (Nat→Nat)) (d : Int32) (q : Nat) (hy : ry_Sh ym n nb z) (h0 : ¬ d ≤ 0) (h8 : ¬ 100000000 ≤ d) (hq : q ≤ 8) (hk : kx_ok d q) (hnb : nb < 6) : bd_Ct l yX7_found cX7_found 6 (some .int) 1 22 0 0 E [.ref (bd_ea E 12 0 0), .int d] xm ym om xm (ry_fnd (ry_t0 ym) nb q d) om (some (.int (nI nb))) := by
  refine bd_open RX7 rfl (by decide) (Nat.le_of_ble_eq_true rfl) ?_
  intro p e s m args below meth c ls C hr hlk hS hR hl
  have hx := C.1.1
  have hb := C.1.2.1
  have hy24 := hy.2.1
  have hy6 := hy.2.2.2.1
  have hl : lv_has ls 6 [(0, .ref (bd_ea E 12 0 0)), (1, .int d)] := hl
  refine lv_aload_n hx hb dX7_found_0 rfl (lv_at hl 0 rfl) ?_
  refine lv_iconst (v := 0) hx hb dX7_found_1 (by decide) ?_
  refine bd_p_X7_thrown C hR hS  qf_X7_37 dX7_found_2 (fun H locs hR hS => ?_)
  refine lv_iload_n hx hb dX7_found_5 rfl (lv_at hl 1 rfl) ?_
  refine lv_if_le (tgt := 19) hx hb dX7_found_6 (by decide) (fun c6 => ?_) (fun c6 => ?_)
  · exact absurd c6 h0
  · skip
    refine lv_iload_n hx hb dX7_found_9 rfl (lv_at hl 1 rfl) ?_
    refine lv_ldc (v := 100000000) hx hb C.1.2.2.2.1 (C.1.2.2.2.2 _ qd_X7_65) dX7_found_10 ?_
    refine lv_icmp_ge (tgt := 19) hx hb dX7_found_12 (by decide) (fun c12 => ?_) (fun c12 => ?_)
    · exact absurd c12 h8
    · skip
      refine lv_iconst (v := 1) hx hb dX7_found_15 (by decide) ?_
      refine lv_goto (tgt := 20) hx hb dX7_found_16 (by decide) ?_
      refine lv_istore_n (lv' := [(2, .int 1), (0, .ref (bd_ea E 12 0 0)), (1, .int d)]) hx hb dX7_found_20 rfl hl (by decide) rfl (fun ls hl => ?_)
      refine lv_iconst (v := 0) hx hb dX7_found_21 (by decide) ?_
      refine lv_istore_n (lv' := [(3, .int 0), (2, .int 1), (0, .ref (bd_ea E 12 0 0)), (1, .int d)]) hx hb dX7_found_22 rfl hl (by decide) rfl (fun ls hl => ?_)
      refine lv_iload_n hx hb dX7_found_23 rfl (lv_at hl 3 rfl) ?_
      refine lv_istore (lv' := [(4, .int d), (3, .int 0), (2, .int 1), (0, .ref (bd_ea E 12 0 0)), (1, .int d)]) hx hb dX7_found_24 hl (by decide) rfl (fun ls hl => ?_)
      have lp1 : ∀ (t1 j : Nat), j ≤ q → q - j < t1 → ∀ (H : Heap) (locs : List Loc), bd_Rep E xm (bd_up ym 0 0 0 0) om H → va_S (bd_A E) s.heap H locs → ∀ (ls : Array Slot), lv_has ls 6 [(4, .int (kx_dv d j)), (3, .int (nI j)), (2, .int 1), (0, .ref (bd_ea E 12 0 0)), (1, .int d)] → W p l e { frames := 1, cells := 0, slots := 0, locals := 22 } s m args below meth c H locs 0 0 (MQ below (bd_Q E xm (ry_fnd (ry_t0 ym) nb q d) om (some (.int (nI nb)))) args s 0 0 (bd_A E)) (F0 m 26 ls []) := by
        intro t1
        induction t1 with
        | zero => intro j h1 h2; exact absurd h2 (Nat.not_lt_zero _)
        | succ t1 ih1 =>
          intro j hj1 hj2 H locs hR hS ls hl
          refine lv_iload hx hb dX7_found_26 (lv_at hl 0 rfl) ?_
          refine lv_if_le (tgt := 59) hx hb dX7_found_28 (by decide) (fun c28 => ?_) (fun c28 => ?_)
          · skip
            have hjq : ¬ j < q := fun h9 => (hk.1 j h9).1 c28
            obtain rfl : q = j := by omega
            refine lv_iload_n hx hb dX7_found_59 rfl (lv_at hl 2 rfl) ?_
            refine lv_if_ne (tgt := 69) hx hb dX7_found_60 (by decide) (fun c60 => ?_) (fun c60 => ?_)
            · skip
              refine lv_aload_n hx hb dX7_found_69 rfl (lv_at hl 3 rfl) ?_
              refine bd_g_X7_bands C hR  qf_X7_48 dX7_found_70 ?_
              rw [show (bd_up ym 0 0 0 0) 2 0 0 = nI nb from (show ry_Sh (bd_up ym 0 0 0 0) n nb z from (ry_Sh_up hy (by decide))).2.2.1]
              refine lv_bipush (v := 6) hx hb dX7_found_73 (by decide) ?_
              refine lv_icmp_ne (tgt := 84) hx hb dX7_found_75 (by decide) (fun c75 => ?_) (fun c75 => ?_)
              · skip
                have nc75 : ¬ nb = 6 := fun q9 => c75 ((nI_eq (a := nb) (b := 6) (by omega) (by omega)).mpr q9)
                refine lv_aload_n hx hb dX7_found_84 rfl (lv_at hl 3 rfl) ?_
                refine bd_g_X7_seats C hR  qf_X7_13 dX7_found_85 ?_
                refine lv_aload_n hx hb dX7_found_88 rfl (lv_at hl 3 rfl) ?_
                refine bd_g_X7_bands C hR  qf_X7_48 dX7_found_89 ?_
                rw [show (bd_up ym 0 0 0 0) 2 0 0 = nI nb from (show ry_Sh (bd_up ym 0 0 0 0) n nb z from (ry_Sh_up hy (by decide))).2.2.1]
                refine lv_iload_n hx hb dX7_found_92 rfl (lv_at hl 1 rfl) ?_
                refine bd_st_14 C hR hS  (j := nb) (by omega) dX7_found_93 (fun H locs hR hS => ?_)
                refine lv_bipush (v := 8) hx hb dX7_found_94 (by decide) ?_
                refine lv_aload_n hx hb dX7_found_96 rfl (lv_at hl 3 rfl) ?_
                refine bd_g_X7_bands C hR  qf_X7_48 dX7_found_97 ?_
                rw [show (bd_up (bd_up ym 0 0 0 0) 14 0 nb (nI q)) 2 0 0 = nI nb from by rw [bd_up_f (by decide), bd_up_f (by decide)]; exact hy.2.2.1]
                refine lv_imul hx hb dX7_found_100 ?_
                refine bd_ti (j := 8 * nb) (pk_mul 8 nb) ?_
                refine lv_iload_n hx hb dX7_found_101 rfl (lv_at hl 1 rfl) ?_
                refine lv_iadd hx hb dX7_found_102 ?_
                refine bd_ti (j := (8 * nb) + q) (nI_add (8 * nb) q) ?_
                refine lv_istore (lv' := [(4, .int (nI ((8 * nb) + q))), (3, .int (nI q)), (2, .int 1), (0, .ref (bd_ea E 12 0 0)), (1, .int d)]) hx hb dX7_found_103 hl (by decide) rfl (fun ls hl => ?_)
                refine lv_iload_n hx hb dX7_found_105 rfl (lv_at hl 4 rfl) ?_
                refine lv_istore (lv' := [(5, .int d), (4, .int (nI ((8 * nb) + q))), (3, .int (nI q)), (2, .int 1), (0, .ref (bd_ea E 12 0 0)), (1, .int d)]) hx hb dX7_found_106 hl (by decide) rfl (fun ls hl => ?_)
                have lp2 : ∀ (t2 j : Nat), j ≤ q → q - j < t2 → ∀ (H : Heap) (locs : List Loc), bd_Rep E xm (ry_fo (bd_up (ry_t0 ym) 14 0 nb (nI q)) nb q d j) om H → va_S (bd_A E) s.heap H locs → ∀ (ls : Array Slot), lv_has ls 6 [(5, .int (kx_dv d j)), (4, .int (nI (8 * nb + q - j))), (3, .int (nI q)), (2, .int 1), (0, .ref (bd_ea E 12 0 0)), (1, .int d)] → W p l e { frames := 1, cells := 0, slots := 0, locals := 22 } s m args below meth c H locs 0 0 (MQ below (bd_Q E xm (ry_fnd (ry_t0 ym) nb q d) om (some (.int (nI nb)))) args s 0 0 (bd_A E)) (F0 m 108 ls []) := by
                  intro t2
                  induction t2 with
                  | zero => intro j h1 h2; exact absurd h2 (Nat.not_lt_zero _)
                  | succ t2 ih2 =>
                    intro j hj1 hj2 H locs hR hS ls hl
                    refine lv_iload hx hb dX7_found_108 (lv_at hl 0 rfl) ?_
                    refine lv_if_le (tgt := 162) hx hb dX7_found_110 (by decide) (fun c110 => ?_) (fun c110 => ?_)
                    · skip
                      have hjq : ¬ j < q := fun h9 => (hk.1 j h9).1 c110
                      obtain rfl : q = j := by omega
                      refine lv_iconst (v := 0) hx hb dX7_found_162 (by decide) ?_
                      refine lv_istore (lv' := [(5, .int 0), (4, .int (nI (8 * nb + q - q))), (3, .int (nI q)), (2, .int 1), (0, .ref (bd_ea E 12 0 0)), (1, .int d)]) hx hb dX7_found_163 hl (by decide) rfl (fun ls hl => ?_)
                      have lp3 : ∀ (t3 j : Nat), j ≤ 4 → 4 - j < t3 → ∀ (H : Heap) (locs : List Loc), bd_Rep E xm (ry_fl (ry_fo (bd_up (ry_t0 ym) 14 0 nb (nI q)) nb q d q) nb j) om H → va_S (bd_A E) s.heap H locs → ∀ (ls : Array Slot), lv_has ls 6 [(5, .int (nI j)), (4, .int (nI (8 * nb + q - q))), (3, .int (nI q)), (2, .int 1), (0, .ref (bd_ea E 12 0 0)), (1, .int d)] → W p l e { frames := 1, cells := 0, slots := 0, locals := 22 } s m args below meth c H locs 0 0 (MQ below (bd_Q E xm (ry_fnd (ry_t0 ym) nb q d) om (some (.int (nI nb)))) args s 0 0 (bd_A E)) (F0 m 165 ls []) := by
                        intro t3
                        induction t3 with
                        | zero => intro j h1 h2; exact absurd h2 (Nat.not_lt_zero _)
                        | succ t3 ih3 =>
                          intro j hj1 hj2 H locs hR hS ls hl
                          refine lv_iload hx hb dX7_found_165 (lv_at hl 0 rfl) ?_
                          refine lv_iconst (v := 4) hx hb dX7_found_167 (by decide) ?_
                          refine lv_icmp_ge (tgt := 195) hx hb dX7_found_168 (by decide) (fun c168 => ?_) (fun c168 => ?_)
                          · skip
                            have nc168 : 4 ≤ j := (nI_leI (a := 4) (b := j) (by omega) (by omega)).mp c168
                            obtain rfl : 4 = j := by omega
                            refine lv_aload_n hx hb dX7_found_195 rfl (lv_at hl 4 rfl) ?_
                            refine lv_dup hx hb dX7_found_196 rfl ?_
                            refine bd_g_X7_bands C hR  qf_X7_48 dX7_found_197 ?_
                            rw [show (ry_fl (ry_fo (bd_up (ry_t0 ym) 14 0 nb (nI q)) nb q d q) nb 4) 2 0 0 = nI nb from by rw [ry_fl_f (by decide), ry_fo_f (by decide) (by decide) (by decide)]; rw [bd_up_f (by decide), ry_t0, bd_up_f (by decide)]; exact hy.2.2.1]
                            refine lv_iconst (v := 1) hx hb dX7_found_200 (by decide) ?_
                            refine lv_iadd hx hb dX7_found_201 ?_
                            refine bd_ti (j := nb + 1) (nI_add nb 1) ?_
                            refine bd_p_X7_bands C hR hS  qf_X7_48 dX7_found_202 (fun H locs hR hS => ?_)
                            refine lv_aload_n hx hb dX7_found_205 rfl (lv_at hl 4 rfl) ?_
                            refine bd_g_X7_bands C hR  qf_X7_48 dX7_found_206 ?_
                            rw [show (bd_up (ry_fl (ry_fo (bd_up (ry_t0 ym) 14 0 nb (nI q)) nb q d q) nb 4) 2 0 0 (nI (nb + 1))) 2 0 0 = nI (nb + 1) from bd_up_s]
                            refine lv_iconst (v := 1) hx hb dX7_found_209 (by decide) ?_
                            refine lv_isub hx hb dX7_found_210 ?_
                            refine bd_ti (j := (nb + 1) - 1) (pk_sub (a := (nb + 1)) (b := 1) (by omega)) ?_
                            exact bd_ri C hr hlk (hR.eq rfl (by first | rfl | (rfl))) hS (Nat.zero_le _) (Nat.zero_le _) dX7_found_211 (by first | rfl | (rfl))
                          · skip
                            have nc168 : ¬ 4 ≤ j := fun q9 => c168 ((nI_leI (a := 4) (b := j) (by omega) (by omega)).mpr q9)
                            refine lv_aload_n hx hb dX7_found_171 rfl (lv_at hl 4 rfl) ?_
                            refine bd_g_X7_s C hR  qf_X7_30 dX7_found_172 ?_
                            refine bd_gN_X6_latest C hR (by decide) (List.mem_of_getElem? (i := 10) rfl) dX7_found_175 ?_
                            refine lv_iconst (v := 4) hx hb dX7_found_178 (by decide) ?_
                            refine lv_aload_n hx hb dX7_found_179 rfl (lv_at hl 4 rfl) ?_
                            refine bd_g_X7_bands C hR  qf_X7_48 dX7_found_180 ?_
                            rw [show (ry_fl (ry_fo (bd_up (ry_t0 ym) 14 0 nb (nI q)) nb q d q) nb j) 2 0 0 = nI nb from by rw [ry_fl_f (by decide), ry_fo_f (by decide) (by decide) (by decide)]; rw [bd_up_f (by decide), ry_t0, bd_up_f (by decide)]; exact hy.2.2.1]
                            refine lv_imul hx hb dX7_found_183 ?_
                            refine bd_ti (j := 4 * nb) (pk_mul 4 nb) ?_
                            refine lv_iload hx hb dX7_found_184 (lv_at hl 0 rfl) ?_
                            refine lv_iadd hx hb dX7_found_186 ?_
                            refine bd_ti (j := (4 * nb) + j) (nI_add (4 * nb) j) ?_
                            refine lv_iconst (v := (-1)) hx hb dX7_found_187 (by decide) ?_
                            refine bd_st_28 C hR hS (by decide) (j := ((4 * nb) + j)) (by omega) dX7_found_188 (fun H locs hR hS => ?_)
                            refine lv_iinc (v := nI (j + 1)) (lv' := [(5, .int (nI (j + 1))), (4, .int (nI (8 * nb + q - q))), (3, .int (nI q)), (2, .int 1), (0, .ref (bd_ea E 12 0 0)), (1, .int d)]) hx hb dX7_found_189 hl (k := 0) rfl (nI_1 j) (by decide) rfl (fun ls hl => ?_)
                            refine lv_goto (tgt := 165) hx hb dX7_found_192 (by decide) ?_
                            exact ih3 (j + 1) (by omega) (by omega) _ _ (hR.eq rfl (by first | (simp (config := { decide := true }) only [ry_fl, eq_false c6, eq_false c12, eq_true c28, eq_false c60, eq_false c75, eq_false nc75, eq_true c110, eq_false c168, eq_false nc168, ↓reduceIte, not_true_eq_false, not_false_eq_true, and_self, and_true, true_and, and_false, false_and]; done) | rfl)) hS _ (lv_sub hl [0, 1, 2, 3, 4, 5] rfl)
                      exact lp3 (4 + 1) 0 (by omega) (by omega) _ _ (hR.eq rfl rfl) hS _ (by first | exact lv_sub hl [0, 1, 2, 3, 4, 5] rfl | (rw [show (nI 0 : Int32) = 0 from by first | rfl | decide | simp [nI_0]]; exact lv_sub hl [0, 1, 2, 3, 4, 5] rfl))
                    · skip
                      have hjq : j < q := Nat.lt_of_not_ge (fun h9 => c110 ((show q = j by omega) ▸ hk.2))
                      refine lv_iinc (v := (nI (8 * nb + q - j)) + (-1)) (lv' := [(4, .int ((nI (8 * nb + q - j)) + (-1))), (5, .int (kx_dv d j)), (3, .int (nI q)), (2, .int 1), (0, .ref (bd_ea E 12 0 0)), (1, .int d)]) hx hb dX7_found_113 hl (k := 1) rfl rfl (by decide) rfl (fun ls hl => ?_)
                      refine lv_aload_n hx hb dX7_found_116 rfl (lv_at hl 4 rfl) ?_
                      refine bd_g_X7_instrument C hR  qf_X7_16 dX7_found_117 ?_
                      refine lv_iload hx hb dX7_found_120 (lv_at hl 0 rfl) ?_
                      refine lv_iload hx hb dX7_found_122 (lv_at hl 1 rfl) ?_
                      refine lv_bipush (v := 10) hx hb dX7_found_124 (by decide) ?_
                      refine lv_irem hx hb dX7_found_126 (by decide) ?_
                      refine lv_iconst (v := 1) hx hb dX7_found_127 (by decide) ?_
                      refine lv_isub hx hb dX7_found_128 ?_
                      refine bd_ti2 (j := 8 * nb + q - 1 - j) (bd_dn3 (by omega)) ?_
                      refine bd_st_15 C hR hS  (j := (8 * nb + q - 1 - j)) (by omega) dX7_found_129 (fun H locs hR hS => ?_)
                      refine lv_aload_n hx hb dX7_found_130 rfl (lv_at hl 4 rfl) ?_
                      refine bd_g_X7_s C hR  qf_X7_30 dX7_found_131 ?_
                      refine bd_gN_X6_member C hR (by decide) (List.mem_of_getElem? (i := 8) rfl) dX7_found_134 ?_
                      refine lv_iload hx hb dX7_found_137 (lv_at hl 0 rfl) ?_
                      refine lv_iconst (v := (-1)) hx hb dX7_found_139 (by decide) ?_
                      refine bd_ti2 (j := 8 * nb + q - 1 - j) (bd_dn3 (by omega)) ?_
                      refine bd_st_23 C hR hS (by decide) (j := (8 * nb + q - 1 - j)) (by omega) dX7_found_140 (fun H locs hR hS => ?_)
                      refine lv_aload_n hx hb dX7_found_141 rfl (lv_at hl 4 rfl) ?_
                      refine bd_g_X7_s C hR  qf_X7_30 dX7_found_142 ?_
                      refine bd_gN_X6_who C hR (by decide) (List.mem_of_getElem? (i := 9) rfl) dX7_found_145 ?_
                      refine lv_iload hx hb dX7_found_148 (lv_at hl 0 rfl) ?_
                      refine lv_iconst (v := (-1)) hx hb dX7_found_150 (by decide) ?_
                      refine bd_ti2 (j := 8 * nb + q - 1 - j) (bd_dn3 (by omega)) ?_
                      refine bd_st_24 C hR hS (by decide) (j := (8 * nb + q - 1 - j)) (by omega) dX7_found_151 (fun H locs hR hS => ?_)
                      refine lv_iload hx hb dX7_found_152 (lv_at hl 1 rfl) ?_
                      refine lv_bipush (v := 10) hx hb dX7_found_154 (by decide) ?_
                      refine lv_idiv hx hb dX7_found_156 (by decide) ?_
                      refine lv_istore (lv' := [(5, .int ((kx_dv d j) / 10)), (4, .int ((nI (8 * nb + q - j)) + (-1))), (3, .int (nI q)), (2, .int 1), (0, .ref (bd_ea E 12 0 0)), (1, .int d)]) hx hb dX7_found_157 hl (by decide) rfl (fun ls hl => ?_)
                      refine lv_goto (tgt := 108) hx hb dX7_found_159 (by decide) ?_
                      exact ih2 (j + 1) (by omega) (by omega) _ _ (hR.eq rfl (by first | (simp (config := { decide := true }) only [ry_fo, kx_dv, eq_false c6, eq_false c12, eq_true c28, eq_false c60, eq_false c75, eq_false nc75, eq_false c110, ↓reduceIte, not_true_eq_false, not_false_eq_true, and_self, and_true, true_and, and_false, false_and]; done) | rfl)) hS _ (by rw [show (kx_dv d (j + 1) : Int32) = (kx_dv d j) / 10 from (by first | (simp (config := { decide := true }) only [ry_fo, kx_dv, eq_false c6, eq_false c12, eq_true c28, eq_false c60, eq_false c75, eq_false nc75, eq_false c110, ↓reduceIte, not_true_eq_false, not_false_eq_true, and_self, and_true, true_and, and_false, false_and]; done) | rfl)]; rw [show (nI (8 * nb + q - (j + 1)) : Int32) = (nI (8 * nb + q - j)) + (-1) from (by exact bd_dn4 (by omega))]; exact lv_sub hl [0, 1, 2, 3, 4, 5] rfl)
                exact lp2 (q + 1) 0 (by omega) (by omega) _ _ (hR.eq rfl rfl) hS _ (by rw [show (kx_dv d 0 : Int32) = d from by rfl]; rw [show (nI (8 * nb + q - 0) : Int32) = nI ((8 * nb) + q) from by rfl]; exact lv_sub hl [0, 1, 2, 3, 4, 5] rfl)
              · exact absurd ((nI_eq (a := nb) (b := 6) (by omega) (by decide)).mp c75) (by omega)
            · exact absurd c60 (by decide)
          · skip
            have hjq : j < q := Nat.lt_of_not_ge (fun h9 => c28 ((show q = j by omega) ▸ hk.2))
            refine lv_iload_n hx hb dX7_found_31 rfl (lv_at hl 2 rfl) ?_
            refine lv_if_eq (tgt := 59) hx hb dX7_found_32 (by decide) (fun c32 => ?_) (fun c32 => ?_)
            · exact absurd c32 (by decide)
            · skip
              refine lv_iload hx hb dX7_found_35 (lv_at hl 0 rfl) ?_
              refine lv_bipush (v := 10) hx hb dX7_found_37 (by decide) ?_
              refine lv_irem hx hb dX7_found_39 (by decide) ?_
              refine lv_iconst (v := 1) hx hb dX7_found_40 (by decide) ?_
              refine lv_iconst (v := 4) hx hb dX7_found_41 (by decide) ?_
              refine bd_cS1 [.int ((kx_dv d j) - (kx_dv d j) / 10 * 10), .int 1, .int 4] [] C (k_X7_isIn l E xm (bd_up ym 0 0 0 0) om ((kx_dv d j) - (kx_dv d j) / 10 * 10) 1 4 ) hR hS qm_X7_44 qt_X7_isIn qz_X7 qc_X7_isIn qp_X7_isIn.2 ⟨Nat.le_of_ble_eq_true rfl, Nat.le_of_ble_eq_true rfl⟩ hl.1 (Nat.le_of_ble_eq_true rfl) dX7_found_42 ⟨Nat.le_of_ble_eq_true rfl, Nat.le_of_ble_eq_true rfl⟩ (fun H locs hR hS hz42 => ?_)
              refine lv_istore_n (lv' := [(2, .int (if ¬ ((kx_dv d j) - (kx_dv d j) / 10 * 10) < 1 ∧ ¬ 4 < ((kx_dv d j) - (kx_dv d j) / 10 * 10) then 1 else 0)), (4, .int (kx_dv d j)), (3, .int (nI j)), (0, .ref (bd_ea E 12 0 0)), (1, .int d)]) hx hb dX7_found_45 rfl hl (by decide) rfl (fun ls hl => ?_)
              refine lv_iinc (v := nI (j + 1)) (lv' := [(3, .int (nI (j + 1))), (2, .int (if ¬ ((kx_dv d j) - (kx_dv d j) / 10 * 10) < 1 ∧ ¬ 4 < ((kx_dv d j) - (kx_dv d j) / 10 * 10) then 1 else 0)), (4, .int (kx_dv d j)), (0, .ref (bd_ea E 12 0 0)), (1, .int d)]) hx hb dX7_found_46 hl (k := 2) rfl (nI_1 j) (by decide) rfl (fun ls hl => ?_)
              refine lv_iload hx hb dX7_found_49 (lv_at hl 2 rfl) ?_
              refine lv_bipush (v := 10) hx hb dX7_found_51 (by decide) ?_
              refine lv_idiv hx hb dX7_found_53 (by decide) ?_
              refine lv_istore (lv' := [(4, .int ((kx_dv d j) / 10)), (3, .int (nI (j + 1))), (2, .int (if ¬ ((kx_dv d j) - (kx_dv d j) / 10 * 10) < 1 ∧ ¬ 4 < ((kx_dv d j) - (kx_dv d j) / 10 * 10) then 1 else 0)), (0, .ref (bd_ea E 12 0 0)), (1, .int d)]) hx hb dX7_found_54 hl (by decide) rfl (fun ls hl => ?_)
              refine lv_goto (tgt := 26) hx hb dX7_found_56 (by decide) ?_
              exact ih1 (j + 1) (by omega) (by omega) _ _ (hR.eq rfl rfl) hS _ (by rw [show (kx_dv d (j + 1) : Int32) = (kx_dv d j) / 10 from (by first | (simp (config := { decide := true }) only [kx_dv, eq_false c6, eq_false c12, eq_false c28, eq_false c32, ↓reduceIte, not_true_eq_false, not_false_eq_true, and_self, and_true, true_and, and_false, false_and]; done) | rfl)]; rw [show (1 : Int32) = if ¬ ((kx_dv d j) - (kx_dv d j) / 10 * 10) < 1 ∧ ¬ 4 < ((kx_dv d j) - (kx_dv d j) / 10 * 10) then 1 else 0 from (by exact (if_pos (hk.1 j hjq).2).symm)]; exact lv_sub hl [0, 1, 2, 3, 4] rfl)
      exact lp1 (q + 1) 0 (by omega) (by omega) _ _ (hR.eq rfl rfl) hS _ (by first | exact lv_sub hl [0, 1, 2, 3, 4] rfl | (rw [show (kx_dv d 0 : Int32) = d from by first | rfl | decide | simp [nI_0]]; rw [show (nI 0 : Int32) = 0 from by first | rfl | decide | simp [nI_0]]; exact lv_sub hl [0, 1, 2, 3, 4] rfl))
set_option maxHeartbeats 4000000 in
set_option maxRecDepth 100000 in
theorem k_X7_found_2 (l : Launch) (E : bd_E) (xm ym : bd_M) (om : Nat → Int64) (n : Nat) (nb : Nat) (z : (Nat→Nat)) (d : Int32) (q : Nat) (hy : ry_Sh ym n nb z) (h0 : ¬ d ≤ 0) (h8 : ¬ 100000000 ≤ d) (hq : q ≤ 8) (hk : kx_ok d q) (hnb : nb = 6) : bd_Ct l yX7_found cX7_found 6 (some .int) 1 22 0 0 E [.ref (bd_ea E 12 0 0), .int d] xm ym om xm (bd_up (ry_t0 ym) 0 0 0 2) om (some (.int 0)) := by
  refine bd_open RX7 rfl (by decide) (Nat.le_of_ble_eq_true rfl) ?_
  intro p e s m args below meth c ls C hr hlk hS hR hl
  have hx := C.1.1
  have hb := C.1.2.1
  have hy24 := hy.2.1
  have hy6 := hy.2.2.2.1
  have hl : lv_has ls 6 [(0, .ref (bd_ea E 12 0 0)), (1, .int d)] := hl
  refine lv_aload_n hx hb dX7_found_0 rfl (lv_at hl 0 rfl) ?_
  refine lv_iconst (v := 0) hx hb dX7_found_1 (by decide) ?_
  refine bd_p_X7_thrown C hR hS  qf_X7_37 dX7_found_2 (fun H locs hR hS => ?_)
  refine lv_iload_n hx hb dX7_found_5 rfl (lv_at hl 1 rfl) ?_
  refine lv_if_le (tgt := 19) hx hb dX7_found_6 (by decide) (fun c6 => ?_) (fun c6 => ?_)
  · exact absurd c6 h0
  · skip
    refine lv_iload_n hx hb dX7_found_9 rfl (lv_at hl 1 rfl) ?_
    refine lv_ldc (v := 100000000) hx hb C.1.2.2.2.1 (C.1.2.2.2.2 _ qd_X7_65) dX7_found_10 ?_
    refine lv_icmp_ge (tgt := 19) hx hb dX7_found_12 (by decide) (fun c12 => ?_) (fun c12 => ?_)
    · exact absurd c12 h8
    · skip
      refine lv_iconst (v := 1) hx hb dX7_found_15 (by decide) ?_
      refine lv_goto (tgt := 20) hx hb dX7_found_16 (by decide) ?_
      refine lv_istore_n (lv' := [(2, .int 1), (0, .ref (bd_ea E 12 0 0)), (1, .int d)]) hx hb dX7_found_20 rfl hl (by decide) rfl (fun ls hl => ?_)
      refine lv_iconst (v := 0) hx hb dX7_found_21 (by decide) ?_
      refine lv_istore_n (lv' := [(3, .int 0), (2, .int 1), (0, .ref (bd_ea E 12 0 0)), (1, .int d)]) hx hb dX7_found_22 rfl hl (by decide) rfl (fun ls hl => ?_)
      refine lv_iload_n hx hb dX7_found_23 rfl (lv_at hl 3 rfl) ?_
      refine lv_istore (lv' := [(4, .int d), (3, .int 0), (2, .int 1), (0, .ref (bd_ea E 12 0 0)), (1, .int d)]) hx hb dX7_found_24 hl (by decide) rfl (fun ls hl => ?_)
      have lp1 : ∀ (t1 j : Nat), j ≤ q → q - j < t1 → ∀ (H : Heap) (locs : List Loc), bd_Rep E xm (bd_up ym 0 0 0 0) om H → va_S (bd_A E) s.heap H locs → ∀ (ls : Array Slot), lv_has ls 6 [(4, .int (kx_dv d j)), (3, .int (nI j)), (2, .int 1), (0, .ref (bd_ea E 12 0 0)), (1, .int d)] → W p l e { frames := 1, cells := 0, slots := 0, locals := 22 } s m args below meth c H locs 0 0 (MQ below (bd_Q E xm (bd_up (ry_t0 ym) 0 0 0 2) om (some (.int 0))) args s 0 0 (bd_A E)) (F0 m 26 ls []) := by
        intro t1
        induction t1 with
        | zero => intro j h1 h2; exact absurd h2 (Nat.not_lt_zero _)
        | succ t1 ih1 =>
          intro j hj1 hj2 H locs hR hS ls hl
          refine lv_iload hx hb dX7_found_26 (lv_at hl 0 rfl) ?_
          refine lv_if_le (tgt := 59) hx hb dX7_found_28 (by decide) (fun c28 => ?_) (fun c28 => ?_)
          · skip
            have hjq : ¬ j < q := fun h9 => (hk.1 j h9).1 c28
            obtain rfl : q = j := by omega
            refine lv_iload_n hx hb dX7_found_59 rfl (lv_at hl 2 rfl) ?_
            refine lv_if_ne (tgt := 69) hx hb dX7_found_60 (by decide) (fun c60 => ?_) (fun c60 => ?_)
            · skip
              refine lv_aload_n hx hb dX7_found_69 rfl (lv_at hl 3 rfl) ?_
              refine bd_g_X7_bands C hR  qf_X7_48 dX7_found_70 ?_
              rw [show (bd_up ym 0 0 0 0) 2 0 0 = nI nb from (show ry_Sh (bd_up ym 0 0 0 0) n nb z from (ry_Sh_up hy (by decide))).2.2.1]
              refine lv_bipush (v := 6) hx hb dX7_found_73 (by decide) ?_
              refine lv_icmp_ne (tgt := 84) hx hb dX7_found_75 (by decide) (fun c75 => ?_) (fun c75 => ?_)
              · exact absurd (by rw [hnb]; rfl) c75
              · skip
                have nc75 : nb = 6 := (nI_eq (a := nb) (b := 6) (by omega) (by omega)).mp c75
                refine lv_aload_n hx hb dX7_found_78 rfl (lv_at hl 3 rfl) ?_
                refine lv_iconst (v := 2) hx hb dX7_found_79 (by decide) ?_
                refine bd_cV1 [.int 2] [] C (k_X7_no l E xm (bd_up ym 0 0 0 0) om 2 ) hR hS (bd_recv C.2 hR ⟨by decide, (by decide), (by decide)⟩ rfl rfl) qm_X7_55 qi_X7_no qs_X7_no qz_X7 qc_X7_no qp_X7_no ⟨Nat.le_of_ble_eq_true rfl, Nat.le_of_ble_eq_true rfl⟩ hl.1 (Nat.le_of_ble_eq_true rfl) dX7_found_80 ⟨Nat.le_of_ble_eq_true rfl, Nat.le_of_ble_eq_true rfl⟩ (fun H locs hR hS hz80 => ?_)
                exact bd_ri C hr hlk (hR.eq rfl (by first | (simp (config := { decide := true }) only [eq_false c6, eq_false c12, eq_true c28, eq_false c60, eq_true c75, eq_true nc75, ↓reduceIte, not_true_eq_false, not_false_eq_true, and_self, and_true, true_and, and_false, false_and]; done) | rfl)) hS (Nat.zero_le _) (Nat.zero_le _) dX7_found_83 rfl
            · exact absurd c60 (by decide)
          · skip
            have hjq : j < q := Nat.lt_of_not_ge (fun h9 => c28 ((show q = j by omega) ▸ hk.2))
            refine lv_iload_n hx hb dX7_found_31 rfl (lv_at hl 2 rfl) ?_
            refine lv_if_eq (tgt := 59) hx hb dX7_found_32 (by decide) (fun c32 => ?_) (fun c32 => ?_)
            · exact absurd c32 (by decide)
            · skip
              refine lv_iload hx hb dX7_found_35 (lv_at hl 0 rfl) ?_
              refine lv_bipush (v := 10) hx hb dX7_found_37 (by decide) ?_
              refine lv_irem hx hb dX7_found_39 (by decide) ?_
              refine lv_iconst (v := 1) hx hb dX7_found_40 (by decide) ?_
              refine lv_iconst (v := 4) hx hb dX7_found_41 (by decide) ?_
              refine bd_cS1 [.int ((kx_dv d j) - (kx_dv d j) / 10 * 10), .int 1, .int 4] [] C (k_X7_isIn l E xm (bd_up ym 0 0 0 0) om ((kx_dv d j) - (kx_dv d j) / 10 * 10) 1 4 ) hR hS qm_X7_44 qt_X7_isIn qz_X7 qc_X7_isIn qp_X7_isIn.2 ⟨Nat.le_of_ble_eq_true rfl, Nat.le_of_ble_eq_true rfl⟩ hl.1 (Nat.le_of_ble_eq_true rfl) dX7_found_42 ⟨Nat.le_of_ble_eq_true rfl, Nat.le_of_ble_eq_true rfl⟩ (fun H locs hR hS hz42 => ?_)
              refine lv_istore_n (lv' := [(2, .int (if ¬ ((kx_dv d j) - (kx_dv d j) / 10 * 10) < 1 ∧ ¬ 4 < ((kx_dv d j) - (kx_dv d j) / 10 * 10) then 1 else 0)), (4, .int (kx_dv d j)), (3, .int (nI j)), (0, .ref (bd_ea E 12 0 0)), (1, .int d)]) hx hb dX7_found_45 rfl hl (by decide) rfl (fun ls hl => ?_)
              refine lv_iinc (v := nI (j + 1)) (lv' := [(3, .int (nI (j + 1))), (2, .int (if ¬ ((kx_dv d j) - (kx_dv d j) / 10 * 10) < 1 ∧ ¬ 4 < ((kx_dv d j) - (kx_dv d j) / 10 * 10) then 1 else 0)), (4, .int (kx_dv d j)), (0, .ref (bd_ea E 12 0 0)), (1, .int d)]) hx hb dX7_found_46 hl (k := 2) rfl (nI_1 j) (by decide) rfl (fun ls hl => ?_)
              refine lv_iload hx hb dX7_found_49 (lv_at hl 2 rfl) ?_
              refine lv_bipush (v := 10) hx hb dX7_found_51 (by decide) ?_
              refine lv_idiv hx hb dX7_found_53 (by decide) ?_
              refine lv_istore (lv' := [(4, .int ((kx_dv d j) / 10)), (3, .int (nI (j + 1))), (2, .int (if ¬ ((kx_dv d j) - (kx_dv d j) / 10 * 10) < 1 ∧ ¬ 4 < ((kx_dv d j) - (kx_dv d j) / 10 * 10) then 1 else 0)), (0, .ref (bd_ea E 12 0 0)), (1, .int d)]) hx hb dX7_found_54 hl (by decide) rfl (fun ls hl => ?_)
              refine lv_goto (tgt := 26) hx hb dX7_found_56 (by decide) ?_
              exact ih1 (j + 1) (by omega) (by omega) _ _ (hR.eq rfl rfl) hS _ (by rw [show (kx_dv d (j + 1) : Int32) = (kx_dv d j) / 10 from (by first | (simp (config := { decide := true }) only [kx_dv, eq_false c6, eq_false c12, eq_false c28, eq_false c32, ↓reduceIte, not_true_eq_false, not_false_eq_true, and_self, and_true, true_and, and_false, false_and]; done) | rfl)]; rw [show (1 : Int32) = if ¬ ((kx_dv d j) - (kx_dv d j) / 10 * 10) < 1 ∧ ¬ 4 < ((kx_dv d j) - (kx_dv d j) / 10 * 10) then 1 else 0 from (by exact (if_pos (hk.1 j hjq).2).symm)]; exact lv_sub hl [0, 1, 2, 3, 4] rfl)
      exact lp1 (q + 1) 0 (by omega) (by omega) _ _ (hR.eq rfl rfl) hS _ (by first | exact lv_sub hl [0, 1, 2, 3, 4] rfl | (rw [show (kx_dv d 0 : Int32) = d from by first | rfl | decide | simp [nI_0]]; rw [show (nI 0 : Int32) = 0 from by first | rfl | decide | simp [nI_0]]; exact lv_sub hl [0, 1, 2, 3, 4] rfl))
set_option maxHeartbeats 4000000 in
set_option maxRecDepth 100000 in
theorem k_X7_found_0 (l : Launch) (E : bd_E) (xm ym : bd_M) (om : Nat → Int64) (n : Nat) (nb : Nat) (z : (Nat→Nat)) (d : Int32) (hy : ry_Sh ym n nb z) (h0 : d ≤ 0 ∨ 100000000 ≤ d) : bd_Ct l yX7_found cX7_found 6 (some .int) 1 22 0 0 E [.ref (bd_ea E 12 0 0), .int d] xm ym om xm (bd_up (ry_t0 ym) 0 0 0 1) om (some (.int 0)) := by
  refine bd_open RX7 rfl (by decide) (Nat.le_of_ble_eq_true rfl) ?_
  intro p e s m args below meth c ls C hr hlk hS hR hl
  have hx := C.1.1
  have hb := C.1.2.1
  have hy24 := hy.2.1
  have hy6 := hy.2.2.2.1
  have hl : lv_has ls 6 [(0, .ref (bd_ea E 12 0 0)), (1, .int d)] := hl
  refine lv_aload_n hx hb dX7_found_0 rfl (lv_at hl 0 rfl) ?_
  refine lv_iconst (v := 0) hx hb dX7_found_1 (by decide) ?_
  refine bd_p_X7_thrown C hR hS  qf_X7_37 dX7_found_2 (fun H locs hR hS => ?_)
  refine lv_iload_n hx hb dX7_found_5 rfl (lv_at hl 1 rfl) ?_
  refine lv_if_le (tgt := 19) hx hb dX7_found_6 (by decide) (fun c6 => ?_) (fun c6 => ?_)
  · skip
    refine lv_iconst (v := 0) hx hb dX7_found_19 (by decide) ?_
    refine lv_istore_n (lv' := [(2, .int 0), (0, .ref (bd_ea E 12 0 0)), (1, .int d)]) hx hb dX7_found_20 rfl hl (by decide) rfl (fun ls hl => ?_)
    refine lv_iconst (v := 0) hx hb dX7_found_21 (by decide) ?_
    refine lv_istore_n (lv' := [(3, .int 0), (2, .int 0), (0, .ref (bd_ea E 12 0 0)), (1, .int d)]) hx hb dX7_found_22 rfl hl (by decide) rfl (fun ls hl => ?_)
    refine lv_iload_n hx hb dX7_found_23 rfl (lv_at hl 3 rfl) ?_
    refine lv_istore (lv' := [(4, .int d), (3, .int 0), (2, .int 0), (0, .ref (bd_ea E 12 0 0)), (1, .int d)]) hx hb dX7_found_24 hl (by decide) rfl (fun ls hl => ?_)
    refine lv_iload hx hb dX7_found_26 (lv_at hl 0 rfl) ?_
    refine lv_if_le (tgt := 59) hx hb dX7_found_28 (by decide) (fun _ => ?_) (fun q9 => absurd c6 q9)
    refine lv_iload_n hx hb dX7_found_59 rfl (lv_at hl 2 rfl) ?_
    refine lv_if_ne (tgt := 69) hx hb dX7_found_60 (by decide) (fun q9 => absurd rfl q9) (fun _ => ?_)
    refine lv_aload_n hx hb dX7_found_63 rfl (lv_at hl 3 rfl) ?_
    refine lv_iconst (v := 1) hx hb dX7_found_64 (by decide) ?_
    refine bd_cV1 [.int 1] [] C (k_X7_no l E xm (bd_up ym 0 0 0 0) om 1 ) hR hS (bd_recv C.2 hR ⟨by decide, (by decide), (by decide)⟩ rfl rfl) qm_X7_55 qi_X7_no qs_X7_no qz_X7 qc_X7_no qp_X7_no ⟨Nat.le_of_ble_eq_true rfl, Nat.le_of_ble_eq_true rfl⟩ hl.1 (Nat.le_of_ble_eq_true rfl) dX7_found_65 ⟨Nat.le_of_ble_eq_true rfl, Nat.le_of_ble_eq_true rfl⟩ (fun H locs hR hS hz65 => ?_)
    exact bd_ri C hr hlk (hR.eq rfl (by first | (simp (config := { decide := true }) only [eq_true c6, ↓reduceIte, not_true_eq_false, not_false_eq_true, and_self, and_true, true_and, and_false, false_and]; done) | rfl)) hS (Nat.zero_le _) (Nat.zero_le _) dX7_found_68 rfl
  · skip
    refine lv_iload_n hx hb dX7_found_9 rfl (lv_at hl 1 rfl) ?_
    refine lv_ldc (v := 100000000) hx hb C.1.2.2.2.1 (C.1.2.2.2.2 _ qd_X7_65) dX7_found_10 ?_
    refine lv_icmp_ge (tgt := 19) hx hb dX7_found_12 (by decide) (fun c12 => ?_) (fun c12 => ?_)
    · skip
      refine lv_iconst (v := 0) hx hb dX7_found_19 (by decide) ?_
      refine lv_istore_n (lv' := [(2, .int 0), (0, .ref (bd_ea E 12 0 0)), (1, .int d)]) hx hb dX7_found_20 rfl hl (by decide) rfl (fun ls hl => ?_)
      refine lv_iconst (v := 0) hx hb dX7_found_21 (by decide) ?_
      refine lv_istore_n (lv' := [(3, .int 0), (2, .int 0), (0, .ref (bd_ea E 12 0 0)), (1, .int d)]) hx hb dX7_found_22 rfl hl (by decide) rfl (fun ls hl => ?_)
      refine lv_iload_n hx hb dX7_found_23 rfl (lv_at hl 3 rfl) ?_
      refine lv_istore (lv' := [(4, .int d), (3, .int 0), (2, .int 0), (0, .ref (bd_ea E 12 0 0)), (1, .int d)]) hx hb dX7_found_24 hl (by decide) rfl (fun ls hl => ?_)
      refine lv_iload hx hb dX7_found_26 (lv_at hl 0 rfl) ?_
      refine lv_if_le (tgt := 59) hx hb dX7_found_28 (by decide) (fun q9 => absurd q9 c6) (fun _ => ?_)
      refine lv_iload_n hx hb dX7_found_31 rfl (lv_at hl 2 rfl) ?_
      refine lv_if_eq (tgt := 59) hx hb dX7_found_32 (by decide) (fun _ => ?_) (fun q9 => absurd rfl q9)
      refine lv_iload_n hx hb dX7_found_59 rfl (lv_at hl 2 rfl) ?_
      refine lv_if_ne (tgt := 69) hx hb dX7_found_60 (by decide) (fun q9 => absurd rfl q9) (fun _ => ?_)
      refine lv_aload_n hx hb dX7_found_63 rfl (lv_at hl 3 rfl) ?_
      refine lv_iconst (v := 1) hx hb dX7_found_64 (by decide) ?_
      refine bd_cV1 [.int 1] [] C (k_X7_no l E xm (bd_up ym 0 0 0 0) om 1 ) hR hS (bd_recv C.2 hR ⟨by decide, (by decide), (by decide)⟩ rfl rfl) qm_X7_55 qi_X7_no qs_X7_no qz_X7 qc_X7_no qp_X7_no ⟨Nat.le_of_ble_eq_true rfl, Nat.le_of_ble_eq_true rfl⟩ hl.1 (Nat.le_of_ble_eq_true rfl) dX7_found_65 ⟨Nat.le_of_ble_eq_true rfl, Nat.le_of_ble_eq_true rfl⟩ (fun H locs hR hS hz65 => ?_)
      exact bd_ri C hr hlk (hR.eq rfl (by first | (simp (config := { decide := true }) only [eq_false c6, eq_true c12, ↓reduceIte, not_true_eq_false, not_false_eq_true, and_self, and_true, true_and, and_false, false_and]; done) | rfl)) hS (Nat.zero_le _) (Nat.zero_le _) dX7_found_68 rfl
    · exact absurd (h0.resolve_left c6) c12
set_option maxHeartbeats 4000000 in
set_option maxRecDepth 100000 in
theorem k_X7_found_1 (l : Launch) (E : bd_E) (xm ym : bd_M) (om : Nat → Int64) (n : Nat) (nb : Nat) (z : (Nat→Nat)) (d : Int32) (q : Nat) (hy : ry_Sh ym n nb z) (h0 : ¬ d ≤ 0) (h8 : ¬ 100000000 ≤ d) (hq : q ≤ 8) (hk : ∀ j, j < q → ¬ kx_dv d j ≤ 0 ∧ kx_dk d j) (hb1 : ¬ kx_dv d q ≤ 0 ∧ ¬ kx_dk d q) : bd_Ct l yX7_found cX7_found 6 (some .int) 1 22 0 0 E [.ref (bd_ea E 12 0 0), .int d] xm ym om xm (bd_up (ry_t0 ym) 0 0 0 1) om (some (.int 0)) := by
  refine bd_open RX7 rfl (by decide) (Nat.le_of_ble_eq_true rfl) ?_
  intro p e s m args below meth c ls C hr hlk hS hR hl
  have hx := C.1.1
  have hb := C.1.2.1
  have hy24 := hy.2.1
  have hy6 := hy.2.2.2.1
  have hl : lv_has ls 6 [(0, .ref (bd_ea E 12 0 0)), (1, .int d)] := hl
  refine lv_aload_n hx hb dX7_found_0 rfl (lv_at hl 0 rfl) ?_
  refine lv_iconst (v := 0) hx hb dX7_found_1 (by decide) ?_
  refine bd_p_X7_thrown C hR hS  qf_X7_37 dX7_found_2 (fun H locs hR hS => ?_)
  refine lv_iload_n hx hb dX7_found_5 rfl (lv_at hl 1 rfl) ?_
  refine lv_if_le (tgt := 19) hx hb dX7_found_6 (by decide) (fun c6 => ?_) (fun c6 => ?_)
  · exact absurd c6 h0
  · skip
    refine lv_iload_n hx hb dX7_found_9 rfl (lv_at hl 1 rfl) ?_
    refine lv_ldc (v := 100000000) hx hb C.1.2.2.2.1 (C.1.2.2.2.2 _ qd_X7_65) dX7_found_10 ?_
    refine lv_icmp_ge (tgt := 19) hx hb dX7_found_12 (by decide) (fun c12 => ?_) (fun c12 => ?_)
    · exact absurd c12 h8
    · skip
      refine lv_iconst (v := 1) hx hb dX7_found_15 (by decide) ?_
      refine lv_goto (tgt := 20) hx hb dX7_found_16 (by decide) ?_
      refine lv_istore_n (lv' := [(2, .int 1), (0, .ref (bd_ea E 12 0 0)), (1, .int d)]) hx hb dX7_found_20 rfl hl (by decide) rfl (fun ls hl => ?_)
      refine lv_iconst (v := 0) hx hb dX7_found_21 (by decide) ?_
      refine lv_istore_n (lv' := [(3, .int 0), (2, .int 1), (0, .ref (bd_ea E 12 0 0)), (1, .int d)]) hx hb dX7_found_22 rfl hl (by decide) rfl (fun ls hl => ?_)
      refine lv_iload_n hx hb dX7_found_23 rfl (lv_at hl 3 rfl) ?_
      refine lv_istore (lv' := [(4, .int d), (3, .int 0), (2, .int 1), (0, .ref (bd_ea E 12 0 0)), (1, .int d)]) hx hb dX7_found_24 hl (by decide) rfl (fun ls hl => ?_)
      have lp1 : ∀ (t1 j : Nat), j ≤ q + 1 → (q + 1) - j < t1 → ∀ (H : Heap) (locs : List Loc), bd_Rep E xm (bd_up ym 0 0 0 0) om H → va_S (bd_A E) s.heap H locs → ∀ (ls : Array Slot), lv_has ls 6 [(4, .int (kx_dv d j)), (3, .int (nI j)), (2, .int (if j ≤ q then 1 else 0)), (0, .ref (bd_ea E 12 0 0)), (1, .int d)] → W p l e { frames := 1, cells := 0, slots := 0, locals := 22 } s m args below meth c H locs 0 0 (MQ below (bd_Q E xm (bd_up (ry_t0 ym) 0 0 0 1) om (some (.int 0))) args s 0 0 (bd_A E)) (F0 m 26 ls []) := by
        intro t1
        induction t1 with
        | zero => intro j h1 h2; exact absurd h2 (Nat.not_lt_zero _)
        | succ t1 ih1 =>
          intro j hj1 hj2 H locs hR hS ls hl
          refine lv_iload hx hb dX7_found_26 (lv_at hl 0 rfl) ?_
          refine lv_if_le (tgt := 59) hx hb dX7_found_28 (by decide) (fun c28 => ?_) (fun c28 => ?_)
          · skip
            have hjq : ¬ j ≤ q := fun h9 => by
              rcases Nat.lt_or_ge j q with h10 | h10
              · exact (hk j h10).1 c28
              · exact hb1.1 ((show j = q by omega) ▸ c28)
            obtain rfl : q + 1 = j := by omega
            refine lv_iload_n hx hb dX7_found_59 rfl (lv_at hl 2 rfl) ?_
            refine bd_ifne (P := (q + 1) ≤ q) (tgt := 69) C dX7_found_60 (by decide) (fun c60 => ?_) (fun c60 => ?_)
            · exact absurd c60 (by omega)
            · skip
              refine lv_aload_n hx hb dX7_found_63 rfl (lv_at hl 3 rfl) ?_
              refine lv_iconst (v := 1) hx hb dX7_found_64 (by decide) ?_
              refine bd_cV1 [.int 1] [] C (k_X7_no l E xm (bd_up ym 0 0 0 0) om 1 ) hR hS (bd_recv C.2 hR ⟨by decide, (by decide), (by decide)⟩ rfl rfl) qm_X7_55 qi_X7_no qs_X7_no qz_X7 qc_X7_no qp_X7_no ⟨Nat.le_of_ble_eq_true rfl, Nat.le_of_ble_eq_true rfl⟩ hl.1 (Nat.le_of_ble_eq_true rfl) dX7_found_65 ⟨Nat.le_of_ble_eq_true rfl, Nat.le_of_ble_eq_true rfl⟩ (fun H locs hR hS hz65 => ?_)
              exact bd_ri C hr hlk (hR.eq rfl (by first | (simp (config := { decide := true }) only [eq_false c6, eq_false c12, eq_true c28, eq_false c60, ↓reduceIte, not_true_eq_false, not_false_eq_true, and_self, and_true, true_and, and_false, false_and]; done) | rfl)) hS (Nat.zero_le _) (Nat.zero_le _) dX7_found_68 rfl
          · skip
            refine lv_iload_n hx hb dX7_found_31 rfl (lv_at hl 2 rfl) ?_
            refine bd_ifeq (P := j ≤ q) (tgt := 59) C dX7_found_32 (by decide) (fun c32 => ?_) (fun c32 => ?_)
            · skip
              obtain rfl : q + 1 = j := by omega
              refine lv_iload_n hx hb dX7_found_59 rfl (lv_at hl 2 rfl) ?_
              refine bd_ifne (P := (q + 1) ≤ q) (tgt := 69) C dX7_found_60 (by decide) (fun c60 => ?_) (fun c60 => ?_)
              · exact absurd c60 (by omega)
              · skip
                refine lv_aload_n hx hb dX7_found_63 rfl (lv_at hl 3 rfl) ?_
                refine lv_iconst (v := 1) hx hb dX7_found_64 (by decide) ?_
                refine bd_cV1 [.int 1] [] C (k_X7_no l E xm (bd_up ym 0 0 0 0) om 1 ) hR hS (bd_recv C.2 hR ⟨by decide, (by decide), (by decide)⟩ rfl rfl) qm_X7_55 qi_X7_no qs_X7_no qz_X7 qc_X7_no qp_X7_no ⟨Nat.le_of_ble_eq_true rfl, Nat.le_of_ble_eq_true rfl⟩ hl.1 (Nat.le_of_ble_eq_true rfl) dX7_found_65 ⟨Nat.le_of_ble_eq_true rfl, Nat.le_of_ble_eq_true rfl⟩ (fun H locs hR hS hz65 => ?_)
                exact bd_ri C hr hlk (hR.eq rfl (by first | (simp (config := { decide := true }) only [eq_false c6, eq_false c12, eq_false c28, eq_false c32, eq_false c60, ↓reduceIte, not_true_eq_false, not_false_eq_true, and_self, and_true, true_and, and_false, false_and]; done) | rfl)) hS (Nat.zero_le _) (Nat.zero_le _) dX7_found_68 rfl
            · skip
              refine lv_iload hx hb dX7_found_35 (lv_at hl 0 rfl) ?_
              refine lv_bipush (v := 10) hx hb dX7_found_37 (by decide) ?_
              refine lv_irem hx hb dX7_found_39 (by decide) ?_
              refine lv_iconst (v := 1) hx hb dX7_found_40 (by decide) ?_
              refine lv_iconst (v := 4) hx hb dX7_found_41 (by decide) ?_
              refine bd_cS1 [.int ((kx_dv d j) - (kx_dv d j) / 10 * 10), .int 1, .int 4] [] C (k_X7_isIn l E xm (bd_up ym 0 0 0 0) om ((kx_dv d j) - (kx_dv d j) / 10 * 10) 1 4 ) hR hS qm_X7_44 qt_X7_isIn qz_X7 qc_X7_isIn qp_X7_isIn.2 ⟨Nat.le_of_ble_eq_true rfl, Nat.le_of_ble_eq_true rfl⟩ hl.1 (Nat.le_of_ble_eq_true rfl) dX7_found_42 ⟨Nat.le_of_ble_eq_true rfl, Nat.le_of_ble_eq_true rfl⟩ (fun H locs hR hS hz42 => ?_)
              refine lv_istore_n (lv' := [(2, .int (if ¬ ((kx_dv d j) - (kx_dv d j) / 10 * 10) < 1 ∧ ¬ 4 < ((kx_dv d j) - (kx_dv d j) / 10 * 10) then 1 else 0)), (4, .int (kx_dv d j)), (3, .int (nI j)), (0, .ref (bd_ea E 12 0 0)), (1, .int d)]) hx hb dX7_found_45 rfl hl (by decide) rfl (fun ls hl => ?_)
              refine lv_iinc (v := nI (j + 1)) (lv' := [(3, .int (nI (j + 1))), (2, .int (if ¬ ((kx_dv d j) - (kx_dv d j) / 10 * 10) < 1 ∧ ¬ 4 < ((kx_dv d j) - (kx_dv d j) / 10 * 10) then 1 else 0)), (4, .int (kx_dv d j)), (0, .ref (bd_ea E 12 0 0)), (1, .int d)]) hx hb dX7_found_46 hl (k := 2) rfl (nI_1 j) (by decide) rfl (fun ls hl => ?_)
              refine lv_iload hx hb dX7_found_49 (lv_at hl 2 rfl) ?_
              refine lv_bipush (v := 10) hx hb dX7_found_51 (by decide) ?_
              refine lv_idiv hx hb dX7_found_53 (by decide) ?_
              refine lv_istore (lv' := [(4, .int ((kx_dv d j) / 10)), (3, .int (nI (j + 1))), (2, .int (if ¬ ((kx_dv d j) - (kx_dv d j) / 10 * 10) < 1 ∧ ¬ 4 < ((kx_dv d j) - (kx_dv d j) / 10 * 10) then 1 else 0)), (0, .ref (bd_ea E 12 0 0)), (1, .int d)]) hx hb dX7_found_54 hl (by decide) rfl (fun ls hl => ?_)
              refine lv_goto (tgt := 26) hx hb dX7_found_56 (by decide) ?_
              exact ih1 (j + 1) (by omega) (by omega) _ _ (hR.eq rfl rfl) hS _ (by rw [show (kx_dv d (j + 1) : Int32) = (kx_dv d j) / 10 from (by first | (simp (config := { decide := true }) only [kx_dv, eq_false c6, eq_false c12, eq_false c28, eq_true c32, ↓reduceIte, not_true_eq_false, not_false_eq_true, and_self, and_true, true_and, and_false, false_and]; done) | rfl)]; rw [show (if (j + 1) ≤ q then 1 else 0 : Int32) = if ¬ ((kx_dv d j) - (kx_dv d j) / 10 * 10) < 1 ∧ ¬ 4 < ((kx_dv d j) - (kx_dv d j) / 10 * 10) then 1 else 0 from (by exact bd_ifc ⟨fun h9 => (hk j h9).2, fun h9 => Nat.lt_of_not_ge (fun h10 => hb1.2 ((show j = q by omega) ▸ h9))⟩)]; exact lv_sub hl [0, 1, 2, 3, 4] rfl)
      exact lp1 ((q + 1) + 1) 0 (by omega) (by omega) _ _ (hR.eq rfl rfl) hS _ (by rw [show (kx_dv d 0 : Int32) = d from by rfl]; rw [show (nI 0 : Int32) = 0 from by rfl]; rw [show (if 0 ≤ q then 1 else 0 : Int32) = 1 from by exact if_pos (Nat.zero_le _)]; exact lv_sub hl [0, 1, 2, 3, 4] rfl)
