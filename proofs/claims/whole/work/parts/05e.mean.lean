/-! THE MEANS: walks -/
set_option maxHeartbeats 4000000 in
set_option maxRecDepth 100000 in
theorem k_X4_meanMarks (l : Launch) (E : bd_E) (xm ym : bd_M) (om : Nat → Int64) (w : Nat) (n : Nat) (nb : Nat) (z : (Nat→Nat)) (hw : w < 2) (hs : kx_Sh xm w n nb z) : bd_Ct l yX4_meanMarks cX4_meanMarks 4 (some .double) 0 0 0 0 E [.ref (bd_ea E 1 w 0)] xm ym om xm ym om (some (.double (bd_mean (kx_mS xm w nb) (kx_mC xm w nb)))) := by
  refine bd_open RX4 rfl (by decide) (Nat.le_of_ble_eq_true rfl) ?_
  intro p e s m args below meth c ls C hr hlk hS hR hl
  have hx := C.1.1
  have hb := C.1.2.1
  have hs24 := hs.2.1
  have hs6 := hs.2.2.2.1
  have hl : lv_has ls 4 [(0, .ref (bd_ea E 1 w 0))] := hl
  refine lv_iconst (v := 0) hx hb dX4_meanMarks_0 (by decide) ?_
  refine lv_istore_n (lv' := [(1, .int 0), (0, .ref (bd_ea E 1 w 0))]) hx hb dX4_meanMarks_1 rfl hl (by decide) rfl (fun ls hl => ?_)
  refine lv_iconst (v := 0) hx hb dX4_meanMarks_2 (by decide) ?_
  refine lv_istore_n (lv' := [(2, .int 0), (1, .int 0), (0, .ref (bd_ea E 1 w 0))]) hx hb dX4_meanMarks_3 rfl hl (by decide) rfl (fun ls hl => ?_)
  refine lv_iconst (v := 0) hx hb dX4_meanMarks_4 (by decide) ?_
  refine lv_istore_n (lv' := [(3, .int 0), (2, .int 0), (1, .int 0), (0, .ref (bd_ea E 1 w 0))]) hx hb dX4_meanMarks_5 rfl hl (by decide) rfl (fun ls hl => ?_)
  have lp1 : ∀ (t1 j : Nat), j ≤ nb → nb - j < t1 → ∀ (H : Heap) (locs : List Loc), bd_Rep E xm ym om H → va_S (bd_A E) s.heap H locs → ∀ (ls : Array Slot), lv_has ls 4 [(3, .int (nI j)), (2, .int (nI (kx_mC xm w j))), (1, .int (kx_mS xm w j)), (0, .ref (bd_ea E 1 w 0))] → W p l e { frames := 0, cells := 0, slots := 0, locals := 0 } s m args below meth c H locs 0 0 (MQ below (bd_Q E xm ym om (some (.double (bd_mean (kx_mS xm w nb) (kx_mC xm w nb))))) args s 0 0 (bd_A E)) (F0 m 6 ls []) := by
    intro t1
    induction t1 with
    | zero => intro j h1 h2; exact absurd h2 (Nat.not_lt_zero _)
    | succ t1 ih1 =>
      intro j hj1 hj2 H locs hR hS ls hl
      have hmc := kx_mC_le (x := xm) (w := w) j
      refine lv_iload_n hx hb dX4_meanMarks_6 rfl (lv_at hl 0 rfl) ?_
      refine lv_aload_n hx hb dX4_meanMarks_7 rfl (lv_at hl 3 rfl) ?_
      refine bd_g_X4_bandCount C hR (by omega) qf_X4_40 dX4_meanMarks_8 ?_
      rw [show xm 31 w 0 = nI nb from (show kx_Sh xm w n nb z from hs).2.2.1]
      refine lv_icmp_ge (tgt := 48) hx hb dX4_meanMarks_11 (by decide) (fun c11 => ?_) (fun c11 => ?_)
      · skip
        have nc11 : nb ≤ j := (nI_leI (a := nb) (b := j) (by omega) (by omega)).mp c11
        obtain rfl : nb = j := by omega
        refine lv_iload_n hx hb dX4_meanMarks_48 rfl (lv_at hl 1 rfl) ?_
        refine lv_if_ne (tgt := 56) hx hb dX4_meanMarks_49 (by decide) (fun c49 => ?_) (fun c49 => ?_)
        · skip
          have nc49 : ¬ (kx_mC xm w nb) = 0 := fun q9 => c49 ((nI_eq (a := (kx_mC xm w nb)) (b := 0) (by omega) (by omega)).mpr q9)
          refine lv_iload_n hx hb dX4_meanMarks_56 rfl (lv_at hl 2 rfl) ?_
          refine lv_i2d hx hb dX4_meanMarks_57 ?_
          refine lv_iload_n hx hb dX4_meanMarks_58 rfl (lv_at hl 1 rfl) ?_
          refine lv_i2d hx hb dX4_meanMarks_59 ?_
          refine lv_ddiv hx hb dX4_meanMarks_60 (bd_div (by omega) (by omega)) ?_
          exact bd_rd C hr hlk (hR.eq rfl rfl) hS (Nat.zero_le _) (Nat.zero_le _) dX4_meanMarks_61 (by first | rfl | (rw [bd_mean, if_neg nc49]))
        · skip
          have nc49 : (kx_mC xm w nb) = 0 := (nI_eq (a := (kx_mC xm w nb)) (b := 0) (by omega) (by omega)).mp c49
          refine lv_dconst0 hx hb dX4_meanMarks_52 ?_
          refine lv_goto (tgt := 61) hx hb dX4_meanMarks_53 (by decide) ?_
          exact bd_rd C hr hlk (hR.eq rfl rfl) hS (Nat.zero_le _) (Nat.zero_le _) dX4_meanMarks_61 (by first | rfl | (rw [bd_mean, if_pos nc49]))
      · skip
        have nc11 : ¬ nb ≤ j := fun q9 => c11 ((nI_leI (a := nb) (b := j) (by omega) (by omega)).mpr q9)
        refine lv_aload_n hx hb dX4_meanMarks_14 rfl (lv_at hl 3 rfl) ?_
        refine bd_g_X4_bands C hR (by omega) qf_X4_19 dX4_meanMarks_15 ?_
        refine lv_iload_n hx hb dX4_meanMarks_18 rfl (lv_at hl 0 rfl) ?_
        refine bd_ld_4 C hR (by omega) (j := j) (by omega) dX4_meanMarks_19 ?_
        refine bd_g_X0_marks C hR (by omega) (by omega) qf_X4_134 dX4_meanMarks_20 ?_
        refine lv_iconst (v := (-1)) hx hb dX4_meanMarks_23 (by decide) ?_
        refine lv_icmp_eq (tgt := 42) hx hb dX4_meanMarks_24 (by decide) (fun c24 => ?_) (fun c24 => ?_)
        · skip
          refine lv_iinc (v := nI (j + 1)) (lv' := [(3, .int (nI (j + 1))), (2, .int (nI (kx_mC xm w j))), (1, .int (kx_mS xm w j)), (0, .ref (bd_ea E 1 w 0))]) hx hb dX4_meanMarks_42 hl (k := 0) rfl (nI_1 j) (by decide) rfl (fun ls hl => ?_)
          refine lv_goto (tgt := 6) hx hb dX4_meanMarks_45 (by decide) ?_
          exact ih1 (j + 1) (by omega) (by omega) _ _ (hR.eq rfl rfl) hS _ (by rw [show (nI (kx_mC xm w (j + 1)) : Int32) = nI (kx_mC xm w j) from (by first | (simp (config := { decide := true }) only [kx_mS, kx_mC, eq_false c11, eq_false nc11, eq_true c24, ↓reduceIte, not_true_eq_false, not_false_eq_true, and_self, and_true, true_and, and_false, false_and]; done) | rfl)]; rw [show (kx_mS xm w (j + 1) : Int32) = kx_mS xm w j from (by first | (simp (config := { decide := true }) only [kx_mS, kx_mC, eq_false c11, eq_false nc11, eq_true c24, ↓reduceIte, not_true_eq_false, not_false_eq_true, and_self, and_true, true_and, and_false, false_and]; done) | rfl)]; exact lv_sub hl [0, 1, 2, 3] rfl)
        · skip
          refine lv_iload_n hx hb dX4_meanMarks_27 rfl (lv_at hl 2 rfl) ?_
          refine lv_aload_n hx hb dX4_meanMarks_28 rfl (lv_at hl 3 rfl) ?_
          refine bd_g_X4_bands C hR (by omega) qf_X4_19 dX4_meanMarks_29 ?_
          refine lv_iload_n hx hb dX4_meanMarks_32 rfl (lv_at hl 0 rfl) ?_
          refine bd_ld_4 C hR (by omega) (j := j) (by omega) dX4_meanMarks_33 ?_
          refine bd_g_X0_marks C hR (by omega) (by omega) qf_X4_134 dX4_meanMarks_34 ?_
          refine lv_iadd hx hb dX4_meanMarks_37 ?_
          refine lv_istore_n (lv' := [(1, .int ((kx_mS xm w j) + (xm 22 w j))), (3, .int (nI j)), (2, .int (nI (kx_mC xm w j))), (0, .ref (bd_ea E 1 w 0))]) hx hb dX4_meanMarks_38 rfl hl (by decide) rfl (fun ls hl => ?_)
          refine lv_iinc (v := nI ((kx_mC xm w j) + 1)) (lv' := [(2, .int (nI ((kx_mC xm w j) + 1))), (1, .int ((kx_mS xm w j) + (xm 22 w j))), (3, .int (nI j)), (0, .ref (bd_ea E 1 w 0))]) hx hb dX4_meanMarks_39 hl (k := 2) rfl (nI_1 (kx_mC xm w j)) (by decide) rfl (fun ls hl => ?_)
          refine lv_iinc (v := nI (j + 1)) (lv' := [(3, .int (nI (j + 1))), (2, .int (nI ((kx_mC xm w j) + 1))), (1, .int ((kx_mS xm w j) + (xm 22 w j))), (0, .ref (bd_ea E 1 w 0))]) hx hb dX4_meanMarks_42 hl (k := 2) rfl (nI_1 j) (by decide) rfl (fun ls hl => ?_)
          refine lv_goto (tgt := 6) hx hb dX4_meanMarks_45 (by decide) ?_
          exact ih1 (j + 1) (by omega) (by omega) _ _ (hR.eq rfl rfl) hS _ (by rw [show (nI (kx_mC xm w (j + 1)) : Int32) = nI ((kx_mC xm w j) + 1) from (by first | (simp (config := { decide := true }) only [kx_mS, kx_mC, eq_false c11, eq_false nc11, eq_false c24, ↓reduceIte, not_true_eq_false, not_false_eq_true, and_self, and_true, true_and, and_false, false_and]; done) | rfl)]; rw [show (kx_mS xm w (j + 1) : Int32) = (kx_mS xm w j) + (xm 22 w j) from (by first | (simp (config := { decide := true }) only [kx_mS, kx_mC, eq_false c11, eq_false nc11, eq_false c24, ↓reduceIte, not_true_eq_false, not_false_eq_true, and_self, and_true, true_and, and_false, false_and]; done) | rfl)]; exact lv_sub hl [0, 1, 2, 3] rfl)
  exact lp1 (nb + 1) 0 (by omega) (by omega) _ _ (hR.eq rfl rfl) hS _ (by rw [show (nI 0 : Int32) = 0 from by rfl]; rw [show (nI (kx_mC xm w 0) : Int32) = 0 from by rfl]; rw [show (kx_mS xm w 0 : Int32) = 0 from by rfl]; exact lv_sub hl [0, 1, 2, 3] rfl)
set_option maxHeartbeats 4000000 in
set_option maxRecDepth 100000 in
theorem k_X5_mean (l : Launch) (E : bd_E) (xm ym : bd_M) (om : Nat → Int64) (n : Nat) (nb : Nat) (z : (Nat→Nat)) (hs : kx_Sh xm 0 n nb z) : bd_Ct l yX5_mean cX5_mean 1 (some .double) 1 23 0 0 E [.ref (bd_ea E 0 0 0)] xm ym om xm ym om (some (.double (bd_mean (kx_mS xm 0 nb) (kx_mC xm 0 nb)))) := by
  refine bd_open RX5 rfl (by decide) (Nat.le_of_ble_eq_true rfl) ?_
  intro p e s m args below meth c ls C hr hlk hS hR hl
  have hx := C.1.1
  have hb := C.1.2.1
  have hs24 := hs.2.1
  have hs6 := hs.2.2.2.1
  have hl : lv_has ls 1 [(0, .ref (bd_ea E 0 0 0))] := hl
  refine lv_aload_n hx hb dX5_mean_0 rfl (lv_at hl 0 rfl) ?_
  refine bd_g_X5_season C hR  qf_X5_20 dX5_mean_1 ?_
  refine bd_cV1 [] [] C (k_X4_meanMarks l E xm ym om 0 n nb z (by omega) hs) hR hS (bd_recv C.2 hR ⟨by decide, (by decide), (by decide)⟩ rfl rfl) qm_X5_176 qi_X4_meanMarks qs_X4_meanMarks qz_X4 qc_X4_meanMarks qp_X4_meanMarks ⟨Nat.le_of_ble_eq_true rfl, Nat.le_of_ble_eq_true rfl⟩ hl.1 (Nat.le_of_ble_eq_true rfl) dX5_mean_4 ⟨Nat.le_of_ble_eq_true rfl, Nat.le_of_ble_eq_true rfl⟩ (fun H locs hR hS hz4 => ?_)
  exact bd_rd C hr hlk (hR.eq rfl rfl) hS (Nat.zero_le _) (Nat.zero_le _) dX5_mean_7 rfl
set_option maxHeartbeats 4000000 in
set_option maxRecDepth 100000 in
theorem k_X7_mean (l : Launch) (E : bd_E) (xm ym : bd_M) (om : Nat → Int64) (n : Nat) (nb : Nat) (z : (Nat→Nat)) (hy : ry_Sh ym n nb z) : bd_Ct l yX7_mean cX7_mean 4 (some .double) 0 0 0 0 E [.ref (bd_ea E 12 0 0)] xm ym om xm (ry_t0 ym) om (some (.double (bd_mean (ry_mS (ry_t0 ym) nb) (ry_mC (ry_t0 ym) nb)))) := by
  refine bd_open RX7 rfl (by decide) (Nat.le_of_ble_eq_true rfl) ?_
  intro p e s m args below meth c ls C hr hlk hS hR hl
  have hx := C.1.1
  have hb := C.1.2.1
  have hy24 := hy.2.1
  have hy6 := hy.2.2.2.1
  have hl : lv_has ls 4 [(0, .ref (bd_ea E 12 0 0))] := hl
  refine lv_aload_n hx hb dX7_mean_0 rfl (lv_at hl 0 rfl) ?_
  refine lv_iconst (v := 0) hx hb dX7_mean_1 (by decide) ?_
  refine bd_p_X7_thrown C hR hS  qf_X7_37 dX7_mean_2 (fun H locs hR hS => ?_)
  refine lv_iconst (v := 0) hx hb dX7_mean_5 (by decide) ?_
  refine lv_istore_n (lv' := [(1, .int 0), (0, .ref (bd_ea E 12 0 0))]) hx hb dX7_mean_6 rfl hl (by decide) rfl (fun ls hl => ?_)
  refine lv_iconst (v := 0) hx hb dX7_mean_7 (by decide) ?_
  refine lv_istore_n (lv' := [(2, .int 0), (1, .int 0), (0, .ref (bd_ea E 12 0 0))]) hx hb dX7_mean_8 rfl hl (by decide) rfl (fun ls hl => ?_)
  refine lv_iconst (v := 0) hx hb dX7_mean_9 (by decide) ?_
  refine lv_istore_n (lv' := [(3, .int 0), (2, .int 0), (1, .int 0), (0, .ref (bd_ea E 12 0 0))]) hx hb dX7_mean_10 rfl hl (by decide) rfl (fun ls hl => ?_)
  have lp1 : ∀ (t1 j : Nat), j ≤ nb → nb - j < t1 → ∀ (H : Heap) (locs : List Loc), bd_Rep E xm (bd_up ym 0 0 0 0) om H → va_S (bd_A E) s.heap H locs → ∀ (ls : Array Slot), lv_has ls 4 [(3, .int (nI j)), (2, .int (nI (ry_mC (ry_t0 ym) j))), (1, .int (ry_mS (ry_t0 ym) j)), (0, .ref (bd_ea E 12 0 0))] → W p l e { frames := 0, cells := 0, slots := 0, locals := 0 } s m args below meth c H locs 0 0 (MQ below (bd_Q E xm (ry_t0 ym) om (some (.double (bd_mean (ry_mS (ry_t0 ym) nb) (ry_mC (ry_t0 ym) nb))))) args s 0 0 (bd_A E)) (F0 m 11 ls []) := by
    intro t1
    induction t1 with
    | zero => intro j h1 h2; exact absurd h2 (Nat.not_lt_zero _)
    | succ t1 ih1 =>
      intro j hj1 hj2 H locs hR hS ls hl
      have hmc := ry_mC_le (y := ry_t0 ym) j
      refine lv_iload_n hx hb dX7_mean_11 rfl (lv_at hl 0 rfl) ?_
      refine lv_aload_n hx hb dX7_mean_12 rfl (lv_at hl 3 rfl) ?_
      refine bd_g_X7_bands C hR  qf_X7_48 dX7_mean_13 ?_
      rw [show (bd_up ym 0 0 0 0) 2 0 0 = nI nb from (show ry_Sh (bd_up ym 0 0 0 0) n nb z from (ry_Sh_up hy (by decide))).2.2.1]
      refine lv_icmp_ge (tgt := 60) hx hb dX7_mean_16 (by decide) (fun c16 => ?_) (fun c16 => ?_)
      · skip
        have nc16 : nb ≤ j := (nI_leI (a := nb) (b := j) (by omega) (by omega)).mp c16
        obtain rfl : nb = j := by omega
        refine lv_iload_n hx hb dX7_mean_60 rfl (lv_at hl 1 rfl) ?_
        refine lv_if_ne (tgt := 68) hx hb dX7_mean_61 (by decide) (fun c61 => ?_) (fun c61 => ?_)
        · skip
          have nc61 : ¬ (ry_mC (ry_t0 ym) nb) = 0 := fun q9 => c61 ((nI_eq (a := (ry_mC (ry_t0 ym) nb)) (b := 0) (by omega) (by omega)).mpr q9)
          refine lv_iload_n hx hb dX7_mean_68 rfl (lv_at hl 2 rfl) ?_
          refine lv_i2d hx hb dX7_mean_69 ?_
          refine lv_iload_n hx hb dX7_mean_70 rfl (lv_at hl 1 rfl) ?_
          refine lv_i2d hx hb dX7_mean_71 ?_
          refine lv_ddiv hx hb dX7_mean_72 (bd_div (by omega) (by omega)) ?_
          exact bd_rd C hr hlk (hR.eq rfl (by first | rfl | (rfl))) hS (Nat.zero_le _) (Nat.zero_le _) dX7_mean_73 (by first | rfl | (rw [bd_mean, if_neg nc61]))
        · skip
          have nc61 : (ry_mC (ry_t0 ym) nb) = 0 := (nI_eq (a := (ry_mC (ry_t0 ym) nb)) (b := 0) (by omega) (by omega)).mp c61
          refine lv_dconst0 hx hb dX7_mean_64 ?_
          refine lv_goto (tgt := 73) hx hb dX7_mean_65 (by decide) ?_
          exact bd_rd C hr hlk (hR.eq rfl (by first | rfl | (rfl))) hS (Nat.zero_le _) (Nat.zero_le _) dX7_mean_73 (by first | rfl | (rw [bd_mean, if_pos nc61]))
      · skip
        have nc16 : ¬ nb ≤ j := fun q9 => c16 ((nI_leI (a := nb) (b := j) (by omega) (by omega)).mpr q9)
        refine lv_aload_n hx hb dX7_mean_19 rfl (lv_at hl 3 rfl) ?_
        refine bd_g_X7_s C hR  qf_X7_30 dX7_mean_20 ?_
        refine bd_gN_X6_latest C hR (by decide) (List.mem_of_getElem? (i := 10) rfl) dX7_mean_23 ?_
        refine lv_iconst (v := 4) hx hb dX7_mean_26 (by decide) ?_
        refine lv_iload_n hx hb dX7_mean_27 rfl (lv_at hl 0 rfl) ?_
        refine lv_imul hx hb dX7_mean_28 ?_
        refine bd_ti (j := 4 * j) (pk_mul 4 j) ?_
        refine bd_ld_28 C hR (by decide) (j := (4 * j)) (by omega) dX7_mean_29 ?_
        refine lv_iconst (v := (-1)) hx hb dX7_mean_30 (by decide) ?_
        refine lv_icmp_ne (tgt := 37) hx hb dX7_mean_31 (by decide) (fun c31 => ?_) (fun c31 => ?_)
        · skip
          refine lv_iload_n hx hb dX7_mean_37 rfl (lv_at hl 2 rfl) ?_
          refine lv_aload_n hx hb dX7_mean_38 rfl (lv_at hl 3 rfl) ?_
          refine bd_g_X7_s C hR  qf_X7_30 dX7_mean_39 ?_
          refine bd_gN_X6_latest C hR (by decide) (List.mem_of_getElem? (i := 10) rfl) dX7_mean_42 ?_
          refine lv_iconst (v := 4) hx hb dX7_mean_45 (by decide) ?_
          refine lv_iload_n hx hb dX7_mean_46 rfl (lv_at hl 0 rfl) ?_
          refine lv_imul hx hb dX7_mean_47 ?_
          refine bd_ti (j := 4 * j) (pk_mul 4 j) ?_
          refine bd_ld_28 C hR (by decide) (j := (4 * j)) (by omega) dX7_mean_48 ?_
          refine lv_iadd hx hb dX7_mean_49 ?_
          refine lv_istore_n (lv' := [(1, .int ((ry_mS (ry_t0 ym) j) + ((bd_up ym 0 0 0 0) 28 0 (4 * j)))), (3, .int (nI j)), (2, .int (nI (ry_mC (ry_t0 ym) j))), (0, .ref (bd_ea E 12 0 0))]) hx hb dX7_mean_50 rfl hl (by decide) rfl (fun ls hl => ?_)
          refine lv_iinc (v := nI ((ry_mC (ry_t0 ym) j) + 1)) (lv' := [(2, .int (nI ((ry_mC (ry_t0 ym) j) + 1))), (1, .int ((ry_mS (ry_t0 ym) j) + ((bd_up ym 0 0 0 0) 28 0 (4 * j)))), (3, .int (nI j)), (0, .ref (bd_ea E 12 0 0))]) hx hb dX7_mean_51 hl (k := 2) rfl (nI_1 (ry_mC (ry_t0 ym) j)) (by decide) rfl (fun ls hl => ?_)
          refine lv_iinc (v := nI (j + 1)) (lv' := [(3, .int (nI (j + 1))), (2, .int (nI ((ry_mC (ry_t0 ym) j) + 1))), (1, .int ((ry_mS (ry_t0 ym) j) + ((bd_up ym 0 0 0 0) 28 0 (4 * j)))), (0, .ref (bd_ea E 12 0 0))]) hx hb dX7_mean_54 hl (k := 2) rfl (nI_1 j) (by decide) rfl (fun ls hl => ?_)
          refine lv_goto (tgt := 11) hx hb dX7_mean_57 (by decide) ?_
          exact ih1 (j + 1) (by omega) (by omega) _ _ (hR.eq rfl rfl) hS _ (by rw [show (nI (ry_mC (ry_t0 ym) (j + 1)) : Int32) = nI ((ry_mC (ry_t0 ym) j) + 1) from (by first | (simp (config := { decide := true }) only [ry_mS, ry_mC, eq_false c16, eq_false nc16, eq_false c31, ↓reduceIte, not_true_eq_false, not_false_eq_true, and_self, and_true, true_and, and_false, false_and]; done) | rfl)]; rw [show (ry_mS (ry_t0 ym) (j + 1) : Int32) = (ry_mS (ry_t0 ym) j) + ((bd_up ym 0 0 0 0) 28 0 (4 * j)) from (by first | (simp (config := { decide := true }) only [ry_mS, ry_mC, eq_false c16, eq_false nc16, eq_false c31, ↓reduceIte, not_true_eq_false, not_false_eq_true, and_self, and_true, true_and, and_false, false_and]; done) | rfl)]; exact lv_sub hl [0, 1, 2, 3] rfl)
        · skip
          refine lv_goto (tgt := 54) hx hb dX7_mean_34 (by decide) ?_
          refine lv_iinc (v := nI (j + 1)) (lv' := [(3, .int (nI (j + 1))), (2, .int (nI (ry_mC (ry_t0 ym) j))), (1, .int (ry_mS (ry_t0 ym) j)), (0, .ref (bd_ea E 12 0 0))]) hx hb dX7_mean_54 hl (k := 0) rfl (nI_1 j) (by decide) rfl (fun ls hl => ?_)
          refine lv_goto (tgt := 11) hx hb dX7_mean_57 (by decide) ?_
          exact ih1 (j + 1) (by omega) (by omega) _ _ (hR.eq rfl rfl) hS _ (by rw [show (nI (ry_mC (ry_t0 ym) (j + 1)) : Int32) = nI (ry_mC (ry_t0 ym) j) from (by first | (simp (config := { decide := true }) only [ry_mS, ry_mC, eq_false c16, eq_false nc16, eq_true c31, ↓reduceIte, not_true_eq_false, not_false_eq_true, and_self, and_true, true_and, and_false, false_and]; done) | rfl)]; rw [show (ry_mS (ry_t0 ym) (j + 1) : Int32) = ry_mS (ry_t0 ym) j from (by first | (simp (config := { decide := true }) only [ry_mS, ry_mC, eq_false c16, eq_false nc16, eq_true c31, ↓reduceIte, not_true_eq_false, not_false_eq_true, and_self, and_true, true_and, and_false, false_and]; done) | rfl)]; exact lv_sub hl [0, 1, 2, 3] rfl)
  exact lp1 (nb + 1) 0 (by omega) (by omega) _ _ (hR.eq rfl rfl) hS _ (by rw [show (nI 0 : Int32) = 0 from by rfl]; rw [show (nI (ry_mC (ry_t0 ym) 0) : Int32) = 0 from by rfl]; rw [show (ry_mS (ry_t0 ym) 0 : Int32) = 0 from by rfl]; exact lv_sub hl [0, 1, 2, 3] rfl)
