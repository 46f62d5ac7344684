/-! THE REFERENCE'S METHODS, further -/
set_option maxHeartbeats 4000000 in
set_option maxRecDepth 100000 in
theorem k_X7_swap (l : Launch) (E : bd_E) (xm ym : bd_M) (om : Nat → Int64) (w : Nat) (a : Nat) (b : Nat) (hw : w < 2) (ha : a < 48) (hb8 : b < 48) : bd_Ct l yX7_swap cX7_swap 4 none 0 0 0 0 E [.ref (bd_ea E 18 w 0), .int (nI a), .int (nI b)] xm ym om xm (ry_sw ym w a b) om (none) := by
  refine bd_open RX7 rfl (by decide) (Nat.le_of_ble_eq_true rfl) ?_
  intro p e s m args below meth c ls C hr hlk hS hR hl
  have hx := C.1.1
  have hb := C.1.2.1
  have hl : lv_has ls 4 [(0, .ref (bd_ea E 18 w 0)), (1, .int (nI a)), (2, .int (nI b))] := hl
  refine lv_aload_n hx hb dX7_swap_0 rfl (lv_at hl 0 rfl) ?_
  refine bd_gN_X6_member C hR (by omega) (List.mem_of_getElem? (i := 8) rfl) dX7_swap_1 ?_
  refine lv_iload_n hx hb dX7_swap_4 rfl (lv_at hl 1 rfl) ?_
  refine bd_ld_23 C hR (by omega) (j := a) (by omega) dX7_swap_5 ?_
  refine lv_istore_n (lv' := [(3, .int (ym 23 w a)), (0, .ref (bd_ea E 18 w 0)), (1, .int (nI a)), (2, .int (nI b))]) hx hb dX7_swap_6 rfl hl (by decide) rfl (fun ls hl => ?_)
  refine lv_aload_n hx hb dX7_swap_7 rfl (lv_at hl 1 rfl) ?_
  refine bd_gN_X6_member C hR (by omega) (List.mem_of_getElem? (i := 8) rfl) dX7_swap_8 ?_
  refine lv_iload_n hx hb dX7_swap_11 rfl (lv_at hl 2 rfl) ?_
  refine lv_aload_n hx hb dX7_swap_12 rfl (lv_at hl 1 rfl) ?_
  refine bd_gN_X6_member C hR (by omega) (List.mem_of_getElem? (i := 8) rfl) dX7_swap_13 ?_
  refine lv_iload_n hx hb dX7_swap_16 rfl (lv_at hl 3 rfl) ?_
  refine bd_ld_23 C hR (by omega) (j := b) (by omega) dX7_swap_17 ?_
  refine bd_st_23 C hR hS (by omega) (j := a) (by omega) dX7_swap_18 (fun H locs hR hS => ?_)
  refine lv_aload_n hx hb dX7_swap_19 rfl (lv_at hl 1 rfl) ?_
  refine bd_gN_X6_member C hR (by omega) (List.mem_of_getElem? (i := 8) rfl) dX7_swap_20 ?_
  refine lv_iload_n hx hb dX7_swap_23 rfl (lv_at hl 3 rfl) ?_
  refine lv_iload_n hx hb dX7_swap_24 rfl (lv_at hl 0 rfl) ?_
  refine bd_st_23 C hR hS (by omega) (j := b) (by omega) dX7_swap_25 (fun H locs hR hS => ?_)
  exact bd_rv C hr hlk (hR.eq rfl (by first | rfl | (rw [ry_sw]; rfl))) hS (Nat.zero_le _) (Nat.zero_le _) dX7_swap_26
set_option maxHeartbeats 4000000 in
set_option maxRecDepth 100000 in
theorem k_X7_change_ok (l : Launch) (E : bd_E) (xm ym : bd_M) (om : Nat → Int64) (n : Nat) (nb : Nat) (z : (Nat→Nat)) (b : Nat) (q : Nat) (t : Nat) (hy : ry_Sh ym n nb z) (hb : b < nb) (hq : q < z b) (ht : t < z b) : bd_Ct l yX7_change cX7_change 4 (some .int) 3 65 0 0 E [.ref (bd_ea E 12 0 0), .int (nI b), .int (nI q), .int (nI t)] xm ym om xm (ry_sw (ry_t0 ym) 0 (8 * b + q) (8 * b + t)) om (some (.int (ry_sw (ry_t0 ym) 0 (8 * b + q) (8 * b + t) 23 0 (8 * b + q)))) := by
  refine bd_open RX7 rfl (by decide) (Nat.le_of_ble_eq_true rfl) ?_
  intro p e s m args below meth c ls C hr hlk hS hR hl
  have hx := C.1.1
  have hb := C.1.2.1
  have hy24 := hy.2.1
  have hy6 := hy.2.2.2.1
  have z8 := (hy.2.2.2.2.1 b (by omega)).2
  have kq := bd_kS (z := z) (by omega : b < nb) hy6 hq z8
  have kt := bd_kS (z := z) (by omega : b < nb) hy6 ht z8
  have hl : lv_has ls 4 [(0, .ref (bd_ea E 12 0 0)), (1, .int (nI b)), (2, .int (nI q)), (3, .int (nI t))] := hl
  refine lv_aload_n hx hb dX7_change_0 rfl (lv_at hl 0 rfl) ?_
  refine lv_iconst (v := 0) hx hb dX7_change_1 (by decide) ?_
  refine bd_p_X7_thrown C hR hS  qf_X7_37 dX7_change_2 (fun H locs hR hS => ?_)
  refine lv_aload_n hx hb dX7_change_5 rfl (lv_at hl 0 rfl) ?_
  refine lv_iload_n hx hb dX7_change_6 rfl (lv_at hl 1 rfl) ?_
  refine lv_iload_n hx hb dX7_change_7 rfl (lv_at hl 2 rfl) ?_
  refine bd_cV1 [.int (nI b), .int (nI q)] [] C (k_X7_isSeat l E xm (bd_up ym 0 0 0 0) om n nb z (nI b) (nI q) (ry_Sh_up hy (by decide))) hR hS (bd_recv C.2 hR ⟨by decide, (by decide), (by decide)⟩ rfl rfl) qm_X7_75 qi_X7_isSeat qs_X7_isSeat qz_X7 qc_X7_isSeat qp_X7_isSeat ⟨Nat.le_of_ble_eq_true rfl, Nat.le_of_ble_eq_true rfl⟩ hl.1 (Nat.le_of_ble_eq_true rfl) dX7_change_8 ⟨Nat.le_of_ble_eq_true rfl, Nat.le_of_ble_eq_true rfl⟩ (fun H locs hR hS hz8 => ?_)
  refine bd_ifeq (P := (¬ (nI b) < 0 ∧ (nI b) < nI nb) ∧ ¬ (nI q) < 0 ∧ (nI q) < nI (z (nI b).toNatClampNeg)) (tgt := 23) C dX7_change_11 (by decide) (fun q9 => absurd kq q9) (fun q9 => ?_)
  refine lv_aload_n hx hb dX7_change_14 rfl (lv_at hl 0 rfl) ?_
  refine lv_iload_n hx hb dX7_change_15 rfl (lv_at hl 1 rfl) ?_
  refine lv_iload_n hx hb dX7_change_16 rfl (lv_at hl 3 rfl) ?_
  refine bd_cV1 [.int (nI b), .int (nI t)] [] C (k_X7_isSeat l E xm (bd_up ym 0 0 0 0) om n nb z (nI b) (nI t) (ry_Sh_up hy (by decide))) hR hS (bd_recv C.2 hR ⟨by decide, (by decide), (by decide)⟩ rfl rfl) qm_X7_75 qi_X7_isSeat qs_X7_isSeat qz_X7 qc_X7_isSeat qp_X7_isSeat ⟨Nat.le_of_ble_eq_true rfl, Nat.le_of_ble_eq_true rfl⟩ hl.1 (Nat.le_of_ble_eq_true rfl) dX7_change_17 ⟨Nat.le_of_ble_eq_true rfl, Nat.le_of_ble_eq_true rfl⟩ (fun H locs hR hS hz17 => ?_)
  refine bd_ifne (P := (¬ (nI b) < 0 ∧ (nI b) < nI nb) ∧ ¬ (nI t) < 0 ∧ (nI t) < nI (z (nI b).toNatClampNeg)) (tgt := 29) C dX7_change_20 (by decide) (fun q9 => ?_) (fun q9 => absurd kt q9)
  refine lv_aload_n hx hb dX7_change_29 rfl (lv_at hl 0 rfl) ?_
  refine bd_g_X7_s C hR  qf_X7_30 dX7_change_30 ?_
  refine lv_bipush (v := 8) hx hb dX7_change_33 (by decide) ?_
  refine lv_iload_n hx hb dX7_change_35 rfl (lv_at hl 1 rfl) ?_
  refine lv_imul hx hb dX7_change_36 ?_
  refine bd_ti (j := 8 * b) (pk_mul 8 b) ?_
  refine lv_iload_n hx hb dX7_change_37 rfl (lv_at hl 2 rfl) ?_
  refine lv_iadd hx hb dX7_change_38 ?_
  refine bd_ti (j := (8 * b) + q) (nI_add (8 * b) q) ?_
  refine lv_bipush (v := 8) hx hb dX7_change_39 (by decide) ?_
  refine lv_iload_n hx hb dX7_change_41 rfl (lv_at hl 1 rfl) ?_
  refine lv_imul hx hb dX7_change_42 ?_
  refine bd_ti (j := 8 * b) (pk_mul 8 b) ?_
  refine lv_iload_n hx hb dX7_change_43 rfl (lv_at hl 3 rfl) ?_
  refine lv_iadd hx hb dX7_change_44 ?_
  refine bd_ti (j := (8 * b) + t) (nI_add (8 * b) t) ?_
  refine bd_cS0 [.ref (bd_ea E 18 0 0), .int (nI ((8 * b) + q)), .int (nI ((8 * b) + t))] [] C (k_X7_swap l E xm (bd_up ym 0 0 0 0) om 0 (8 * b + q) (8 * b + t) (by omega) (by omega) (by omega)) hR hS qm_X7_85 qt_X7_swap qz_X7 qc_X7_swap qp_X7_swap.2 ⟨Nat.le_of_ble_eq_true rfl, Nat.le_of_ble_eq_true rfl⟩ hl.1 (Nat.le_of_ble_eq_true rfl) dX7_change_45 ⟨Nat.le_of_ble_eq_true rfl, Nat.le_of_ble_eq_true rfl⟩ (fun H locs hR hS hz45 => ?_)
  refine lv_aload_n hx hb dX7_change_48 rfl (lv_at hl 0 rfl) ?_
  refine bd_g_X7_s C hR  qf_X7_30 dX7_change_49 ?_
  refine bd_gN_X6_member C hR (by decide) (List.mem_of_getElem? (i := 8) rfl) dX7_change_52 ?_
  refine lv_bipush (v := 8) hx hb dX7_change_55 (by decide) ?_
  refine lv_iload_n hx hb dX7_change_57 rfl (lv_at hl 1 rfl) ?_
  refine lv_imul hx hb dX7_change_58 ?_
  refine bd_ti (j := 8 * b) (pk_mul 8 b) ?_
  refine lv_iload_n hx hb dX7_change_59 rfl (lv_at hl 2 rfl) ?_
  refine lv_iadd hx hb dX7_change_60 ?_
  refine bd_ti (j := (8 * b) + q) (nI_add (8 * b) q) ?_
  refine bd_ld_23 C hR (by decide) (j := ((8 * b) + q)) (by omega) dX7_change_61 ?_
  exact bd_ri C hr hlk (hR.eq rfl (by first | (simp (config := { decide := true }) only [↓reduceIte, not_true_eq_false, not_false_eq_true, and_self, and_true, true_and, and_false, false_and]; done) | rfl)) hS (Nat.zero_le _) (Nat.zero_le _) dX7_change_62 (by first | (simp (config := { decide := true }) only [↓reduceIte, not_true_eq_false, not_false_eq_true, and_self, and_true, true_and, and_false, false_and]; done) | rfl)
set_option maxHeartbeats 4000000 in
set_option maxRecDepth 100000 in
theorem k_X7_change_1 (l : Launch) (E : bd_E) (xm ym : bd_M) (om : Nat → Int64) (n : Nat) (nb : Nat) (z : (Nat→Nat)) (u : Int32) (v : Int32) (g : Int32) (hy : ry_Sh ym n nb z) (h1 : ¬ (((¬ u < 0 ∧ u < nI nb) ∧ ¬ v < 0 ∧ v < nI (z u.toNatClampNeg)) ∧ ((¬ u < 0 ∧ u < nI nb) ∧ ¬ g < 0 ∧ g < nI (z u.toNatClampNeg)))) : bd_Ct l yX7_change cX7_change 4 (some .int) 3 65 0 0 E [.ref (bd_ea E 12 0 0), .int u, .int v, .int g] xm ym om xm (bd_up (ry_t0 ym) 0 0 0 1) om (some (.int 0)) := by
  refine bd_open RX7 rfl (by decide) (Nat.le_of_ble_eq_true rfl) ?_
  intro p e s m args below meth c ls C hr hlk hS hR hl
  have hx := C.1.1
  have hb := C.1.2.1
  have hy24 := hy.2.1
  have hy6 := hy.2.2.2.1
  have hl : lv_has ls 4 [(0, .ref (bd_ea E 12 0 0)), (1, .int u), (2, .int v), (3, .int g)] := hl
  refine lv_aload_n hx hb dX7_change_0 rfl (lv_at hl 0 rfl) ?_
  refine lv_iconst (v := 0) hx hb dX7_change_1 (by decide) ?_
  refine bd_p_X7_thrown C hR hS  qf_X7_37 dX7_change_2 (fun H locs hR hS => ?_)
  refine lv_aload_n hx hb dX7_change_5 rfl (lv_at hl 0 rfl) ?_
  refine lv_iload_n hx hb dX7_change_6 rfl (lv_at hl 1 rfl) ?_
  refine lv_iload_n hx hb dX7_change_7 rfl (lv_at hl 2 rfl) ?_
  refine bd_cV1 [.int u, .int v] [] C (k_X7_isSeat l E xm (bd_up ym 0 0 0 0) om n nb z u v (ry_Sh_up hy (by decide))) hR hS (bd_recv C.2 hR ⟨by decide, (by decide), (by decide)⟩ rfl rfl) qm_X7_75 qi_X7_isSeat qs_X7_isSeat qz_X7 qc_X7_isSeat qp_X7_isSeat ⟨Nat.le_of_ble_eq_true rfl, Nat.le_of_ble_eq_true rfl⟩ hl.1 (Nat.le_of_ble_eq_true rfl) dX7_change_8 ⟨Nat.le_of_ble_eq_true rfl, Nat.le_of_ble_eq_true rfl⟩ (fun H locs hR hS hz8 => ?_)
  refine bd_ifeq (P := (¬ u < 0 ∧ u < nI nb) ∧ ¬ v < 0 ∧ v < nI (z u.toNatClampNeg)) (tgt := 23) C dX7_change_11 (by decide) (fun c11 => ?_) (fun c11 => ?_)
  · skip
    refine lv_aload_n hx hb dX7_change_23 rfl (lv_at hl 0 rfl) ?_
    refine lv_iconst (v := 1) hx hb dX7_change_24 (by decide) ?_
    refine bd_cV1 [.int 1] [] C (k_X7_no l E xm (bd_up ym 0 0 0 0) om 1 ) hR hS (bd_recv C.2 hR ⟨by decide, (by decide), (by decide)⟩ rfl rfl) qm_X7_55 qi_X7_no qs_X7_no qz_X7 qc_X7_no qp_X7_no ⟨Nat.le_of_ble_eq_true rfl, Nat.le_of_ble_eq_true rfl⟩ hl.1 (Nat.le_of_ble_eq_true rfl) dX7_change_25 ⟨Nat.le_of_ble_eq_true rfl, Nat.le_of_ble_eq_true rfl⟩ (fun H locs hR hS hz25 => ?_)
    exact bd_ri C hr hlk (hR.eq rfl (by first | (simp (config := { decide := true }) only [eq_false c11, ↓reduceIte, not_true_eq_false, not_false_eq_true, and_self, and_true, true_and, and_false, false_and]; done) | rfl)) hS (Nat.zero_le _) (Nat.zero_le _) dX7_change_28 rfl
  · skip
    refine lv_aload_n hx hb dX7_change_14 rfl (lv_at hl 0 rfl) ?_
    refine lv_iload_n hx hb dX7_change_15 rfl (lv_at hl 1 rfl) ?_
    refine lv_iload_n hx hb dX7_change_16 rfl (lv_at hl 3 rfl) ?_
    refine bd_cV1 [.int u, .int g] [] C (k_X7_isSeat l E xm (bd_up ym 0 0 0 0) om n nb z u g (ry_Sh_up hy (by decide))) hR hS (bd_recv C.2 hR ⟨by decide, (by decide), (by decide)⟩ rfl rfl) qm_X7_75 qi_X7_isSeat qs_X7_isSeat qz_X7 qc_X7_isSeat qp_X7_isSeat ⟨Nat.le_of_ble_eq_true rfl, Nat.le_of_ble_eq_true rfl⟩ hl.1 (Nat.le_of_ble_eq_true rfl) dX7_change_17 ⟨Nat.le_of_ble_eq_true rfl, Nat.le_of_ble_eq_true rfl⟩ (fun H locs hR hS hz17 => ?_)
    refine bd_ifne (P := (¬ u < 0 ∧ u < nI nb) ∧ ¬ g < 0 ∧ g < nI (z u.toNatClampNeg)) (tgt := 29) C dX7_change_20 (by decide) (fun c20 => ?_) (fun c20 => ?_)
    · exact absurd ⟨c11, c20⟩ h1
    · skip
      refine lv_aload_n hx hb dX7_change_23 rfl (lv_at hl 0 rfl) ?_
      refine lv_iconst (v := 1) hx hb dX7_change_24 (by decide) ?_
      refine bd_cV1 [.int 1] [] C (k_X7_no l E xm (bd_up ym 0 0 0 0) om 1 ) hR hS (bd_recv C.2 hR ⟨by decide, (by decide), (by decide)⟩ rfl rfl) qm_X7_55 qi_X7_no qs_X7_no qz_X7 qc_X7_no qp_X7_no ⟨Nat.le_of_ble_eq_true rfl, Nat.le_of_ble_eq_true rfl⟩ hl.1 (Nat.le_of_ble_eq_true rfl) dX7_change_25 ⟨Nat.le_of_ble_eq_true rfl, Nat.le_of_ble_eq_true rfl⟩ (fun H locs hR hS hz25 => ?_)
      exact bd_ri C hr hlk (hR.eq rfl (by first | (simp (config := { decide := true }) only [eq_true c11, eq_false c20, ↓reduceIte, not_true_eq_false, not_false_eq_true, and_self, and_true, true_and, and_false, false_and]; done) | rfl)) hS (Nat.zero_le _) (Nat.zero_le _) dX7_change_28 rfl
set_option maxHeartbeats 4000000 in
set_option maxRecDepth 100000 in
theorem k_X7_seat_ok (l : Launch) (E : bd_E) (xm ym : bd_M) (om : Nat → Int64) (n : Nat) (nb : Nat) (z : (Nat→Nat)) (b : Nat) (q : Nat) (v : Int32) (hy : ry_Sh ym n nb z) (hb : b < nb) (hq : q < z b) (hv : v = (-1) ∨ (¬ v < 0 ∧ v < nI n)) (h2 : v = (-1) ∨ ym 23 0 (8 * b + q) = (-1) ∨ ym 23 0 (8 * b + q) = v) : bd_Ct l yX7_seat cX7_seat 7 (some .int) 3 65 0 0 E [.ref (bd_ea E 12 0 0), .int (nI b), .int (nI q), .int v] xm ym om xm (ry_seat (ry_t0 ym) nb z (8 * b + q) v) om (some (.int (ry_t0 ym 23 0 (8 * b + q)))) := by
  refine bd_open RX7 rfl (by decide) (Nat.le_of_ble_eq_true rfl) ?_
  intro p e s m args below meth c ls C hr hlk hS hR hl
  have hx := C.1.1
  have hb := C.1.2.1
  have hy24 := hy.2.1
  have hy6 := hy.2.2.2.1
  have z8 := (hy.2.2.2.2.1 b (by omega)).2
  have kq := bd_kS (z := z) (by omega : b < nb) hy6 hq z8
  have hl : lv_has ls 7 [(0, .ref (bd_ea E 12 0 0)), (1, .int (nI b)), (2, .int (nI q)), (3, .int v)] := hl
  refine lv_aload_n hx hb dX7_seat_0 rfl (lv_at hl 0 rfl) ?_
  refine lv_iconst (v := 0) hx hb dX7_seat_1 (by decide) ?_
  refine bd_p_X7_thrown C hR hS  qf_X7_37 dX7_seat_2 (fun H locs hR hS => ?_)
  refine lv_aload_n hx hb dX7_seat_5 rfl (lv_at hl 0 rfl) ?_
  refine lv_iload_n hx hb dX7_seat_6 rfl (lv_at hl 1 rfl) ?_
  refine lv_iload_n hx hb dX7_seat_7 rfl (lv_at hl 2 rfl) ?_
  refine bd_cV1 [.int (nI b), .int (nI q)] [] C (k_X7_isSeat l E xm (bd_up ym 0 0 0 0) om n nb z (nI b) (nI q) (ry_Sh_up hy (by decide))) hR hS (bd_recv C.2 hR ⟨by decide, (by decide), (by decide)⟩ rfl rfl) qm_X7_75 qi_X7_isSeat qs_X7_isSeat qz_X7 qc_X7_isSeat qp_X7_isSeat ⟨Nat.le_of_ble_eq_true rfl, Nat.le_of_ble_eq_true rfl⟩ hl.1 (Nat.le_of_ble_eq_true rfl) dX7_seat_8 ⟨Nat.le_of_ble_eq_true rfl, Nat.le_of_ble_eq_true rfl⟩ (fun H locs hR hS hz8 => ?_)
  refine bd_ifeq (P := (¬ (nI b) < 0 ∧ (nI b) < nI nb) ∧ ¬ (nI q) < 0 ∧ (nI q) < nI (z (nI b).toNatClampNeg)) (tgt := 27) C dX7_seat_11 (by decide) (fun q9 => absurd kq q9) (fun q9 => ?_)
  refine lv_iload_n hx hb dX7_seat_14 rfl (lv_at hl 3 rfl) ?_
  refine lv_iconst (v := (-1)) hx hb dX7_seat_15 (by decide) ?_
  refine lv_icmp_eq (tgt := 33) hx hb dX7_seat_16 (by decide) (fun c16 => ?_) (fun c16 => ?_)
  · skip
    refine lv_bipush (v := 8) hx hb dX7_seat_33 (by decide) ?_
    refine lv_iload_n hx hb dX7_seat_35 rfl (lv_at hl 1 rfl) ?_
    refine lv_imul hx hb dX7_seat_36 ?_
    refine bd_ti (j := 8 * b) (pk_mul 8 b) ?_
    refine lv_iload_n hx hb dX7_seat_37 rfl (lv_at hl 2 rfl) ?_
    refine lv_iadd hx hb dX7_seat_38 ?_
    refine bd_ti (j := (8 * b) + q) (nI_add (8 * b) q) ?_
    refine lv_istore (lv' := [(4, .int (nI ((8 * b) + q))), (0, .ref (bd_ea E 12 0 0)), (1, .int (nI b)), (2, .int (nI q)), (3, .int v)]) hx hb dX7_seat_39 hl (by decide) rfl (fun ls hl => ?_)
    refine lv_aload_n hx hb dX7_seat_41 rfl (lv_at hl 1 rfl) ?_
    refine bd_g_X7_s C hR  qf_X7_30 dX7_seat_42 ?_
    refine bd_gN_X6_member C hR (by decide) (List.mem_of_getElem? (i := 8) rfl) dX7_seat_45 ?_
    refine lv_iload hx hb dX7_seat_48 (lv_at hl 0 rfl) ?_
    refine bd_ld_23 C hR (by decide) (j := ((8 * b) + q)) (by omega) dX7_seat_50 ?_
    refine lv_istore (lv' := [(5, .int ((bd_up ym 0 0 0 0) 23 0 ((8 * b) + q))), (4, .int (nI ((8 * b) + q))), (0, .ref (bd_ea E 12 0 0)), (1, .int (nI b)), (2, .int (nI q)), (3, .int v)]) hx hb dX7_seat_51 hl (by decide) rfl (fun ls hl => ?_)
    refine lv_iload_n hx hb dX7_seat_53 rfl (lv_at hl 5 rfl) ?_
    refine lv_iconst (v := (-1)) hx hb dX7_seat_54 (by decide) ?_
    refine lv_icmp_eq (tgt := 76) hx hb dX7_seat_55 (by decide) (fun _ => ?_) (fun q9 => absurd c16 q9)
    refine lv_iload_n hx hb dX7_seat_76 rfl (lv_at hl 5 rfl) ?_
    refine lv_iconst (v := (-1)) hx hb dX7_seat_77 (by decide) ?_
    refine lv_icmp_ne (tgt := 85) hx hb dX7_seat_78 (by decide) (fun q9 => absurd c16 q9) (fun _ => ?_)
    refine lv_iconst (v := (-1)) hx hb dX7_seat_81 (by decide) ?_
    refine lv_goto (tgt := 93) hx hb dX7_seat_82 (by decide) ?_
    refine lv_istore (lv' := [(6, .int (-1)), (5, .int ((bd_up ym 0 0 0 0) 23 0 ((8 * b) + q))), (4, .int (nI ((8 * b) + q))), (0, .ref (bd_ea E 12 0 0)), (1, .int (nI b)), (2, .int (nI q)), (3, .int v)]) hx hb dX7_seat_93 hl (by decide) rfl (fun ls hl => ?_)
    refine lv_iload hx hb dX7_seat_95 (lv_at hl 0 rfl) ?_
    refine lv_iconst (v := (-1)) hx hb dX7_seat_97 (by decide) ?_
    refine lv_icmp_eq (tgt := 112) hx hb dX7_seat_98 (by decide) (fun _ => ?_) (fun q9 => absurd rfl q9)
    refine lv_aload_n hx hb dX7_seat_112 rfl (lv_at hl 3 rfl) ?_
    refine bd_g_X7_s C hR  qf_X7_30 dX7_seat_113 ?_
    refine bd_gN_X6_member C hR (by decide) (List.mem_of_getElem? (i := 8) rfl) dX7_seat_116 ?_
    refine lv_iload hx hb dX7_seat_119 (lv_at hl 2 rfl) ?_
    refine lv_iload_n hx hb dX7_seat_121 rfl (lv_at hl 6 rfl) ?_
    refine bd_st_23 C hR hS (by decide) (j := ((8 * b) + q)) (by omega) dX7_seat_122 (fun H locs hR hS => ?_)
    refine lv_iload hx hb dX7_seat_123 (lv_at hl 1 rfl) ?_
    exact bd_ri C hr hlk (hR.eq rfl (by first | (simp (config := { decide := true }) only [ry_seat, ry_s1, ry_ol, eq_true c16, ↓reduceIte, not_true_eq_false, not_false_eq_true, and_self, and_true, true_and, and_false, false_and]; done) | rfl)) hS (Nat.zero_le _) (Nat.zero_le _) dX7_seat_125 (by first | (simp (config := { decide := true }) only [ry_seat, ry_s1, ry_ol, eq_true c16, ↓reduceIte, not_true_eq_false, not_false_eq_true, and_self, and_true, true_and, and_false, false_and]; done) | rfl)
  · skip
    refine lv_aload_n hx hb dX7_seat_19 rfl (lv_at hl 0 rfl) ?_
    refine lv_iload_n hx hb dX7_seat_20 rfl (lv_at hl 3 rfl) ?_
    refine bd_cV1 [.int v] [] C (k_X7_isPlayer l E xm (bd_up ym 0 0 0 0) om n nb z v (ry_Sh_up hy (by decide))) hR hS (bd_recv C.2 hR ⟨by decide, (by decide), (by decide)⟩ rfl rfl) qm_X7_79 qi_X7_isPlayer qs_X7_isPlayer qz_X7 qc_X7_isPlayer qp_X7_isPlayer ⟨Nat.le_of_ble_eq_true rfl, Nat.le_of_ble_eq_true rfl⟩ hl.1 (Nat.le_of_ble_eq_true rfl) dX7_seat_21 ⟨Nat.le_of_ble_eq_true rfl, Nat.le_of_ble_eq_true rfl⟩ (fun H locs hR hS hz21 => ?_)
    refine bd_ifne (P := ¬ v < 0 ∧ v < nI n) (tgt := 33) C dX7_seat_24 (by decide) (fun c24 => ?_) (fun c24 => ?_)
    · skip
      refine lv_bipush (v := 8) hx hb dX7_seat_33 (by decide) ?_
      refine lv_iload_n hx hb dX7_seat_35 rfl (lv_at hl 1 rfl) ?_
      refine lv_imul hx hb dX7_seat_36 ?_
      refine bd_ti (j := 8 * b) (pk_mul 8 b) ?_
      refine lv_iload_n hx hb dX7_seat_37 rfl (lv_at hl 2 rfl) ?_
      refine lv_iadd hx hb dX7_seat_38 ?_
      refine bd_ti (j := (8 * b) + q) (nI_add (8 * b) q) ?_
      refine lv_istore (lv' := [(4, .int (nI ((8 * b) + q))), (0, .ref (bd_ea E 12 0 0)), (1, .int (nI b)), (2, .int (nI q)), (3, .int v)]) hx hb dX7_seat_39 hl (by decide) rfl (fun ls hl => ?_)
      refine lv_aload_n hx hb dX7_seat_41 rfl (lv_at hl 1 rfl) ?_
      refine bd_g_X7_s C hR  qf_X7_30 dX7_seat_42 ?_
      refine bd_gN_X6_member C hR (by decide) (List.mem_of_getElem? (i := 8) rfl) dX7_seat_45 ?_
      refine lv_iload hx hb dX7_seat_48 (lv_at hl 0 rfl) ?_
      refine bd_ld_23 C hR (by decide) (j := ((8 * b) + q)) (by omega) dX7_seat_50 ?_
      refine lv_istore (lv' := [(5, .int ((bd_up ym 0 0 0 0) 23 0 ((8 * b) + q))), (4, .int (nI ((8 * b) + q))), (0, .ref (bd_ea E 12 0 0)), (1, .int (nI b)), (2, .int (nI q)), (3, .int v)]) hx hb dX7_seat_51 hl (by decide) rfl (fun ls hl => ?_)
      refine lv_iload_n hx hb dX7_seat_53 rfl (lv_at hl 5 rfl) ?_
      refine lv_iconst (v := (-1)) hx hb dX7_seat_54 (by decide) ?_
      refine lv_icmp_eq (tgt := 76) hx hb dX7_seat_55 (by decide) (fun q9 => absurd q9 c16) (fun _ => ?_)
      refine lv_iload hx hb dX7_seat_58 (lv_at hl 0 rfl) ?_
      refine lv_iconst (v := (-1)) hx hb dX7_seat_60 (by decide) ?_
      refine lv_icmp_eq (tgt := 76) hx hb dX7_seat_61 (by decide) (fun c61 => ?_) (fun c61 => ?_)
      · skip
        refine lv_iload_n hx hb dX7_seat_76 rfl (lv_at hl 5 rfl) ?_
        refine lv_iconst (v := (-1)) hx hb dX7_seat_77 (by decide) ?_
        refine lv_icmp_ne (tgt := 85) hx hb dX7_seat_78 (by decide) (fun _ => ?_) (fun q9 => absurd q9 c16)
        refine lv_aload_n hx hb dX7_seat_85 rfl (lv_at hl 2 rfl) ?_
        refine bd_g_X7_s C hR  qf_X7_30 dX7_seat_86 ?_
        refine lv_iload_n hx hb dX7_seat_89 rfl (lv_at hl 5 rfl) ?_
        refine bd_cV1 [.int v] [] C (k_X6_seatOf l E xm (bd_up ym 0 0 0 0) om 0 n nb z v (by omega) (ry_Sh_up hy (by decide))) hR hS (bd_recv C.2 hR ⟨by decide, (by decide), (by decide)⟩ rfl rfl) qm_X7_82 qi_X6_seatOf qs_X6_seatOf qz_X6 qc_X6_seatOf qp_X6_seatOf ⟨Nat.le_of_ble_eq_true rfl, Nat.le_of_ble_eq_true rfl⟩ hl.1 (Nat.le_of_ble_eq_true rfl) dX7_seat_90 ⟨Nat.le_of_ble_eq_true rfl, Nat.le_of_ble_eq_true rfl⟩ (fun H locs hR hS hz90 => ?_)
        refine lv_istore (lv' := [(6, .int (ry_so (bd_up ym 0 0 0 0) 0 nb z v 48 0)), (5, .int ((bd_up ym 0 0 0 0) 23 0 ((8 * b) + q))), (4, .int (nI ((8 * b) + q))), (0, .ref (bd_ea E 12 0 0)), (1, .int (nI b)), (2, .int (nI q)), (3, .int v)]) hx hb dX7_seat_93 hl (by decide) rfl (fun ls hl => ?_)
        refine lv_iload hx hb dX7_seat_95 (lv_at hl 0 rfl) ?_
        refine lv_iconst (v := (-1)) hx hb dX7_seat_97 (by decide) ?_
        refine lv_icmp_eq (tgt := 112) hx hb dX7_seat_98 (by decide) (fun c98 => ?_) (fun c98 => ?_)
        · skip
          refine lv_aload_n hx hb dX7_seat_112 rfl (lv_at hl 3 rfl) ?_
          refine bd_g_X7_s C hR  qf_X7_30 dX7_seat_113 ?_
          refine bd_gN_X6_member C hR (by decide) (List.mem_of_getElem? (i := 8) rfl) dX7_seat_116 ?_
          refine lv_iload hx hb dX7_seat_119 (lv_at hl 2 rfl) ?_
          refine lv_iload_n hx hb dX7_seat_121 rfl (lv_at hl 6 rfl) ?_
          refine bd_st_23 C hR hS (by decide) (j := ((8 * b) + q)) (by omega) dX7_seat_122 (fun H locs hR hS => ?_)
          refine lv_iload hx hb dX7_seat_123 (lv_at hl 1 rfl) ?_
          exact bd_ri C hr hlk (hR.eq rfl (by first | (simp (config := { decide := true }) only [ry_seat, ry_s1, ry_ol, eq_false c16, eq_true c24, eq_true c61, eq_true c98, ↓reduceIte, not_true_eq_false, not_false_eq_true, and_self, and_true, true_and, and_false, false_and]; done) | rfl)) hS (Nat.zero_le _) (Nat.zero_le _) dX7_seat_125 (by first | (simp (config := { decide := true }) only [ry_seat, ry_s1, ry_ol, eq_false c16, eq_true c24, eq_true c61, eq_true c98, ↓reduceIte, not_true_eq_false, not_false_eq_true, and_self, and_true, true_and, and_false, false_and]; done) | rfl)
        · skip
          obtain ⟨hs1, hs2⟩ := (ry_so_ix (y := bd_up ym 0 0 0 0) (w := 0) (nb := nb) (z := z) (v := v) 48 0 (by decide)).resolve_left c98
          refine lv_aload_n hx hb dX7_seat_101 rfl (lv_at hl 3 rfl) ?_
          refine bd_g_X7_s C hR  qf_X7_30 dX7_seat_102 ?_
          refine bd_gN_X6_member C hR (by decide) (List.mem_of_getElem? (i := 8) rfl) dX7_seat_105 ?_
          refine lv_iload hx hb dX7_seat_108 (lv_at hl 0 rfl) ?_
          refine lv_iconst (v := (-1)) hx hb dX7_seat_110 (by decide) ?_
          refine bd_ti2 (j := (ry_so (bd_up ym 0 0 0 0) 0 nb z v 48 0).toNatClampNeg) (bd_tn hs1) ?_
          refine bd_st_23 C hR hS (by decide) (j := ((ry_so (bd_up ym 0 0 0 0) 0 nb z v 48 0).toNatClampNeg)) (by omega) dX7_seat_111 (fun H locs hR hS => ?_)
          refine lv_aload_n hx hb dX7_seat_112 rfl (lv_at hl 3 rfl) ?_
          refine bd_g_X7_s C hR  qf_X7_30 dX7_seat_113 ?_
          refine bd_gN_X6_member C hR (by decide) (List.mem_of_getElem? (i := 8) rfl) dX7_seat_116 ?_
          refine lv_iload hx hb dX7_seat_119 (lv_at hl 2 rfl) ?_
          refine lv_iload_n hx hb dX7_seat_121 rfl (lv_at hl 6 rfl) ?_
          refine bd_st_23 C hR hS (by decide) (j := ((8 * b) + q)) (by omega) dX7_seat_122 (fun H locs hR hS => ?_)
          refine lv_iload hx hb dX7_seat_123 (lv_at hl 1 rfl) ?_
          exact bd_ri C hr hlk (hR.eq rfl (by first | (simp (config := { decide := true }) only [ry_seat, ry_s1, ry_ol, eq_false c16, eq_true c24, eq_true c61, eq_false c98, ↓reduceIte, not_true_eq_false, not_false_eq_true, and_self, and_true, true_and, and_false, false_and]; done) | rfl)) hS (Nat.zero_le _) (Nat.zero_le _) dX7_seat_125 (by first | (simp (config := { decide := true }) only [ry_seat, ry_s1, ry_ol, eq_false c16, eq_true c24, eq_true c61, eq_false c98, ↓reduceIte, not_true_eq_false, not_false_eq_true, and_self, and_true, true_and, and_false, false_and]; done) | rfl)
      · skip
        refine lv_iload hx hb dX7_seat_64 (lv_at hl 0 rfl) ?_
        refine lv_iload_n hx hb dX7_seat_66 rfl (lv_at hl 5 rfl) ?_
        refine lv_icmp_eq (tgt := 76) hx hb dX7_seat_67 (by decide) (fun c67 => ?_) (fun c67 => ?_)
        · skip
          refine lv_iload_n hx hb dX7_seat_76 rfl (lv_at hl 5 rfl) ?_
          refine lv_iconst (v := (-1)) hx hb dX7_seat_77 (by decide) ?_
          refine lv_icmp_ne (tgt := 85) hx hb dX7_seat_78 (by decide) (fun _ => ?_) (fun q9 => absurd q9 c16)
          refine lv_aload_n hx hb dX7_seat_85 rfl (lv_at hl 2 rfl) ?_
          refine bd_g_X7_s C hR  qf_X7_30 dX7_seat_86 ?_
          refine lv_iload_n hx hb dX7_seat_89 rfl (lv_at hl 5 rfl) ?_
          refine bd_cV1 [.int v] [] C (k_X6_seatOf l E xm (bd_up ym 0 0 0 0) om 0 n nb z v (by omega) (ry_Sh_up hy (by decide))) hR hS (bd_recv C.2 hR ⟨by decide, (by decide), (by decide)⟩ rfl rfl) qm_X7_82 qi_X6_seatOf qs_X6_seatOf qz_X6 qc_X6_seatOf qp_X6_seatOf ⟨Nat.le_of_ble_eq_true rfl, Nat.le_of_ble_eq_true rfl⟩ hl.1 (Nat.le_of_ble_eq_true rfl) dX7_seat_90 ⟨Nat.le_of_ble_eq_true rfl, Nat.le_of_ble_eq_true rfl⟩ (fun H locs hR hS hz90 => ?_)
          refine lv_istore (lv' := [(6, .int (ry_so (bd_up ym 0 0 0 0) 0 nb z v 48 0)), (5, .int ((bd_up ym 0 0 0 0) 23 0 ((8 * b) + q))), (4, .int (nI ((8 * b) + q))), (0, .ref (bd_ea E 12 0 0)), (1, .int (nI b)), (2, .int (nI q)), (3, .int v)]) hx hb dX7_seat_93 hl (by decide) rfl (fun ls hl => ?_)
          refine lv_iload hx hb dX7_seat_95 (lv_at hl 0 rfl) ?_
          refine lv_iconst (v := (-1)) hx hb dX7_seat_97 (by decide) ?_
          refine lv_icmp_eq (tgt := 112) hx hb dX7_seat_98 (by decide) (fun c98 => ?_) (fun c98 => ?_)
          · skip
            refine lv_aload_n hx hb dX7_seat_112 rfl (lv_at hl 3 rfl) ?_
            refine bd_g_X7_s C hR  qf_X7_30 dX7_seat_113 ?_
            refine bd_gN_X6_member C hR (by decide) (List.mem_of_getElem? (i := 8) rfl) dX7_seat_116 ?_
            refine lv_iload hx hb dX7_seat_119 (lv_at hl 2 rfl) ?_
            refine lv_iload_n hx hb dX7_seat_121 rfl (lv_at hl 6 rfl) ?_
            refine bd_st_23 C hR hS (by decide) (j := ((8 * b) + q)) (by omega) dX7_seat_122 (fun H locs hR hS => ?_)
            refine lv_iload hx hb dX7_seat_123 (lv_at hl 1 rfl) ?_
            exact bd_ri C hr hlk (hR.eq rfl (by first | (simp (config := { decide := true }) only [ry_seat, ry_s1, ry_ol, eq_false c16, eq_true c24, eq_false c61, eq_true c67, eq_true c98, ↓reduceIte, not_true_eq_false, not_false_eq_true, and_self, and_true, true_and, and_false, false_and]; done) | rfl)) hS (Nat.zero_le _) (Nat.zero_le _) dX7_seat_125 (by first | (simp (config := { decide := true }) only [ry_seat, ry_s1, ry_ol, eq_false c16, eq_true c24, eq_false c61, eq_true c67, eq_true c98, ↓reduceIte, not_true_eq_false, not_false_eq_true, and_self, and_true, true_and, and_false, false_and]; done) | rfl)
          · skip
            obtain ⟨hs1, hs2⟩ := (ry_so_ix (y := bd_up ym 0 0 0 0) (w := 0) (nb := nb) (z := z) (v := v) 48 0 (by decide)).resolve_left c98
            refine lv_aload_n hx hb dX7_seat_101 rfl (lv_at hl 3 rfl) ?_
            refine bd_g_X7_s C hR  qf_X7_30 dX7_seat_102 ?_
            refine bd_gN_X6_member C hR (by decide) (List.mem_of_getElem? (i := 8) rfl) dX7_seat_105 ?_
            refine lv_iload hx hb dX7_seat_108 (lv_at hl 0 rfl) ?_
            refine lv_iconst (v := (-1)) hx hb dX7_seat_110 (by decide) ?_
            refine bd_ti2 (j := (ry_so (bd_up ym 0 0 0 0) 0 nb z v 48 0).toNatClampNeg) (bd_tn hs1) ?_
            refine bd_st_23 C hR hS (by decide) (j := ((ry_so (bd_up ym 0 0 0 0) 0 nb z v 48 0).toNatClampNeg)) (by omega) dX7_seat_111 (fun H locs hR hS => ?_)
            refine lv_aload_n hx hb dX7_seat_112 rfl (lv_at hl 3 rfl) ?_
            refine bd_g_X7_s C hR  qf_X7_30 dX7_seat_113 ?_
            refine bd_gN_X6_member C hR (by decide) (List.mem_of_getElem? (i := 8) rfl) dX7_seat_116 ?_
            refine lv_iload hx hb dX7_seat_119 (lv_at hl 2 rfl) ?_
            refine lv_iload_n hx hb dX7_seat_121 rfl (lv_at hl 6 rfl) ?_
            refine bd_st_23 C hR hS (by decide) (j := ((8 * b) + q)) (by omega) dX7_seat_122 (fun H locs hR hS => ?_)
            refine lv_iload hx hb dX7_seat_123 (lv_at hl 1 rfl) ?_
            exact bd_ri C hr hlk (hR.eq rfl (by first | (simp (config := { decide := true }) only [ry_seat, ry_s1, ry_ol, eq_false c16, eq_true c24, eq_false c61, eq_true c67, eq_false c98, ↓reduceIte, not_true_eq_false, not_false_eq_true, and_self, and_true, true_and, and_false, false_and]; done) | rfl)) hS (Nat.zero_le _) (Nat.zero_le _) dX7_seat_125 (by first | (simp (config := { decide := true }) only [ry_seat, ry_s1, ry_ol, eq_false c16, eq_true c24, eq_false c61, eq_true c67, eq_false c98, ↓reduceIte, not_true_eq_false, not_false_eq_true, and_self, and_true, true_and, and_false, false_and]; done) | rfl)
        · exact absurd (((h2.resolve_left c16).resolve_left (by first | exact c61 | (rw [← bd_up_f (x := ym) (f := 0) (w := 0) (k := 0) (v := 0) (by decide)]; exact c61)))) (by first | exact c67 | (rw [← bd_up_f (x := ym) (f := 0) (w := 0) (k := 0) (v := 0) (by decide)]; exact c67))
    · exact absurd (hv.resolve_left c16) c24
set_option maxHeartbeats 4000000 in
set_option maxRecDepth 100000 in
theorem k_X7_seat_2 (l : Launch) (E : bd_E) (xm ym : bd_M) (om : Nat → Int64) (n : Nat) (nb : Nat) (z : (Nat→Nat)) (b : Nat) (q : Nat) (v : Int32) (hy : ry_Sh ym n nb z) (hb : b < nb) (hq : q < z b) (hv : ¬ v < 0 ∧ v < nI n) (h2 : ¬ v = (-1)) (h3 : ¬ ym 23 0 (8 * b + q) = (-1)) (h4 : ¬ ym 23 0 (8 * b + q) = v) : bd_Ct l yX7_seat cX7_seat 7 (some .int) 3 65 0 0 E [.ref (bd_ea E 12 0 0), .int (nI b), .int (nI q), .int v] xm ym om xm (bd_up (ry_t0 ym) 0 0 0 2) om (some (.int 0)) := by
  refine bd_open RX7 rfl (by decide) (Nat.le_of_ble_eq_true rfl) ?_
  intro p e s m args below meth c ls C hr hlk hS hR hl
  have hx := C.1.1
  have hb := C.1.2.1
  have hy24 := hy.2.1
  have hy6 := hy.2.2.2.1
  have z8 := (hy.2.2.2.2.1 b (by omega)).2
  have kq := bd_kS (z := z) (by omega : b < nb) hy6 hq z8
  have e3 : ¬ bd_up ym 0 0 0 0 23 0 (8 * b + q) = (-1) := by rw [bd_up_f (by decide)]; exact h3
  have e4 : ¬ bd_up ym 0 0 0 0 23 0 (8 * b + q) = v := by rw [bd_up_f (by decide)]; exact h4
  have hl : lv_has ls 7 [(0, .ref (bd_ea E 12 0 0)), (1, .int (nI b)), (2, .int (nI q)), (3, .int v)] := hl
  refine lv_aload_n hx hb dX7_seat_0 rfl (lv_at hl 0 rfl) ?_
  refine lv_iconst (v := 0) hx hb dX7_seat_1 (by decide) ?_
  refine bd_p_X7_thrown C hR hS  qf_X7_37 dX7_seat_2 (fun H locs hR hS => ?_)
  refine lv_aload_n hx hb dX7_seat_5 rfl (lv_at hl 0 rfl) ?_
  refine lv_iload_n hx hb dX7_seat_6 rfl (lv_at hl 1 rfl) ?_
  refine lv_iload_n hx hb dX7_seat_7 rfl (lv_at hl 2 rfl) ?_
  refine bd_cV1 [.int (nI b), .int (nI q)] [] C (k_X7_isSeat l E xm (bd_up ym 0 0 0 0) om n nb z (nI b) (nI q) (ry_Sh_up hy (by decide))) hR hS (bd_recv C.2 hR ⟨by decide, (by decide), (by decide)⟩ rfl rfl) qm_X7_75 qi_X7_isSeat qs_X7_isSeat qz_X7 qc_X7_isSeat qp_X7_isSeat ⟨Nat.le_of_ble_eq_true rfl, Nat.le_of_ble_eq_true rfl⟩ hl.1 (Nat.le_of_ble_eq_true rfl) dX7_seat_8 ⟨Nat.le_of_ble_eq_true rfl, Nat.le_of_ble_eq_true rfl⟩ (fun H locs hR hS hz8 => ?_)
  refine bd_ifeq (P := (¬ (nI b) < 0 ∧ (nI b) < nI nb) ∧ ¬ (nI q) < 0 ∧ (nI q) < nI (z (nI b).toNatClampNeg)) (tgt := 27) C dX7_seat_11 (by decide) (fun q9 => absurd kq q9) (fun q9 => ?_)
  refine lv_iload_n hx hb dX7_seat_14 rfl (lv_at hl 3 rfl) ?_
  refine lv_iconst (v := (-1)) hx hb dX7_seat_15 (by decide) ?_
  refine lv_icmp_eq (tgt := 33) hx hb dX7_seat_16 (by decide) (fun c16 => ?_) (fun c16 => ?_)
  · exact absurd c16 h2
  · skip
    refine lv_aload_n hx hb dX7_seat_19 rfl (lv_at hl 0 rfl) ?_
    refine lv_iload_n hx hb dX7_seat_20 rfl (lv_at hl 3 rfl) ?_
    refine bd_cV1 [.int v] [] C (k_X7_isPlayer l E xm (bd_up ym 0 0 0 0) om n nb z v (ry_Sh_up hy (by decide))) hR hS (bd_recv C.2 hR ⟨by decide, (by decide), (by decide)⟩ rfl rfl) qm_X7_79 qi_X7_isPlayer qs_X7_isPlayer qz_X7 qc_X7_isPlayer qp_X7_isPlayer ⟨Nat.le_of_ble_eq_true rfl, Nat.le_of_ble_eq_true rfl⟩ hl.1 (Nat.le_of_ble_eq_true rfl) dX7_seat_21 ⟨Nat.le_of_ble_eq_true rfl, Nat.le_of_ble_eq_true rfl⟩ (fun H locs hR hS hz21 => ?_)
    refine bd_ifne (P := ¬ v < 0 ∧ v < nI n) (tgt := 33) C dX7_seat_24 (by decide) (fun q9 => ?_) (fun q9 => absurd hv q9)
    refine lv_bipush (v := 8) hx hb dX7_seat_33 (by decide) ?_
    refine lv_iload_n hx hb dX7_seat_35 rfl (lv_at hl 1 rfl) ?_
    refine lv_imul hx hb dX7_seat_36 ?_
    refine bd_ti (j := 8 * b) (pk_mul 8 b) ?_
    refine lv_iload_n hx hb dX7_seat_37 rfl (lv_at hl 2 rfl) ?_
    refine lv_iadd hx hb dX7_seat_38 ?_
    refine bd_ti (j := (8 * b) + q) (nI_add (8 * b) q) ?_
    refine lv_istore (lv' := [(4, .int (nI ((8 * b) + q))), (0, .ref (bd_ea E 12 0 0)), (1, .int (nI b)), (2, .int (nI q)), (3, .int v)]) hx hb dX7_seat_39 hl (by decide) rfl (fun ls hl => ?_)
    refine lv_aload_n hx hb dX7_seat_41 rfl (lv_at hl 1 rfl) ?_
    refine bd_g_X7_s C hR  qf_X7_30 dX7_seat_42 ?_
    refine bd_gN_X6_member C hR (by decide) (List.mem_of_getElem? (i := 8) rfl) dX7_seat_45 ?_
    refine lv_iload hx hb dX7_seat_48 (lv_at hl 0 rfl) ?_
    refine bd_ld_23 C hR (by decide) (j := ((8 * b) + q)) (by omega) dX7_seat_50 ?_
    refine lv_istore (lv' := [(5, .int ((bd_up ym 0 0 0 0) 23 0 ((8 * b) + q))), (4, .int (nI ((8 * b) + q))), (0, .ref (bd_ea E 12 0 0)), (1, .int (nI b)), (2, .int (nI q)), (3, .int v)]) hx hb dX7_seat_51 hl (by decide) rfl (fun ls hl => ?_)
    refine lv_iload_n hx hb dX7_seat_53 rfl (lv_at hl 5 rfl) ?_
    refine lv_iconst (v := (-1)) hx hb dX7_seat_54 (by decide) ?_
    refine lv_icmp_eq (tgt := 76) hx hb dX7_seat_55 (by decide) (fun c55 => ?_) (fun c55 => ?_)
    · exact absurd c55 h2
    · skip
      refine lv_iload hx hb dX7_seat_58 (lv_at hl 0 rfl) ?_
      refine lv_iconst (v := (-1)) hx hb dX7_seat_60 (by decide) ?_
      refine lv_icmp_eq (tgt := 76) hx hb dX7_seat_61 (by decide) (fun c61 => ?_) (fun c61 => ?_)
      · exact absurd c61 e3
      · skip
        refine lv_iload hx hb dX7_seat_64 (lv_at hl 0 rfl) ?_
        refine lv_iload_n hx hb dX7_seat_66 rfl (lv_at hl 5 rfl) ?_
        refine lv_icmp_eq (tgt := 76) hx hb dX7_seat_67 (by decide) (fun c67 => ?_) (fun c67 => ?_)
        · exact absurd c67 e4
        · skip
          refine lv_aload_n hx hb dX7_seat_70 rfl (lv_at hl 2 rfl) ?_
          refine lv_iconst (v := 2) hx hb dX7_seat_71 (by decide) ?_
          refine bd_cV1 [.int 2] [] C (k_X7_no l E xm (bd_up ym 0 0 0 0) om 2 ) hR hS (bd_recv C.2 hR ⟨by decide, (by decide), (by decide)⟩ rfl rfl) qm_X7_55 qi_X7_no qs_X7_no qz_X7 qc_X7_no qp_X7_no ⟨Nat.le_of_ble_eq_true rfl, Nat.le_of_ble_eq_true rfl⟩ hl.1 (Nat.le_of_ble_eq_true rfl) dX7_seat_72 ⟨Nat.le_of_ble_eq_true rfl, Nat.le_of_ble_eq_true rfl⟩ (fun H locs hR hS hz72 => ?_)
          exact bd_ri C hr hlk (hR.eq rfl (by first | (simp (config := { decide := true }) only [eq_false c16, eq_false c55, eq_false c61, eq_false c67, ↓reduceIte, not_true_eq_false, not_false_eq_true, and_self, and_true, true_and, and_false, false_and]; done) | rfl)) hS (Nat.zero_le _) (Nat.zero_le _) dX7_seat_75 rfl
set_option maxHeartbeats 4000000 in
set_option maxRecDepth 100000 in
theorem k_X7_seat_1 (l : Launch) (E : bd_E) (xm ym : bd_M) (om : Nat → Int64) (n : Nat) (nb : Nat) (z : (Nat→Nat)) (u : Int32) (v : Int32) (g : Int32) (hy : ry_Sh ym n nb z) (h1 : ¬ (((¬ u < 0 ∧ u < nI nb) ∧ ¬ v < 0 ∧ v < nI (z u.toNatClampNeg)) ∧ (g = (-1) ∨ (¬ g < 0 ∧ g < nI n)))) : bd_Ct l yX7_seat cX7_seat 7 (some .int) 3 65 0 0 E [.ref (bd_ea E 12 0 0), .int u, .int v, .int g] xm ym om xm (bd_up (ry_t0 ym) 0 0 0 1) om (some (.int 0)) := by
  refine bd_open RX7 rfl (by decide) (Nat.le_of_ble_eq_true rfl) ?_
  intro p e s m args below meth c ls C hr hlk hS hR hl
  have hx := C.1.1
  have hb := C.1.2.1
  have hy24 := hy.2.1
  have hy6 := hy.2.2.2.1
  have hl : lv_has ls 7 [(0, .ref (bd_ea E 12 0 0)), (1, .int u), (2, .int v), (3, .int g)] := hl
  refine lv_aload_n hx hb dX7_seat_0 rfl (lv_at hl 0 rfl) ?_
  refine lv_iconst (v := 0) hx hb dX7_seat_1 (by decide) ?_
  refine bd_p_X7_thrown C hR hS  qf_X7_37 dX7_seat_2 (fun H locs hR hS => ?_)
  refine lv_aload_n hx hb dX7_seat_5 rfl (lv_at hl 0 rfl) ?_
  refine lv_iload_n hx hb dX7_seat_6 rfl (lv_at hl 1 rfl) ?_
  refine lv_iload_n hx hb dX7_seat_7 rfl (lv_at hl 2 rfl) ?_
  refine bd_cV1 [.int u, .int v] [] C (k_X7_isSeat l E xm (bd_up ym 0 0 0 0) om n nb z u v (ry_Sh_up hy (by decide))) hR hS (bd_recv C.2 hR ⟨by decide, (by decide), (by decide)⟩ rfl rfl) qm_X7_75 qi_X7_isSeat qs_X7_isSeat qz_X7 qc_X7_isSeat qp_X7_isSeat ⟨Nat.le_of_ble_eq_true rfl, Nat.le_of_ble_eq_true rfl⟩ hl.1 (Nat.le_of_ble_eq_true rfl) dX7_seat_8 ⟨Nat.le_of_ble_eq_true rfl, Nat.le_of_ble_eq_true rfl⟩ (fun H locs hR hS hz8 => ?_)
  refine bd_ifeq (P := (¬ u < 0 ∧ u < nI nb) ∧ ¬ v < 0 ∧ v < nI (z u.toNatClampNeg)) (tgt := 27) C dX7_seat_11 (by decide) (fun c11 => ?_) (fun c11 => ?_)
  · skip
    refine lv_aload_n hx hb dX7_seat_27 rfl (lv_at hl 0 rfl) ?_
    refine lv_iconst (v := 1) hx hb dX7_seat_28 (by decide) ?_
    refine bd_cV1 [.int 1] [] C (k_X7_no l E xm (bd_up ym 0 0 0 0) om 1 ) hR hS (bd_recv C.2 hR ⟨by decide, (by decide), (by decide)⟩ rfl rfl) qm_X7_55 qi_X7_no qs_X7_no qz_X7 qc_X7_no qp_X7_no ⟨Nat.le_of_ble_eq_true rfl, Nat.le_of_ble_eq_true rfl⟩ hl.1 (Nat.le_of_ble_eq_true rfl) dX7_seat_29 ⟨Nat.le_of_ble_eq_true rfl, Nat.le_of_ble_eq_true rfl⟩ (fun H locs hR hS hz29 => ?_)
    exact bd_ri C hr hlk (hR.eq rfl (by first | (simp (config := { decide := true }) only [eq_false c11, ↓reduceIte, not_true_eq_false, not_false_eq_true, and_self, and_true, true_and, and_false, false_and]; done) | rfl)) hS (Nat.zero_le _) (Nat.zero_le _) dX7_seat_32 rfl
  · skip
    refine lv_iload_n hx hb dX7_seat_14 rfl (lv_at hl 3 rfl) ?_
    refine lv_iconst (v := (-1)) hx hb dX7_seat_15 (by decide) ?_
    refine lv_icmp_eq (tgt := 33) hx hb dX7_seat_16 (by decide) (fun c16 => ?_) (fun c16 => ?_)
    · exact absurd ⟨c11, Or.inl c16⟩ h1
    · skip
      refine lv_aload_n hx hb dX7_seat_19 rfl (lv_at hl 0 rfl) ?_
      refine lv_iload_n hx hb dX7_seat_20 rfl (lv_at hl 3 rfl) ?_
      refine bd_cV1 [.int g] [] C (k_X7_isPlayer l E xm (bd_up ym 0 0 0 0) om n nb z g (ry_Sh_up hy (by decide))) hR hS (bd_recv C.2 hR ⟨by decide, (by decide), (by decide)⟩ rfl rfl) qm_X7_79 qi_X7_isPlayer qs_X7_isPlayer qz_X7 qc_X7_isPlayer qp_X7_isPlayer ⟨Nat.le_of_ble_eq_true rfl, Nat.le_of_ble_eq_true rfl⟩ hl.1 (Nat.le_of_ble_eq_true rfl) dX7_seat_21 ⟨Nat.le_of_ble_eq_true rfl, Nat.le_of_ble_eq_true rfl⟩ (fun H locs hR hS hz21 => ?_)
      refine bd_ifne (P := ¬ g < 0 ∧ g < nI n) (tgt := 33) C dX7_seat_24 (by decide) (fun c24 => ?_) (fun c24 => ?_)
      · exact absurd ⟨c11, Or.inr c24⟩ h1
      · skip
        refine lv_aload_n hx hb dX7_seat_27 rfl (lv_at hl 0 rfl) ?_
        refine lv_iconst (v := 1) hx hb dX7_seat_28 (by decide) ?_
        refine bd_cV1 [.int 1] [] C (k_X7_no l E xm (bd_up ym 0 0 0 0) om 1 ) hR hS (bd_recv C.2 hR ⟨by decide, (by decide), (by decide)⟩ rfl rfl) qm_X7_55 qi_X7_no qs_X7_no qz_X7 qc_X7_no qp_X7_no ⟨Nat.le_of_ble_eq_true rfl, Nat.le_of_ble_eq_true rfl⟩ hl.1 (Nat.le_of_ble_eq_true rfl) dX7_seat_29 ⟨Nat.le_of_ble_eq_true rfl, Nat.le_of_ble_eq_true rfl⟩ (fun H locs hR hS hz29 => ?_)
        exact bd_ri C hr hlk (hR.eq rfl (by first | (simp (config := { decide := true }) only [eq_true c11, eq_false c16, eq_false c24, ↓reduceIte, not_true_eq_false, not_false_eq_true, and_self, and_true, true_and, and_false, false_and]; done) | rfl)) hS (Nat.zero_le _) (Nat.zero_le _) dX7_seat_32 rfl
set_option maxHeartbeats 4000000 in
set_option maxRecDepth 100000 in
theorem k_X7_rehearse_ok (l : Launch) (E : bd_E) (xm ym : bd_M) (om : Nat → Int64) (n : Nat) (nb : Nat) (z : (Nat→Nat)) (b : Nat) (hy : ry_Sh ym n nb z) (hb : b < nb) (hm : ry_Mb ym 0 n nb z) : bd_Ct l yX7_rehearse cX7_rehearse 4 (some .int) 2 43 0 0 E [.ref (bd_ea E 12 0 0), .int (nI b)] xm ym om xm (ry_reh (ry_t0 ym) b (z b)) om (some (.int (ry_reh (ry_t0 ym) b (z b) 25 0 b))) := by
  refine bd_open RX7 rfl (by decide) (Nat.le_of_ble_eq_true rfl) ?_
  intro p e s m args below meth c ls C hr hlk hS hR hl
  have hx := C.1.1
  have hb := C.1.2.1
  have hy24 := hy.2.1
  have hy6 := hy.2.2.2.1
  have z8 := (hy.2.2.2.2.1 b (by omega)).2
  have kb := bd_kP (by omega : b < nb) (by omega)
  have hyO := hy
  have hl : lv_has ls 4 [(0, .ref (bd_ea E 12 0 0)), (1, .int (nI b))] := hl
  refine lv_aload_n hx hb dX7_rehearse_0 rfl (lv_at hl 0 rfl) ?_
  refine lv_iconst (v := 0) hx hb dX7_rehearse_1 (by decide) ?_
  refine bd_p_X7_thrown C hR hS  qf_X7_37 dX7_rehearse_2 (fun H locs hR hS => ?_)
  refine lv_aload_n hx hb dX7_rehearse_5 rfl (lv_at hl 0 rfl) ?_
  refine lv_iload_n hx hb dX7_rehearse_6 rfl (lv_at hl 1 rfl) ?_
  refine bd_cV1 [.int (nI b)] [] C (k_X7_isBand l E xm (bd_up ym 0 0 0 0) om n nb z (nI b) (ry_Sh_up hy (by decide))) hR hS (bd_recv C.2 hR ⟨by decide, (by decide), (by decide)⟩ rfl rfl) qm_X7_51 qi_X7_isBand qs_X7_isBand qz_X7 qc_X7_isBand qp_X7_isBand ⟨Nat.le_of_ble_eq_true rfl, Nat.le_of_ble_eq_true rfl⟩ hl.1 (Nat.le_of_ble_eq_true rfl) dX7_rehearse_7 ⟨Nat.le_of_ble_eq_true rfl, Nat.le_of_ble_eq_true rfl⟩ (fun H locs hR hS hz7 => ?_)
  refine bd_ifne (P := ¬ (nI b) < 0 ∧ (nI b) < nI nb) (tgt := 19) C dX7_rehearse_10 (by decide) (fun q9 => ?_) (fun q9 => absurd kb q9)
  refine lv_aload_n hx hb dX7_rehearse_19 rfl (lv_at hl 0 rfl) ?_
  refine bd_g_X7_s C hR  qf_X7_30 dX7_rehearse_20 ?_
  refine bd_gN_X6_spirit C hR (by decide) (List.mem_of_getElem? (i := 12) rfl) dX7_rehearse_23 ?_
  refine lv_iload_n hx hb dX7_rehearse_26 rfl (lv_at hl 1 rfl) ?_
  refine lv_bipush (v := 50) hx hb dX7_rehearse_27 (by decide) ?_
  refine lv_aload_n hx hb dX7_rehearse_29 rfl (lv_at hl 0 rfl) ?_
  refine bd_g_X7_s C hR  qf_X7_30 dX7_rehearse_30 ?_
  refine bd_gN_X6_spirit C hR (by decide) (List.mem_of_getElem? (i := 12) rfl) dX7_rehearse_33 ?_
  refine lv_iload_n hx hb dX7_rehearse_36 rfl (lv_at hl 1 rfl) ?_
  refine bd_ld_25 C hR (by decide) (j := b) (by omega) dX7_rehearse_37 ?_
  refine lv_iconst (v := 3) hx hb dX7_rehearse_38 (by decide) ?_
  refine lv_iadd hx hb dX7_rehearse_39 ?_
  refine bd_min C hl.1 qm_X7_95 ⟨Nat.le_of_ble_eq_true rfl, Nat.le_of_ble_eq_true rfl⟩ ⟨Nat.le_of_ble_eq_true rfl, Nat.le_of_ble_eq_true rfl⟩ dX7_rehearse_40 ?_
  refine bd_st_25 C hR hS (by decide) (j := b) (by omega) dX7_rehearse_43 (fun H locs hR hS => ?_)
  refine lv_bipush (v := 8) hx hb dX7_rehearse_44 (by decide) ?_
  refine lv_iload_n hx hb dX7_rehearse_46 rfl (lv_at hl 1 rfl) ?_
  refine lv_imul hx hb dX7_rehearse_47 ?_
  refine bd_ti (j := 8 * b) (pk_mul 8 b) ?_
  refine lv_istore_n (lv' := [(2, .int (nI (8 * b))), (0, .ref (bd_ea E 12 0 0)), (1, .int (nI b))]) hx hb dX7_rehearse_48 rfl hl (by decide) rfl (fun ls hl => ?_)
  have lp1 : ∀ (t1 j : Nat), j ≤ z b → (z b) - j < t1 → ∀ (H : Heap) (locs : List Loc), bd_Rep E xm (ry_rt (bd_up (ry_t0 ym) 25 0 b (bd_mn 50 (ry_t0 ym 25 0 b + 3))) b j) om H → va_S (bd_A E) s.heap H locs → ∀ (ls : Array Slot), lv_has ls 4 [(2, .int (nI (8 * b + j))), (0, .ref (bd_ea E 12 0 0)), (1, .int (nI b))] → W p l e { frames := 2, cells := 0, slots := 0, locals := 43 } s m args below meth c H locs 0 0 (MQ below (bd_Q E xm (ry_reh (ry_t0 ym) b (z b)) om (some (.int (ry_reh (ry_t0 ym) b (z b) 25 0 b)))) args s 0 0 (bd_A E)) (F0 m 49 ls []) := by
    intro t1
    induction t1 with
    | zero => intro j h1 h2; exact absurd h2 (Nat.not_lt_zero _)
    | succ t1 ih1 =>
      intro j hj1 hj2 H locs hR hS ls hl
      refine lv_iload_n hx hb dX7_rehearse_49 rfl (lv_at hl 0 rfl) ?_
      refine lv_bipush (v := 8) hx hb dX7_rehearse_50 (by decide) ?_
      refine lv_iload_n hx hb dX7_rehearse_52 rfl (lv_at hl 2 rfl) ?_
      refine lv_imul hx hb dX7_rehearse_53 ?_
      refine bd_ti (j := 8 * b) (pk_mul 8 b) ?_
      refine lv_aload_n hx hb dX7_rehearse_54 rfl (lv_at hl 1 rfl) ?_
      refine bd_g_X7_seats C hR  qf_X7_13 dX7_rehearse_55 ?_
      refine lv_iload_n hx hb dX7_rehearse_58 rfl (lv_at hl 2 rfl) ?_
      refine bd_ld_14 C hR  (j := b) (by omega) dX7_rehearse_59 ?_
      have zz59 := ((show ry_Sh (ry_rt (bd_up (ry_t0 ym) 25 0 b (bd_mn 50 (ry_t0 ym 25 0 b + 3))) b j) n nb z from (ry_Sh_of hyO (fun g k hg => (ry_rt_f (by omega) j).trans ((bd_up_f (by omega)).trans (bd_up_f (by omega)))))).2.2.2.2.1 b (by omega)).2
      rw [show (ry_rt (bd_up (ry_t0 ym) 25 0 b (bd_mn 50 (ry_t0 ym 25 0 b + 3))) b j) 14 0 b = nI (z b) from ((show ry_Sh (ry_rt (bd_up (ry_t0 ym) 25 0 b (bd_mn 50 (ry_t0 ym 25 0 b + 3))) b j) n nb z from (ry_Sh_of hyO (fun g k hg => (ry_rt_f (by omega) j).trans ((bd_up_f (by omega)).trans (bd_up_f (by omega)))))).2.2.2.2.1 b (by omega)).1]
      refine lv_iadd hx hb dX7_rehearse_60 ?_
      refine bd_ti (j := (8 * b) + (z b)) (nI_add (8 * b) (z b)) ?_
      refine lv_icmp_ge (tgt := 122) hx hb dX7_rehearse_61 (by decide) (fun c61 => ?_) (fun c61 => ?_)
      · skip
        have nc61 : ((8 * b) + (z b)) ≤ (8 * b + j) := (nI_leI (a := ((8 * b) + (z b))) (b := (8 * b + j)) (by omega) (by omega)).mp c61
        obtain rfl : z b = j := by omega
        refine lv_aload_n hx hb dX7_rehearse_122 rfl (lv_at hl 1 rfl) ?_
        refine bd_g_X7_s C hR  qf_X7_30 dX7_rehearse_123 ?_
        refine bd_gN_X6_spirit C hR (by decide) (List.mem_of_getElem? (i := 12) rfl) dX7_rehearse_126 ?_
        refine lv_iload_n hx hb dX7_rehearse_129 rfl (lv_at hl 2 rfl) ?_
        refine bd_ld_25 C hR (by decide) (j := b) (by omega) dX7_rehearse_130 ?_
        exact bd_ri C hr hlk (hR.eq rfl (by first | rfl | (rfl))) hS (Nat.zero_le _) (Nat.zero_le _) dX7_rehearse_131 (by first | rfl | (rfl))
      · skip
        have nc61 : ¬ ((8 * b) + (z b)) ≤ (8 * b + j) := fun q9 => c61 ((nI_leI (a := ((8 * b) + (z b))) (b := (8 * b + j)) (by omega) (by omega)).mpr q9)
        refine lv_aload_n hx hb dX7_rehearse_64 rfl (lv_at hl 1 rfl) ?_
        refine bd_g_X7_s C hR  qf_X7_30 dX7_rehearse_65 ?_
        refine bd_gN_X6_member C hR (by decide) (List.mem_of_getElem? (i := 8) rfl) dX7_rehearse_68 ?_
        refine lv_iload_n hx hb dX7_rehearse_71 rfl (lv_at hl 0 rfl) ?_
        refine bd_ld_23 C hR (by decide) (j := (8 * b + j)) (by omega) dX7_rehearse_72 ?_
        refine lv_istore_n (lv' := [(3, .int ((ry_rt (bd_up (ry_t0 ym) 25 0 b (bd_mn 50 (ry_t0 ym 25 0 b + 3))) b j) 23 0 (8 * b + j))), (2, .int (nI (8 * b + j))), (0, .ref (bd_ea E 12 0 0)), (1, .int (nI b))]) hx hb dX7_rehearse_73 rfl hl (by decide) rfl (fun ls hl => ?_)
        refine lv_iload_n hx hb dX7_rehearse_74 rfl (lv_at hl 0 rfl) ?_
        refine lv_iconst (v := (-1)) hx hb dX7_rehearse_75 (by decide) ?_
        refine lv_icmp_eq (tgt := 116) hx hb dX7_rehearse_76 (by decide) (fun c76 => ?_) (fun c76 => ?_)
        · skip
          refine lv_iinc (v := nI ((8 * b + j) + 1)) (lv' := [(2, .int (nI ((8 * b + j) + 1))), (3, .int ((ry_rt (bd_up (ry_t0 ym) 25 0 b (bd_mn 50 (ry_t0 ym 25 0 b + 3))) b j) 23 0 (8 * b + j))), (0, .ref (bd_ea E 12 0 0)), (1, .int (nI b))]) hx hb dX7_rehearse_116 hl (k := 1) rfl (nI_1 (8 * b + j)) (by decide) rfl (fun ls hl => ?_)
          refine lv_goto (tgt := 49) hx hb dX7_rehearse_119 (by decide) ?_
          exact ih1 (j + 1) (by omega) (by omega) _ _ (hR.eq rfl (by first | (simp (config := { decide := true }) only [ry_rt, ry_rt1, eq_false c61, eq_false nc61, eq_true c76, ↓reduceIte, not_true_eq_false, not_false_eq_true, and_self, and_true, true_and, and_false, false_and]; done) | rfl)) hS _ (by rw [show (nI (8 * b + (j + 1)) : Int32) = nI ((8 * b + j) + 1) from (by first | (simp (config := { decide := true }) only [ry_rt, ry_rt1, eq_false c61, eq_false nc61, eq_true c76, ↓reduceIte, not_true_eq_false, not_false_eq_true, and_self, and_true, true_and, and_false, false_and]; done) | rfl)]; exact lv_sub hl [0, 2, 3] rfl)
        · skip
          obtain ⟨hv1, hv2⟩ := (show ry_mv n ((ry_rt (bd_up (ry_t0 ym) 25 0 b (bd_mn 50 (ry_t0 ym 25 0 b + 3))) b j) 23 0 (8 * b + j)) by rw [ry_rt_f (by decide), bd_up_f (by decide), ry_t0, bd_up_f (by decide)]; exact hm b (by omega) j (by omega)).resolve_left c76
          refine lv_aload_n hx hb dX7_rehearse_79 rfl (lv_at hl 2 rfl) ?_
          refine bd_g_X7_s C hR  qf_X7_30 dX7_rehearse_80 ?_
          refine bd_gN_X6_absent C hR (by decide) (List.mem_of_getElem? (i := 11) rfl) dX7_rehearse_83 ?_
          refine lv_iload_n hx hb dX7_rehearse_86 rfl (lv_at hl 0 rfl) ?_
          refine bd_ti (j := ((ry_rt (bd_up (ry_t0 ym) 25 0 b (bd_mn 50 (ry_t0 ym 25 0 b + 3))) b j) 23 0 (8 * b + j)).toNatClampNeg) (bd_tn hv1) ?_
          refine bd_ld_20 C hR (by decide) (j := (((ry_rt (bd_up (ry_t0 ym) 25 0 b (bd_mn 50 (ry_t0 ym 25 0 b + 3))) b j) 23 0 (8 * b + j)).toNatClampNeg)) (by omega) dX7_rehearse_87 ?_
          refine lv_if_ne (tgt := 116) hx hb dX7_rehearse_88 (by decide) (fun c88 => ?_) (fun c88 => ?_)
          · skip
            refine lv_iinc (v := nI ((8 * b + j) + 1)) (lv' := [(2, .int (nI ((8 * b + j) + 1))), (3, .int ((ry_rt (bd_up (ry_t0 ym) 25 0 b (bd_mn 50 (ry_t0 ym 25 0 b + 3))) b j) 23 0 (8 * b + j))), (0, .ref (bd_ea E 12 0 0)), (1, .int (nI b))]) hx hb dX7_rehearse_116 hl (k := 1) rfl (nI_1 (8 * b + j)) (by decide) rfl (fun ls hl => ?_)
            refine lv_goto (tgt := 49) hx hb dX7_rehearse_119 (by decide) ?_
            exact ih1 (j + 1) (by omega) (by omega) _ _ (hR.eq rfl (by first | (simp (config := { decide := true }) only [ry_rt, ry_rt1, eq_false c61, eq_false nc61, eq_false c76, eq_false c88, ↓reduceIte, not_true_eq_false, not_false_eq_true, and_self, and_true, true_and, and_false, false_and]; done) | rfl)) hS _ (by rw [show (nI (8 * b + (j + 1)) : Int32) = nI ((8 * b + j) + 1) from (by first | (simp (config := { decide := true }) only [ry_rt, ry_rt1, eq_false c61, eq_false nc61, eq_false c76, eq_false c88, ↓reduceIte, not_true_eq_false, not_false_eq_true, and_self, and_true, true_and, and_false, false_and]; done) | rfl)]; exact lv_sub hl [0, 2, 3] rfl)
          · skip
            refine lv_aload_n hx hb dX7_rehearse_91 rfl (lv_at hl 2 rfl) ?_
            refine bd_g_X7_s C hR  qf_X7_30 dX7_rehearse_92 ?_
            refine bd_gN_X6_tired C hR (by decide) (List.mem_of_getElem? (i := 0) rfl) dX7_rehearse_95 ?_
            refine lv_iload_n hx hb dX7_rehearse_98 rfl (lv_at hl 0 rfl) ?_
            refine lv_bipush (v := 100) hx hb dX7_rehearse_99 (by decide) ?_
            refine lv_aload_n hx hb dX7_rehearse_101 rfl (lv_at hl 2 rfl) ?_
            refine bd_g_X7_s C hR  qf_X7_30 dX7_rehearse_102 ?_
            refine bd_gN_X6_tired C hR (by decide) (List.mem_of_getElem? (i := 0) rfl) dX7_rehearse_105 ?_
            refine lv_iload_n hx hb dX7_rehearse_108 rfl (lv_at hl 0 rfl) ?_
            refine bd_ti (j := ((ry_rt (bd_up (ry_t0 ym) 25 0 b (bd_mn 50 (ry_t0 ym 25 0 b + 3))) b j) 23 0 (8 * b + j)).toNatClampNeg) (bd_tn hv1) ?_
            refine bd_ld_19 C hR (by decide) (j := (((ry_rt (bd_up (ry_t0 ym) 25 0 b (bd_mn 50 (ry_t0 ym 25 0 b + 3))) b j) 23 0 (8 * b + j)).toNatClampNeg)) (by omega) dX7_rehearse_109 ?_
            refine lv_iconst (v := 5) hx hb dX7_rehearse_110 (by decide) ?_
            refine lv_iadd hx hb dX7_rehearse_111 ?_
            refine bd_min C hl.1 qm_X7_95 ⟨Nat.le_of_ble_eq_true rfl, Nat.le_of_ble_eq_true rfl⟩ ⟨Nat.le_of_ble_eq_true rfl, Nat.le_of_ble_eq_true rfl⟩ dX7_rehearse_112 ?_
            refine bd_ti2 (j := ((ry_rt (bd_up (ry_t0 ym) 25 0 b (bd_mn 50 (ry_t0 ym 25 0 b + 3))) b j) 23 0 (8 * b + j)).toNatClampNeg) (bd_tn hv1) ?_
            refine bd_st_19 C hR hS (by decide) (j := (((ry_rt (bd_up (ry_t0 ym) 25 0 b (bd_mn 50 (ry_t0 ym 25 0 b + 3))) b j) 23 0 (8 * b + j)).toNatClampNeg)) (by omega) dX7_rehearse_115 (fun H locs hR hS => ?_)
            refine lv_iinc (v := nI ((8 * b + j) + 1)) (lv' := [(2, .int (nI ((8 * b + j) + 1))), (3, .int ((ry_rt (bd_up (ry_t0 ym) 25 0 b (bd_mn 50 (ry_t0 ym 25 0 b + 3))) b j) 23 0 (8 * b + j))), (0, .ref (bd_ea E 12 0 0)), (1, .int (nI b))]) hx hb dX7_rehearse_116 hl (k := 1) rfl (nI_1 (8 * b + j)) (by decide) rfl (fun ls hl => ?_)
            refine lv_goto (tgt := 49) hx hb dX7_rehearse_119 (by decide) ?_
            exact ih1 (j + 1) (by omega) (by omega) _ _ (hR.eq rfl (by first | (simp (config := { decide := true }) only [ry_rt, ry_rt1, eq_false c61, eq_false nc61, eq_false c76, eq_true c88, ↓reduceIte, not_true_eq_false, not_false_eq_true, and_self, and_true, true_and, and_false, false_and]; done) | rfl)) hS _ (by rw [show (nI (8 * b + (j + 1)) : Int32) = nI ((8 * b + j) + 1) from (by first | (simp (config := { decide := true }) only [ry_rt, ry_rt1, eq_false c61, eq_false nc61, eq_false c76, eq_true c88, ↓reduceIte, not_true_eq_false, not_false_eq_true, and_self, and_true, true_and, and_false, false_and]; done) | rfl)]; exact lv_sub hl [0, 2, 3] rfl)
  exact lp1 ((z b) + 1) 0 (by omega) (by omega) _ _ (hR.eq rfl rfl) hS _ (by rw [show (nI (8 * b + 0) : Int32) = nI (8 * b) from by rfl]; exact lv_sub hl [0, 1, 2] rfl)
set_option maxHeartbeats 4000000 in
set_option maxRecDepth 100000 in
theorem k_X7_rehearse_1 (l : Launch) (E : bd_E) (xm ym : bd_M) (om : Nat → Int64) (n : Nat) (nb : Nat) (z : (Nat→Nat)) (u : Int32) (hy : ry_Sh ym n nb z) (h1 : ¬ (¬ u < 0 ∧ u < nI nb)) : bd_Ct l yX7_rehearse cX7_rehearse 4 (some .int) 2 43 0 0 E [.ref (bd_ea E 12 0 0), .int u] xm ym om xm (bd_up (ry_t0 ym) 0 0 0 1) om (some (.int 0)) := by
  refine bd_open RX7 rfl (by decide) (Nat.le_of_ble_eq_true rfl) ?_
  intro p e s m args below meth c ls C hr hlk hS hR hl
  have hx := C.1.1
  have hb := C.1.2.1
  have hy24 := hy.2.1
  have hy6 := hy.2.2.2.1
  have hl : lv_has ls 4 [(0, .ref (bd_ea E 12 0 0)), (1, .int u)] := hl
  refine lv_aload_n hx hb dX7_rehearse_0 rfl (lv_at hl 0 rfl) ?_
  refine lv_iconst (v := 0) hx hb dX7_rehearse_1 (by decide) ?_
  refine bd_p_X7_thrown C hR hS  qf_X7_37 dX7_rehearse_2 (fun H locs hR hS => ?_)
  refine lv_aload_n hx hb dX7_rehearse_5 rfl (lv_at hl 0 rfl) ?_
  refine lv_iload_n hx hb dX7_rehearse_6 rfl (lv_at hl 1 rfl) ?_
  refine bd_cV1 [.int u] [] C (k_X7_isBand l E xm (bd_up ym 0 0 0 0) om n nb z u (ry_Sh_up hy (by decide))) hR hS (bd_recv C.2 hR ⟨by decide, (by decide), (by decide)⟩ rfl rfl) qm_X7_51 qi_X7_isBand qs_X7_isBand qz_X7 qc_X7_isBand qp_X7_isBand ⟨Nat.le_of_ble_eq_true rfl, Nat.le_of_ble_eq_true rfl⟩ hl.1 (Nat.le_of_ble_eq_true rfl) dX7_rehearse_7 ⟨Nat.le_of_ble_eq_true rfl, Nat.le_of_ble_eq_true rfl⟩ (fun H locs hR hS hz7 => ?_)
  refine bd_ifne (P := ¬ u < 0 ∧ u < nI nb) (tgt := 19) C dX7_rehearse_10 (by decide) (fun q9 => absurd q9 h1) (fun q9 => ?_)
  refine lv_aload_n hx hb dX7_rehearse_13 rfl (lv_at hl 0 rfl) ?_
  refine lv_iconst (v := 1) hx hb dX7_rehearse_14 (by decide) ?_
  refine bd_cV1 [.int 1] [] C (k_X7_no l E xm (bd_up ym 0 0 0 0) om 1 ) hR hS (bd_recv C.2 hR ⟨by decide, (by decide), (by decide)⟩ rfl rfl) qm_X7_55 qi_X7_no qs_X7_no qz_X7 qc_X7_no qp_X7_no ⟨Nat.le_of_ble_eq_true rfl, Nat.le_of_ble_eq_true rfl⟩ hl.1 (Nat.le_of_ble_eq_true rfl) dX7_rehearse_15 ⟨Nat.le_of_ble_eq_true rfl, Nat.le_of_ble_eq_true rfl⟩ (fun H locs hR hS hz15 => ?_)
  exact bd_ri C hr hlk (hR.eq rfl (by first | (simp (config := { decide := true }) only [↓reduceIte, not_true_eq_false, not_false_eq_true, and_self, and_true, true_and, and_false, false_and]; done) | rfl)) hS (Nat.zero_le _) (Nat.zero_le _) dX7_rehearse_18 rfl
set_option maxHeartbeats 4000000 in
set_option maxRecDepth 100000 in
theorem k_X7_playerTold (l : Launch) (E : bd_E) (xm ym : bd_M) (om : Nat → Int64) (n : Nat) (nb : Nat) (z : (Nat→Nat)) (k : Nat) (q : Nat) (hy : ry_Sh ym n nb z) (hk : k < n) (hq : q < 10) : bd_Ct l yX7_playerTold cX7_playerTold 4 (some .int) 1 22 0 0 E [.ref (bd_ea E 12 0 0), .int (nI k), .int (nI q)] xm ym om xm ym om (some (.int (ry_ptell ym nb z k q))) := by
  refine bd_open RX7 rfl (by decide) (Nat.le_of_ble_eq_true rfl) ?_
  intro p e s m args below meth c ls C hr hlk hS hR hl
  have hx := C.1.1
  have hb := C.1.2.1
  have hy24 := hy.2.1
  have hy6 := hy.2.2.2.1
  have hl : lv_has ls 4 [(0, .ref (bd_ea E 12 0 0)), (1, .int (nI k)), (2, .int (nI q))] := hl
  refine lv_iload_n hx hb dX7_playerTold_0 rfl (lv_at hl 2 rfl) ?_
  refine lv_iconst (v := 4) hx hb dX7_playerTold_1 (by decide) ?_
  refine lv_icmp_ge (tgt := 16) hx hb dX7_playerTold_2 (by decide) (fun c2 => ?_) (fun c2 => ?_)
  · skip
    have nc2 : 4 ≤ q := (nI_leI (a := 4) (b := q) (by omega) (by omega)).mp c2
    refine lv_aload_n hx hb dX7_playerTold_16 rfl (lv_at hl 0 rfl) ?_
    refine bd_g_X7_s C hR  qf_X7_30 dX7_playerTold_17 ?_
    refine lv_iload_n hx hb dX7_playerTold_20 rfl (lv_at hl 1 rfl) ?_
    refine bd_cV1 [.int (nI k)] [] C (k_X6_seatOf l E xm ym om 0 n nb z (nI k) (by omega) hy) hR hS (bd_recv C.2 hR ⟨by decide, (by decide), (by decide)⟩ rfl rfl) qm_X7_82 qi_X6_seatOf qs_X6_seatOf qz_X6 qc_X6_seatOf qp_X6_seatOf ⟨Nat.le_of_ble_eq_true rfl, Nat.le_of_ble_eq_true rfl⟩ hl.1 (Nat.le_of_ble_eq_true rfl) dX7_playerTold_21 ⟨Nat.le_of_ble_eq_true rfl, Nat.le_of_ble_eq_true rfl⟩ (fun H locs hR hS hz21 => ?_)
    refine lv_istore_n (lv' := [(3, .int (ry_so ym 0 nb z (nI k) 48 0)), (0, .ref (bd_ea E 12 0 0)), (1, .int (nI k)), (2, .int (nI q))]) hx hb dX7_playerTold_24 rfl hl (by decide) rfl (fun ls hl => ?_)
    refine lv_iload_n hx hb dX7_playerTold_25 rfl (lv_at hl 3 rfl) ?_
    by_cases e26_4 : nI q = 4
    · refine lv_tableIn (tgt := 60) (off := 34) hx hb dX7_playerTold_26 (by rw [e26_4]; decide) (by rw [e26_4]; decide) (by rw [e26_4]; rfl) (by decide) ?_
      refine lv_aload_n hx hb dX7_playerTold_60 rfl (lv_at hl 1 rfl) ?_
      refine bd_g_X7_s C hR  qf_X7_30 dX7_playerTold_61 ?_
      refine bd_gN_X6_tired C hR (by decide) (List.mem_of_getElem? (i := 0) rfl) dX7_playerTold_64 ?_
      refine lv_iload_n hx hb dX7_playerTold_67 rfl (lv_at hl 2 rfl) ?_
      refine bd_ld_19 C hR (by decide) (j := k) (by omega) dX7_playerTold_68 ?_
      exact bd_ri C hr hlk (hR.eq rfl rfl) hS (Nat.zero_le _) (Nat.zero_le _) dX7_playerTold_69 (by first | (simp (config := { decide := true }) only [ry_ptell, ry_pt, eq_true c2, eq_true nc2, eq_true e26_4, ↓reduceIte, not_true_eq_false, not_false_eq_true, and_self, and_true, true_and, and_false, false_and]; done) | rfl)
    · skip
      by_cases e26_5 : nI q = 5
      · refine lv_tableIn (tgt := 70) (off := 44) hx hb dX7_playerTold_26 (by rw [e26_5]; decide) (by rw [e26_5]; decide) (by rw [e26_5]; rfl) (by decide) ?_
        refine lv_aload_n hx hb dX7_playerTold_70 rfl (lv_at hl 1 rfl) ?_
        refine bd_g_X7_s C hR  qf_X7_30 dX7_playerTold_71 ?_
        refine bd_gN_X6_absent C hR (by decide) (List.mem_of_getElem? (i := 11) rfl) dX7_playerTold_74 ?_
        refine lv_iload_n hx hb dX7_playerTold_77 rfl (lv_at hl 2 rfl) ?_
        refine bd_ld_20 C hR (by decide) (j := k) (by omega) dX7_playerTold_78 ?_
        exact bd_ri C hr hlk (hR.eq rfl rfl) hS (Nat.zero_le _) (Nat.zero_le _) dX7_playerTold_79 (by first | (simp (config := { decide := true }) only [ry_ptell, ry_pt, eq_true c2, eq_true nc2, eq_false e26_4, eq_true e26_5, ↓reduceIte, not_true_eq_false, not_false_eq_true, and_self, and_true, true_and, and_false, false_and]; done) | rfl)
      · skip
        by_cases e26_6 : nI q = 6
        · refine lv_tableIn (tgt := 80) (off := 54) hx hb dX7_playerTold_26 (by rw [e26_6]; decide) (by rw [e26_6]; decide) (by rw [e26_6]; rfl) (by decide) ?_
          refine lv_iload_n hx hb dX7_playerTold_80 rfl (lv_at hl 0 rfl) ?_
          refine lv_iconst (v := (-1)) hx hb dX7_playerTold_81 (by decide) ?_
          refine lv_icmp_ne (tgt := 89) hx hb dX7_playerTold_82 (by decide) (fun c82 => ?_) (fun c82 => ?_)
          · skip
            refine lv_iload_n hx hb dX7_playerTold_89 rfl (lv_at hl 0 rfl) ?_
            refine lv_bipush (v := 8) hx hb dX7_playerTold_90 (by decide) ?_
            refine lv_idiv hx hb dX7_playerTold_92 (by decide) ?_
            exact bd_ri C hr hlk (hR.eq rfl rfl) hS (Nat.zero_le _) (Nat.zero_le _) dX7_playerTold_93 (by first | (simp (config := { decide := true }) only [ry_ptell, ry_pt, eq_true c2, eq_true nc2, eq_false e26_4, eq_false e26_5, eq_true e26_6, eq_false c82, ↓reduceIte, not_true_eq_false, not_false_eq_true, and_self, and_true, true_and, and_false, false_and]; done) | rfl)
          · skip
            refine lv_iconst (v := (-1)) hx hb dX7_playerTold_85 (by decide) ?_
            refine lv_goto (tgt := 93) hx hb dX7_playerTold_86 (by decide) ?_
            exact bd_ri C hr hlk (hR.eq rfl rfl) hS (Nat.zero_le _) (Nat.zero_le _) dX7_playerTold_93 (by first | (simp (config := { decide := true }) only [ry_ptell, ry_pt, eq_true c2, eq_true nc2, eq_false e26_4, eq_false e26_5, eq_true e26_6, eq_true c82, ↓reduceIte, not_true_eq_false, not_false_eq_true, and_self, and_true, true_and, and_false, false_and]; done) | rfl)
        · skip
          by_cases e26_7 : nI q = 7
          · refine lv_tableIn (tgt := 94) (off := 68) hx hb dX7_playerTold_26 (by rw [e26_7]; decide) (by rw [e26_7]; decide) (by rw [e26_7]; rfl) (by decide) ?_
            refine lv_iload_n hx hb dX7_playerTold_94 rfl (lv_at hl 0 rfl) ?_
            refine lv_iconst (v := (-1)) hx hb dX7_playerTold_95 (by decide) ?_
            refine lv_icmp_ne (tgt := 103) hx hb dX7_playerTold_96 (by decide) (fun c96 => ?_) (fun c96 => ?_)
            · skip
              refine lv_iload_n hx hb dX7_playerTold_103 rfl (lv_at hl 0 rfl) ?_
              refine lv_bipush (v := 8) hx hb dX7_playerTold_104 (by decide) ?_
              refine lv_irem hx hb dX7_playerTold_106 (by decide) ?_
              exact bd_ri C hr hlk (hR.eq rfl rfl) hS (Nat.zero_le _) (Nat.zero_le _) dX7_playerTold_107 (by first | (simp (config := { decide := true }) only [ry_ptell, ry_pt, eq_true c2, eq_true nc2, eq_false e26_4, eq_false e26_5, eq_false e26_6, eq_true e26_7, eq_false c96, ↓reduceIte, not_true_eq_false, not_false_eq_true, and_self, and_true, true_and, and_false, false_and]; done) | rfl)
            · skip
              refine lv_iconst (v := (-1)) hx hb dX7_playerTold_99 (by decide) ?_
              refine lv_goto (tgt := 107) hx hb dX7_playerTold_100 (by decide) ?_
              exact bd_ri C hr hlk (hR.eq rfl rfl) hS (Nat.zero_le _) (Nat.zero_le _) dX7_playerTold_107 (by first | (simp (config := { decide := true }) only [ry_ptell, ry_pt, eq_true c2, eq_true nc2, eq_false e26_4, eq_false e26_5, eq_false e26_6, eq_true e26_7, eq_true c96, ↓reduceIte, not_true_eq_false, not_false_eq_true, and_self, and_true, true_and, and_false, false_and]; done) | rfl)
          · skip
            by_cases e26_8 : nI q = 8
            · refine lv_tableIn (tgt := 108) (off := 82) hx hb dX7_playerTold_26 (by rw [e26_8]; decide) (by rw [e26_8]; decide) (by rw [e26_8]; rfl) (by decide) ?_
              refine lv_aload_n hx hb dX7_playerTold_108 rfl (lv_at hl 1 rfl) ?_
              refine bd_g_X7_s C hR  qf_X7_30 dX7_playerTold_109 ?_
              refine bd_gN_X6_sat C hR (by decide) (List.mem_of_getElem? (i := 1) rfl) dX7_playerTold_112 ?_
              refine lv_iload_n hx hb dX7_playerTold_115 rfl (lv_at hl 2 rfl) ?_
              refine bd_ld_21 C hR (by decide) (j := k) (by omega) dX7_playerTold_116 ?_
              exact bd_ri C hr hlk (hR.eq rfl rfl) hS (Nat.zero_le _) (Nat.zero_le _) dX7_playerTold_117 (by first | (simp (config := { decide := true }) only [ry_ptell, ry_pt, eq_true c2, eq_true nc2, eq_false e26_4, eq_false e26_5, eq_false e26_6, eq_false e26_7, eq_true e26_8, ↓reduceIte, not_true_eq_false, not_false_eq_true, and_self, and_true, true_and, and_false, false_and]; done) | rfl)
            · skip
              have x26_4 := bd_nei e26_4
              have x26_5 := bd_nei e26_5
              have x26_6 := bd_nei e26_6
              have x26_7 := bd_nei e26_7
              have x26_8 := bd_nei e26_8
              have y26 : (nI q).toInt < 4 ∨ 8 < (nI q).toInt := by
                simp only [show ((4 : Int32).toInt) = 4 from rfl, show ((5 : Int32).toInt) = 5 from rfl, show ((6 : Int32).toInt) = 6 from rfl, show ((7 : Int32).toInt) = 7 from rfl, show ((8 : Int32).toInt) = 8 from rfl] at x26_4 x26_5 x26_6 x26_7 x26_8
                omega
              refine lv_tableOut (tgt := 118) hx hb dX7_playerTold_26 y26 (by decide) ?_
              refine lv_aload_n hx hb dX7_playerTold_118 rfl (lv_at hl 1 rfl) ?_
              refine bd_g_X7_s C hR  qf_X7_30 dX7_playerTold_119 ?_
              refine bd_gN_X6_deputy C hR (by decide) (List.mem_of_getElem? (i := 2) rfl) dX7_playerTold_122 ?_
              refine lv_iload_n hx hb dX7_playerTold_125 rfl (lv_at hl 2 rfl) ?_
              refine bd_ld_22 C hR (by decide) (j := k) (by omega) dX7_playerTold_126 ?_
              exact bd_ri C hr hlk (hR.eq rfl rfl) hS (Nat.zero_le _) (Nat.zero_le _) dX7_playerTold_127 (by first | (simp (config := { decide := true }) only [ry_ptell, ry_pt, eq_true c2, eq_true nc2, eq_false e26_4, eq_false e26_5, eq_false e26_6, eq_false e26_7, eq_false e26_8, ↓reduceIte, not_true_eq_false, not_false_eq_true, and_self, and_true, true_and, and_false, false_and]; done) | rfl)
  · skip
    have nc2 : ¬ 4 ≤ q := fun q9 => c2 ((nI_leI (a := 4) (b := q) (by omega) (by omega)).mpr q9)
    refine lv_aload_n hx hb dX7_playerTold_5 rfl (lv_at hl 0 rfl) ?_
    refine bd_g_X7_skill C hR  qf_X7_9 dX7_playerTold_6 ?_
    refine lv_iconst (v := 4) hx hb dX7_playerTold_9 (by decide) ?_
    refine lv_iload_n hx hb dX7_playerTold_10 rfl (lv_at hl 1 rfl) ?_
    refine lv_imul hx hb dX7_playerTold_11 ?_
    refine bd_ti (j := 4 * k) (pk_mul 4 k) ?_
    refine lv_iload_n hx hb dX7_playerTold_12 rfl (lv_at hl 2 rfl) ?_
    refine lv_iadd hx hb dX7_playerTold_13 ?_
    refine bd_ti (j := (4 * k) + q) (nI_add (4 * k) q) ?_
    refine bd_ld_13 C hR  (j := ((4 * k) + q)) (by omega) dX7_playerTold_14 ?_
    exact bd_ri C hr hlk (hR.eq rfl rfl) hS (Nat.zero_le _) (Nat.zero_le _) dX7_playerTold_15 (by first | (simp (config := { decide := true }) only [ry_ptell, ry_pt, eq_false c2, eq_false nc2, ↓reduceIte, not_true_eq_false, not_false_eq_true, and_self, and_true, true_and, and_false, false_and]; done) | rfl)
set_option maxHeartbeats 4000000 in
set_option maxRecDepth 100000 in
theorem k_X7_player_ok (l : Launch) (E : bd_E) (xm ym : bd_M) (om : Nat → Int64) (n : Nat) (nb : Nat) (z : (Nat→Nat)) (k : Nat) (q : Nat) (hy : ry_Sh ym n nb z) (hk : k < n) (hq : q < 10) : bd_Ct l yX7_player cX7_player 3 (some .int) 2 45 0 0 E [.ref (bd_ea E 12 0 0), .int (nI k), .int (nI q)] xm ym om xm (ry_t0 ym) om (some (.int (ry_ptell (ry_t0 ym) nb z k q))) := by
  refine bd_open RX7 rfl (by decide) (Nat.le_of_ble_eq_true rfl) ?_
  intro p e s m args below meth c ls C hr hlk hS hR hl
  have hx := C.1.1
  have hb := C.1.2.1
  have hy24 := hy.2.1
  have hy6 := hy.2.2.2.1
  have kk1 := bd_kP hk (by omega)
  have kq := bd_kL (k := q) (n := 9) (by omega) (by decide)
  have hl : lv_has ls 3 [(0, .ref (bd_ea E 12 0 0)), (1, .int (nI k)), (2, .int (nI q))] := hl
  refine lv_aload_n hx hb dX7_player_0 rfl (lv_at hl 0 rfl) ?_
  refine lv_iconst (v := 0) hx hb dX7_player_1 (by decide) ?_
  refine bd_p_X7_thrown C hR hS  qf_X7_37 dX7_player_2 (fun H locs hR hS => ?_)
  refine lv_aload_n hx hb dX7_player_5 rfl (lv_at hl 0 rfl) ?_
  refine lv_iload_n hx hb dX7_player_6 rfl (lv_at hl 1 rfl) ?_
  refine bd_cV1 [.int (nI k)] [] C (k_X7_isPlayer l E xm (bd_up ym 0 0 0 0) om n nb z (nI k) (ry_Sh_up hy (by decide))) hR hS (bd_recv C.2 hR ⟨by decide, (by decide), (by decide)⟩ rfl rfl) qm_X7_79 qi_X7_isPlayer qs_X7_isPlayer qz_X7 qc_X7_isPlayer qp_X7_isPlayer ⟨Nat.le_of_ble_eq_true rfl, Nat.le_of_ble_eq_true rfl⟩ hl.1 (Nat.le_of_ble_eq_true rfl) dX7_player_7 ⟨Nat.le_of_ble_eq_true rfl, Nat.le_of_ble_eq_true rfl⟩ (fun H locs hR hS hz7 => ?_)
  refine bd_ifeq (P := ¬ (nI k) < 0 ∧ (nI k) < nI n) (tgt := 32) C dX7_player_10 (by decide) (fun q9 => absurd kk1 q9) (fun q9 => ?_)
  refine lv_iload_n hx hb dX7_player_13 rfl (lv_at hl 2 rfl) ?_
  refine lv_iconst (v := 0) hx hb dX7_player_14 (by decide) ?_
  refine lv_bipush (v := 9) hx hb dX7_player_15 (by decide) ?_
  refine bd_cS1 [.int (nI q), .int 0, .int 9] [] C (k_X7_isIn l E xm (bd_up ym 0 0 0 0) om (nI q) 0 9 ) hR hS qm_X7_44 qt_X7_isIn qz_X7 qc_X7_isIn qp_X7_isIn.2 ⟨Nat.le_of_ble_eq_true rfl, Nat.le_of_ble_eq_true rfl⟩ hl.1 (Nat.le_of_ble_eq_true rfl) dX7_player_17 ⟨Nat.le_of_ble_eq_true rfl, Nat.le_of_ble_eq_true rfl⟩ (fun H locs hR hS hz17 => ?_)
  refine bd_ifeq (P := ¬ (nI q) < 0 ∧ ¬ 9 < (nI q)) (tgt := 32) C dX7_player_20 (by decide) (fun q9 => absurd kq q9) (fun q9 => ?_)
  refine lv_aload_n hx hb dX7_player_23 rfl (lv_at hl 0 rfl) ?_
  refine lv_iload_n hx hb dX7_player_24 rfl (lv_at hl 1 rfl) ?_
  refine lv_iload_n hx hb dX7_player_25 rfl (lv_at hl 2 rfl) ?_
  refine bd_cV1 [.int (nI k), .int (nI q)] [] C (k_X7_playerTold l E xm (bd_up ym 0 0 0 0) om n nb z k q (ry_Sh_up hy (by decide)) (by omega) (by omega)) hR hS (bd_recv C.2 hR ⟨by decide, (by decide), (by decide)⟩ rfl rfl) qm_X7_110 qi_X7_playerTold qs_X7_playerTold qz_X7 qc_X7_playerTold qp_X7_playerTold ⟨Nat.le_of_ble_eq_true rfl, Nat.le_of_ble_eq_true rfl⟩ hl.1 (Nat.le_of_ble_eq_true rfl) dX7_player_26 ⟨Nat.le_of_ble_eq_true rfl, Nat.le_of_ble_eq_true rfl⟩ (fun H locs hR hS hz26 => ?_)
  refine lv_goto (tgt := 37) hx hb dX7_player_29 (by decide) ?_
  exact bd_ri C hr hlk (hR.eq rfl (by first | (simp (config := { decide := true }) only [↓reduceIte, not_true_eq_false, not_false_eq_true, and_self, and_true, true_and, and_false, false_and]; done) | rfl)) hS (Nat.zero_le _) (Nat.zero_le _) dX7_player_37 (by first | (simp (config := { decide := true }) only [↓reduceIte, not_true_eq_false, not_false_eq_true, and_self, and_true, true_and, and_false, false_and]; done) | rfl)
set_option maxHeartbeats 4000000 in
set_option maxRecDepth 100000 in
theorem k_X7_player_1 (l : Launch) (E : bd_E) (xm ym : bd_M) (om : Nat → Int64) (n : Nat) (nb : Nat) (z : (Nat→Nat)) (u : Int32) (v : Int32) (hy : ry_Sh ym n nb z) (h1 : ¬ ((¬ u < 0 ∧ u < nI n) ∧ ¬ v < 0 ∧ ¬ 9 < v)) : bd_Ct l yX7_player cX7_player 3 (some .int) 2 45 0 0 E [.ref (bd_ea E 12 0 0), .int u, .int v] xm ym om xm (bd_up (ry_t0 ym) 0 0 0 1) om (some (.int 0)) := by
  refine bd_open RX7 rfl (by decide) (Nat.le_of_ble_eq_true rfl) ?_
  intro p e s m args below meth c ls C hr hlk hS hR hl
  have hx := C.1.1
  have hb := C.1.2.1
  have hy24 := hy.2.1
  have hy6 := hy.2.2.2.1
  have hl : lv_has ls 3 [(0, .ref (bd_ea E 12 0 0)), (1, .int u), (2, .int v)] := hl
  refine lv_aload_n hx hb dX7_player_0 rfl (lv_at hl 0 rfl) ?_
  refine lv_iconst (v := 0) hx hb dX7_player_1 (by decide) ?_
  refine bd_p_X7_thrown C hR hS  qf_X7_37 dX7_player_2 (fun H locs hR hS => ?_)
  refine lv_aload_n hx hb dX7_player_5 rfl (lv_at hl 0 rfl) ?_
  refine lv_iload_n hx hb dX7_player_6 rfl (lv_at hl 1 rfl) ?_
  refine bd_cV1 [.int u] [] C (k_X7_isPlayer l E xm (bd_up ym 0 0 0 0) om n nb z u (ry_Sh_up hy (by decide))) hR hS (bd_recv C.2 hR ⟨by decide, (by decide), (by decide)⟩ rfl rfl) qm_X7_79 qi_X7_isPlayer qs_X7_isPlayer qz_X7 qc_X7_isPlayer qp_X7_isPlayer ⟨Nat.le_of_ble_eq_true rfl, Nat.le_of_ble_eq_true rfl⟩ hl.1 (Nat.le_of_ble_eq_true rfl) dX7_player_7 ⟨Nat.le_of_ble_eq_true rfl, Nat.le_of_ble_eq_true rfl⟩ (fun H locs hR hS hz7 => ?_)
  refine bd_ifeq (P := ¬ u < 0 ∧ u < nI n) (tgt := 32) C dX7_player_10 (by decide) (fun c10 => ?_) (fun c10 => ?_)
  · skip
    refine lv_aload_n hx hb dX7_player_32 rfl (lv_at hl 0 rfl) ?_
    refine lv_iconst (v := 1) hx hb dX7_player_33 (by decide) ?_
    refine bd_cV1 [.int 1] [] C (k_X7_no l E xm (bd_up ym 0 0 0 0) om 1 ) hR hS (bd_recv C.2 hR ⟨by decide, (by decide), (by decide)⟩ rfl rfl) qm_X7_55 qi_X7_no qs_X7_no qz_X7 qc_X7_no qp_X7_no ⟨Nat.le_of_ble_eq_true rfl, Nat.le_of_ble_eq_true rfl⟩ hl.1 (Nat.le_of_ble_eq_true rfl) dX7_player_34 ⟨Nat.le_of_ble_eq_true rfl, Nat.le_of_ble_eq_true rfl⟩ (fun H locs hR hS hz34 => ?_)
    exact bd_ri C hr hlk (hR.eq rfl (by first | (simp (config := { decide := true }) only [eq_false c10, ↓reduceIte, not_true_eq_false, not_false_eq_true, and_self, and_true, true_and, and_false, false_and]; done) | rfl)) hS (Nat.zero_le _) (Nat.zero_le _) dX7_player_37 rfl
  · skip
    refine lv_iload_n hx hb dX7_player_13 rfl (lv_at hl 2 rfl) ?_
    refine lv_iconst (v := 0) hx hb dX7_player_14 (by decide) ?_
    refine lv_bipush (v := 9) hx hb dX7_player_15 (by decide) ?_
    refine bd_cS1 [.int v, .int 0, .int 9] [] C (k_X7_isIn l E xm (bd_up ym 0 0 0 0) om v 0 9 ) hR hS qm_X7_44 qt_X7_isIn qz_X7 qc_X7_isIn qp_X7_isIn.2 ⟨Nat.le_of_ble_eq_true rfl, Nat.le_of_ble_eq_true rfl⟩ hl.1 (Nat.le_of_ble_eq_true rfl) dX7_player_17 ⟨Nat.le_of_ble_eq_true rfl, Nat.le_of_ble_eq_true rfl⟩ (fun H locs hR hS hz17 => ?_)
    refine bd_ifeq (P := ¬ v < 0 ∧ ¬ 9 < v) (tgt := 32) C dX7_player_20 (by decide) (fun c20 => ?_) (fun c20 => ?_)
    · skip
      refine lv_aload_n hx hb dX7_player_32 rfl (lv_at hl 0 rfl) ?_
      refine lv_iconst (v := 1) hx hb dX7_player_33 (by decide) ?_
      refine bd_cV1 [.int 1] [] C (k_X7_no l E xm (bd_up ym 0 0 0 0) om 1 ) hR hS (bd_recv C.2 hR ⟨by decide, (by decide), (by decide)⟩ rfl rfl) qm_X7_55 qi_X7_no qs_X7_no qz_X7 qc_X7_no qp_X7_no ⟨Nat.le_of_ble_eq_true rfl, Nat.le_of_ble_eq_true rfl⟩ hl.1 (Nat.le_of_ble_eq_true rfl) dX7_player_34 ⟨Nat.le_of_ble_eq_true rfl, Nat.le_of_ble_eq_true rfl⟩ (fun H locs hR hS hz34 => ?_)
      exact bd_ri C hr hlk (hR.eq rfl (by first | (simp (config := { decide := true }) only [eq_true c10, eq_false c20, ↓reduceIte, not_true_eq_false, not_false_eq_true, and_self, and_true, true_and, and_false, false_and]; done) | rfl)) hS (Nat.zero_le _) (Nat.zero_le _) dX7_player_37 rfl
    · exact absurd ⟨c10, c20⟩ h1
set_option maxHeartbeats 4000000 in
set_option maxRecDepth 100000 in
theorem k_X7_bandTold (l : Launch) (E : bd_E) (xm ym : bd_M) (om : Nat → Int64) (n : Nat) (nb : Nat) (z : (Nat→Nat)) (b : Nat) (q : Nat) (hy : ry_Sh ym n nb z) (hb : b < nb) (hq : q < 9) : bd_Ct l yX7_bandTold cX7_bandTold 4 (some .int) 1 23 1 9 E [.ref (bd_ea E 12 0 0), .int (nI b), .int (nI q)] xm ym om xm ym om (some (.int (ry_bt ym b (z b) q))) := by
  refine bd_open RX7 rfl (by decide) (Nat.le_of_ble_eq_true rfl) ?_
  intro p e s m args below meth c ls C hr hlk hS hR hl
  have hx := C.1.1
  have hb := C.1.2.1
  have hy24 := hy.2.1
  have hy6 := hy.2.2.2.1
  have z8 := (hy.2.2.2.2.1 b (by omega)).2
  have hl : lv_has ls 4 [(0, .ref (bd_ea E 12 0 0)), (1, .int (nI b)), (2, .int (nI q))] := hl
  refine lv_bipush (v := 9) hx hb dX7_bandTold_0 (by decide) ?_
  refine bd_tnew (n := 9) C hR hS (by omega) ⟨by show 0 + 1 ≤ 1; omega, by show 0 + 9 ≤ 9; omega⟩ dX7_bandTold_2 (fun q1 H hR hT hS => ?_)
  refine lv_dup hx hb dX7_bandTold_4 rfl ?_
  refine lv_iconst (v := 0) hx hb dX7_bandTold_5 (by decide) ?_
  refine lv_aload_n hx hb dX7_bandTold_6 rfl (lv_at hl 0 rfl) ?_
  refine bd_g_X7_seats C hR  qf_X7_13 dX7_bandTold_7 ?_
  refine lv_iload_n hx hb dX7_bandTold_10 rfl (lv_at hl 1 rfl) ?_
  refine bd_ld_14 C hR  (j := b) (by omega) dX7_bandTold_11 ?_
  have zz11 := ((show ry_Sh ym n nb z from hy).2.2.2.2.1 b (by omega)).2
  rw [show ym 14 0 b = nI (z b) from ((show ry_Sh ym n nb z from hy).2.2.2.2.1 b (by omega)).1]
  refine bd_ti2 (j := 0) rfl ?_
  refine bd_tst (j := 0) C hR hT hS (by omega) (by omega) dX7_bandTold_12 (fun H locs hR hT hS => ?_)
  refine lv_dup hx hb dX7_bandTold_13 rfl ?_
  refine lv_iconst (v := 1) hx hb dX7_bandTold_14 (by decide) ?_
  refine lv_aload_n hx hb dX7_bandTold_15 rfl (lv_at hl 0 rfl) ?_
  refine bd_g_X7_s C hR  qf_X7_30 dX7_bandTold_16 ?_
  refine lv_iload_n hx hb dX7_bandTold_19 rfl (lv_at hl 1 rfl) ?_
  refine bd_cVR [.int (nI b)] [.int 1, .ref q1, .ref q1] C (k_X6_members_R l E xm ym om 0 n nb z b (by omega) hy (by omega)) hR hS (bd_recv C.2 hR ⟨by decide, (by decide), (by decide)⟩ rfl rfl) qm_X7_113 qi_X6_members qs_X6_members qz_X6 qc_X6_members qp_X6_members ⟨Nat.le_of_ble_eq_true rfl, Nat.le_of_ble_eq_true rfl⟩ hl.1 (Nat.le_of_ble_eq_true rfl) dX7_bandTold_20 ⟨by show (0 + 1) + 0 ≤ 1; omega, by show (0 + 9) + 0 ≤ 9; omega⟩ (fun H locs hR hS hz20 hk => ?_)
  have hT := hT.kept hk
  refine bd_ti2 (j := 1) rfl ?_
  refine bd_tst (j := 1) C hR hT hS (by omega) (by omega) dX7_bandTold_23 (fun H locs hR hT hS => ?_)
  refine lv_dup hx hb dX7_bandTold_24 rfl ?_
  refine lv_iconst (v := 2) hx hb dX7_bandTold_25 (by decide) ?_
  refine lv_aload_n hx hb dX7_bandTold_26 rfl (lv_at hl 0 rfl) ?_
  refine bd_g_X7_s C hR  qf_X7_30 dX7_bandTold_27 ?_
  refine bd_gN_X6_spirit C hR (by decide) (List.mem_of_getElem? (i := 12) rfl) dX7_bandTold_30 ?_
  refine lv_iload_n hx hb dX7_bandTold_33 rfl (lv_at hl 1 rfl) ?_
  refine bd_ld_25 C hR (by decide) (j := b) (by omega) dX7_bandTold_34 ?_
  refine bd_ti2 (j := 2) rfl ?_
  refine bd_tst (j := 2) C hR hT hS (by omega) (by omega) dX7_bandTold_35 (fun H locs hR hT hS => ?_)
  refine lv_dup hx hb dX7_bandTold_36 rfl ?_
  refine lv_iconst (v := 3) hx hb dX7_bandTold_37 (by decide) ?_
  refine lv_aload_n hx hb dX7_bandTold_38 rfl (lv_at hl 0 rfl) ?_
  refine bd_g_X7_s C hR  qf_X7_30 dX7_bandTold_39 ?_
  refine bd_gN_X6_latest C hR (by decide) (List.mem_of_getElem? (i := 10) rfl) dX7_bandTold_42 ?_
  refine lv_iconst (v := 4) hx hb dX7_bandTold_45 (by decide) ?_
  refine lv_iload_n hx hb dX7_bandTold_46 rfl (lv_at hl 1 rfl) ?_
  refine lv_imul hx hb dX7_bandTold_47 ?_
  refine bd_ti (j := 4 * b) (pk_mul 4 b) ?_
  refine bd_ld_28 C hR (by decide) (j := (4 * b)) (by omega) dX7_bandTold_48 ?_
  refine bd_ti2 (j := 3) rfl ?_
  refine bd_tst (j := 3) C hR hT hS (by omega) (by omega) dX7_bandTold_49 (fun H locs hR hT hS => ?_)
  refine lv_dup hx hb dX7_bandTold_50 rfl ?_
  refine lv_iconst (v := 4) hx hb dX7_bandTold_51 (by decide) ?_
  refine lv_aload_n hx hb dX7_bandTold_52 rfl (lv_at hl 0 rfl) ?_
  refine bd_g_X7_s C hR  qf_X7_30 dX7_bandTold_53 ?_
  refine bd_gN_X6_latest C hR (by decide) (List.mem_of_getElem? (i := 10) rfl) dX7_bandTold_56 ?_
  refine lv_iconst (v := 4) hx hb dX7_bandTold_59 (by decide) ?_
  refine lv_iload_n hx hb dX7_bandTold_60 rfl (lv_at hl 1 rfl) ?_
  refine lv_imul hx hb dX7_bandTold_61 ?_
  refine bd_ti (j := 4 * b) (pk_mul 4 b) ?_
  refine lv_iconst (v := 1) hx hb dX7_bandTold_62 (by decide) ?_
  refine lv_iadd hx hb dX7_bandTold_63 ?_
  refine bd_ti (j := (4 * b) + 1) (nI_add (4 * b) 1) ?_
  refine bd_ld_28 C hR (by decide) (j := ((4 * b) + 1)) (by omega) dX7_bandTold_64 ?_
  refine bd_ti2 (j := 4) rfl ?_
  refine bd_tst (j := 4) C hR hT hS (by omega) (by omega) dX7_bandTold_65 (fun H locs hR hT hS => ?_)
  refine lv_dup hx hb dX7_bandTold_66 rfl ?_
  refine lv_iconst (v := 5) hx hb dX7_bandTold_67 (by decide) ?_
  refine lv_aload_n hx hb dX7_bandTold_68 rfl (lv_at hl 0 rfl) ?_
  refine bd_g_X7_s C hR  qf_X7_30 dX7_bandTold_69 ?_
  refine bd_gN_X6_latest C hR (by decide) (List.mem_of_getElem? (i := 10) rfl) dX7_bandTold_72 ?_
  refine lv_iconst (v := 4) hx hb dX7_bandTold_75 (by decide) ?_
  refine lv_iload_n hx hb dX7_bandTold_76 rfl (lv_at hl 1 rfl) ?_
  refine lv_imul hx hb dX7_bandTold_77 ?_
  refine bd_ti (j := 4 * b) (pk_mul 4 b) ?_
  refine lv_iconst (v := 2) hx hb dX7_bandTold_78 (by decide) ?_
  refine lv_iadd hx hb dX7_bandTold_79 ?_
  refine bd_ti (j := (4 * b) + 2) (nI_add (4 * b) 2) ?_
  refine bd_ld_28 C hR (by decide) (j := ((4 * b) + 2)) (by omega) dX7_bandTold_80 ?_
  refine bd_ti2 (j := 5) rfl ?_
  refine bd_tst (j := 5) C hR hT hS (by omega) (by omega) dX7_bandTold_81 (fun H locs hR hT hS => ?_)
  refine lv_dup hx hb dX7_bandTold_82 rfl ?_
  refine lv_bipush (v := 6) hx hb dX7_bandTold_83 (by decide) ?_
  refine lv_aload_n hx hb dX7_bandTold_85 rfl (lv_at hl 0 rfl) ?_
  refine bd_g_X7_s C hR  qf_X7_30 dX7_bandTold_86 ?_
  refine bd_gN_X6_latest C hR (by decide) (List.mem_of_getElem? (i := 10) rfl) dX7_bandTold_89 ?_
  refine lv_iconst (v := 4) hx hb dX7_bandTold_92 (by decide) ?_
  refine lv_iload_n hx hb dX7_bandTold_93 rfl (lv_at hl 1 rfl) ?_
  refine lv_imul hx hb dX7_bandTold_94 ?_
  refine bd_ti (j := 4 * b) (pk_mul 4 b) ?_
  refine lv_iconst (v := 3) hx hb dX7_bandTold_95 (by decide) ?_
  refine lv_iadd hx hb dX7_bandTold_96 ?_
  refine bd_ti (j := (4 * b) + 3) (nI_add (4 * b) 3) ?_
  refine bd_ld_28 C hR (by decide) (j := ((4 * b) + 3)) (by omega) dX7_bandTold_97 ?_
  refine bd_ti2 (j := 6) rfl ?_
  refine bd_tst (j := 6) C hR hT hS (by omega) (by omega) dX7_bandTold_98 (fun H locs hR hT hS => ?_)
  refine lv_dup hx hb dX7_bandTold_99 rfl ?_
  refine lv_bipush (v := 7) hx hb dX7_bandTold_100 (by decide) ?_
  refine lv_aload_n hx hb dX7_bandTold_102 rfl (lv_at hl 0 rfl) ?_
  refine bd_g_X7_s C hR  qf_X7_30 dX7_bandTold_103 ?_
  refine bd_gN_X6_points C hR (by decide) (List.mem_of_getElem? (i := 3) rfl) dX7_bandTold_106 ?_
  refine lv_iload_n hx hb dX7_bandTold_109 rfl (lv_at hl 1 rfl) ?_
  refine bd_ld_26 C hR (by decide) (j := b) (by omega) dX7_bandTold_110 ?_
  refine bd_ti2 (j := 7) rfl ?_
  refine bd_tst (j := 7) C hR hT hS (by omega) (by omega) dX7_bandTold_111 (fun H locs hR hT hS => ?_)
  refine lv_dup hx hb dX7_bandTold_112 rfl ?_
  refine lv_bipush (v := 8) hx hb dX7_bandTold_113 (by decide) ?_
  refine lv_aload_n hx hb dX7_bandTold_115 rfl (lv_at hl 0 rfl) ?_
  refine bd_g_X7_s C hR  qf_X7_30 dX7_bandTold_116 ?_
  refine bd_gN_X6_outs C hR (by decide) (List.mem_of_getElem? (i := 4) rfl) dX7_bandTold_119 ?_
  refine lv_iload_n hx hb dX7_bandTold_122 rfl (lv_at hl 1 rfl) ?_
  refine bd_ld_27 C hR (by decide) (j := b) (by omega) dX7_bandTold_123 ?_
  refine bd_ti2 (j := 8) rfl ?_
  refine bd_tst (j := 8) C hR hT hS (by omega) (by omega) dX7_bandTold_124 (fun H locs hR hT hS => ?_)
  refine lv_astore_n (lv' := [(3, .ref q1), (0, .ref (bd_ea E 12 0 0)), (1, .int (nI b)), (2, .int (nI q))]) hx hb dX7_bandTold_125 rfl hl (by decide) rfl (fun ls hl => ?_)
  refine lv_aload_n hx hb dX7_bandTold_126 rfl (lv_at hl 0 rfl) ?_
  refine lv_iload_n hx hb dX7_bandTold_127 rfl (lv_at hl 3 rfl) ?_
  refine bd_tld (j := q) C hT (by omega) (by omega) dX7_bandTold_128 ?_
  exact bd_ri C hr hlk (hR.eq rfl rfl) hS (by show (0 + 1) ≤ 1; omega) (by show (0 + 9) ≤ 9; omega) dX7_bandTold_129 (by first | rfl | (rfl))
set_option maxHeartbeats 4000000 in
set_option maxRecDepth 100000 in
theorem k_X7_band_ok (l : Launch) (E : bd_E) (xm ym : bd_M) (om : Nat → Int64) (n : Nat) (nb : Nat) (z : (Nat→Nat)) (b : Nat) (q : Nat) (hy : ry_Sh ym n nb z) (hb : b < nb) (hq : q < 9) : bd_Ct l yX7_band cX7_band 3 (some .int) 2 46 1 9 E [.ref (bd_ea E 12 0 0), .int (nI b), .int (nI q)] xm ym om xm (ry_t0 ym) om (some (.int (ry_bt (ry_t0 ym) b (z b) q))) := by
  refine bd_open RX7 rfl (by decide) (Nat.le_of_ble_eq_true rfl) ?_
  intro p e s m args below meth c ls C hr hlk hS hR hl
  have hx := C.1.1
  have hb := C.1.2.1
  have hy24 := hy.2.1
  have hy6 := hy.2.2.2.1
  have kb := bd_kP (by omega : b < nb) (by omega)
  have kq := bd_kL (k := q) (n := 8) (by omega) (by decide)
  have hl : lv_has ls 3 [(0, .ref (bd_ea E 12 0 0)), (1, .int (nI b)), (2, .int (nI q))] := hl
  refine lv_aload_n hx hb dX7_band_0 rfl (lv_at hl 0 rfl) ?_
  refine lv_iconst (v := 0) hx hb dX7_band_1 (by decide) ?_
  refine bd_p_X7_thrown C hR hS  qf_X7_37 dX7_band_2 (fun H locs hR hS => ?_)
  refine lv_aload_n hx hb dX7_band_5 rfl (lv_at hl 0 rfl) ?_
  refine lv_iload_n hx hb dX7_band_6 rfl (lv_at hl 1 rfl) ?_
  refine bd_cV1 [.int (nI b)] [] C (k_X7_isBand l E xm (bd_up ym 0 0 0 0) om n nb z (nI b) (ry_Sh_up hy (by decide))) hR hS (bd_recv C.2 hR ⟨by decide, (by decide), (by decide)⟩ rfl rfl) qm_X7_51 qi_X7_isBand qs_X7_isBand qz_X7 qc_X7_isBand qp_X7_isBand ⟨Nat.le_of_ble_eq_true rfl, Nat.le_of_ble_eq_true rfl⟩ hl.1 (Nat.le_of_ble_eq_true rfl) dX7_band_7 ⟨by show 0 + 0 ≤ 1; omega, by show 0 + 0 ≤ 9; omega⟩ (fun H locs hR hS hz7 => ?_)
  refine bd_ifeq (P := ¬ (nI b) < 0 ∧ (nI b) < nI nb) (tgt := 32) C dX7_band_10 (by decide) (fun q9 => absurd kb q9) (fun q9 => ?_)
  refine lv_iload_n hx hb dX7_band_13 rfl (lv_at hl 2 rfl) ?_
  refine lv_iconst (v := 0) hx hb dX7_band_14 (by decide) ?_
  refine lv_bipush (v := 8) hx hb dX7_band_15 (by decide) ?_
  refine bd_cS1 [.int (nI q), .int 0, .int 8] [] C (k_X7_isIn l E xm (bd_up ym 0 0 0 0) om (nI q) 0 8 ) hR hS qm_X7_44 qt_X7_isIn qz_X7 qc_X7_isIn qp_X7_isIn.2 ⟨Nat.le_of_ble_eq_true rfl, Nat.le_of_ble_eq_true rfl⟩ hl.1 (Nat.le_of_ble_eq_true rfl) dX7_band_17 ⟨by show 0 + 0 ≤ 1; omega, by show 0 + 0 ≤ 9; omega⟩ (fun H locs hR hS hz17 => ?_)
  refine bd_ifeq (P := ¬ (nI q) < 0 ∧ ¬ 8 < (nI q)) (tgt := 32) C dX7_band_20 (by decide) (fun q9 => absurd kq q9) (fun q9 => ?_)
  refine lv_aload_n hx hb dX7_band_23 rfl (lv_at hl 0 rfl) ?_
  refine lv_iload_n hx hb dX7_band_24 rfl (lv_at hl 1 rfl) ?_
  refine lv_iload_n hx hb dX7_band_25 rfl (lv_at hl 2 rfl) ?_
  refine bd_cV1 [.int (nI b), .int (nI q)] [] C (k_X7_bandTold l E xm (bd_up ym 0 0 0 0) om n nb z b q (ry_Sh_up hy (by decide)) (by omega) (by omega)) hR hS (bd_recv C.2 hR ⟨by decide, (by decide), (by decide)⟩ rfl rfl) qm_X7_122 qi_X7_bandTold qs_X7_bandTold qz_X7 qc_X7_bandTold qp_X7_bandTold ⟨Nat.le_of_ble_eq_true rfl, Nat.le_of_ble_eq_true rfl⟩ hl.1 (Nat.le_of_ble_eq_true rfl) dX7_band_26 ⟨by show 0 + 1 ≤ 1; omega, by show 0 + 9 ≤ 9; omega⟩ (fun H locs hR hS hz26 => ?_)
  refine lv_goto (tgt := 37) hx hb dX7_band_29 (by decide) ?_
  exact bd_ri C hr hlk (hR.eq rfl (by first | (simp (config := { decide := true }) only [↓reduceIte, not_true_eq_false, not_false_eq_true, and_self, and_true, true_and, and_false, false_and]; done) | rfl)) hS (by show (0 + 1) ≤ 1; omega) (by show (0 + 9) ≤ 9; omega) dX7_band_37 (by first | (simp (config := { decide := true }) only [↓reduceIte, not_true_eq_false, not_false_eq_true, and_self, and_true, true_and, and_false, false_and]; done) | rfl)
set_option maxHeartbeats 4000000 in
set_option maxRecDepth 100000 in
theorem k_X7_band_1 (l : Launch) (E : bd_E) (xm ym : bd_M) (om : Nat → Int64) (n : Nat) (nb : Nat) (z : (Nat→Nat)) (u : Int32) (v : Int32) (hy : ry_Sh ym n nb z) (h1 : ¬ ((¬ u < 0 ∧ u < nI nb) ∧ ¬ v < 0 ∧ ¬ 8 < v)) : bd_Ct l yX7_band cX7_band 3 (some .int) 2 46 0 0 E [.ref (bd_ea E 12 0 0), .int u, .int v] xm ym om xm (bd_up (ry_t0 ym) 0 0 0 1) om (some (.int 0)) := by
  refine bd_open RX7 rfl (by decide) (Nat.le_of_ble_eq_true rfl) ?_
  intro p e s m args below meth c ls C hr hlk hS hR hl
  have hx := C.1.1
  have hb := C.1.2.1
  have hy24 := hy.2.1
  have hy6 := hy.2.2.2.1
  have hl : lv_has ls 3 [(0, .ref (bd_ea E 12 0 0)), (1, .int u), (2, .int v)] := hl
  refine lv_aload_n hx hb dX7_band_0 rfl (lv_at hl 0 rfl) ?_
  refine lv_iconst (v := 0) hx hb dX7_band_1 (by decide) ?_
  refine bd_p_X7_thrown C hR hS  qf_X7_37 dX7_band_2 (fun H locs hR hS => ?_)
  refine lv_aload_n hx hb dX7_band_5 rfl (lv_at hl 0 rfl) ?_
  refine lv_iload_n hx hb dX7_band_6 rfl (lv_at hl 1 rfl) ?_
  refine bd_cV1 [.int u] [] C (k_X7_isBand l E xm (bd_up ym 0 0 0 0) om n nb z u (ry_Sh_up hy (by decide))) hR hS (bd_recv C.2 hR ⟨by decide, (by decide), (by decide)⟩ rfl rfl) qm_X7_51 qi_X7_isBand qs_X7_isBand qz_X7 qc_X7_isBand qp_X7_isBand ⟨Nat.le_of_ble_eq_true rfl, Nat.le_of_ble_eq_true rfl⟩ hl.1 (Nat.le_of_ble_eq_true rfl) dX7_band_7 ⟨Nat.le_of_ble_eq_true rfl, Nat.le_of_ble_eq_true rfl⟩ (fun H locs hR hS hz7 => ?_)
  refine bd_ifeq (P := ¬ u < 0 ∧ u < nI nb) (tgt := 32) C dX7_band_10 (by decide) (fun c10 => ?_) (fun c10 => ?_)
  · skip
    refine lv_aload_n hx hb dX7_band_32 rfl (lv_at hl 0 rfl) ?_
    refine lv_iconst (v := 1) hx hb dX7_band_33 (by decide) ?_
    refine bd_cV1 [.int 1] [] C (k_X7_no l E xm (bd_up ym 0 0 0 0) om 1 ) hR hS (bd_recv C.2 hR ⟨by decide, (by decide), (by decide)⟩ rfl rfl) qm_X7_55 qi_X7_no qs_X7_no qz_X7 qc_X7_no qp_X7_no ⟨Nat.le_of_ble_eq_true rfl, Nat.le_of_ble_eq_true rfl⟩ hl.1 (Nat.le_of_ble_eq_true rfl) dX7_band_34 ⟨Nat.le_of_ble_eq_true rfl, Nat.le_of_ble_eq_true rfl⟩ (fun H locs hR hS hz34 => ?_)
    exact bd_ri C hr hlk (hR.eq rfl (by first | (simp (config := { decide := true }) only [eq_false c10, ↓reduceIte, not_true_eq_false, not_false_eq_true, and_self, and_true, true_and, and_false, false_and]; done) | rfl)) hS (Nat.zero_le _) (Nat.zero_le _) dX7_band_37 rfl
  · skip
    refine lv_iload_n hx hb dX7_band_13 rfl (lv_at hl 2 rfl) ?_
    refine lv_iconst (v := 0) hx hb dX7_band_14 (by decide) ?_
    refine lv_bipush (v := 8) hx hb dX7_band_15 (by decide) ?_
    refine bd_cS1 [.int v, .int 0, .int 8] [] C (k_X7_isIn l E xm (bd_up ym 0 0 0 0) om v 0 8 ) hR hS qm_X7_44 qt_X7_isIn qz_X7 qc_X7_isIn qp_X7_isIn.2 ⟨Nat.le_of_ble_eq_true rfl, Nat.le_of_ble_eq_true rfl⟩ hl.1 (Nat.le_of_ble_eq_true rfl) dX7_band_17 ⟨Nat.le_of_ble_eq_true rfl, Nat.le_of_ble_eq_true rfl⟩ (fun H locs hR hS hz17 => ?_)
    refine bd_ifeq (P := ¬ v < 0 ∧ ¬ 8 < v) (tgt := 32) C dX7_band_20 (by decide) (fun c20 => ?_) (fun c20 => ?_)
    · skip
      refine lv_aload_n hx hb dX7_band_32 rfl (lv_at hl 0 rfl) ?_
      refine lv_iconst (v := 1) hx hb dX7_band_33 (by decide) ?_
      refine bd_cV1 [.int 1] [] C (k_X7_no l E xm (bd_up ym 0 0 0 0) om 1 ) hR hS (bd_recv C.2 hR ⟨by decide, (by decide), (by decide)⟩ rfl rfl) qm_X7_55 qi_X7_no qs_X7_no qz_X7 qc_X7_no qp_X7_no ⟨Nat.le_of_ble_eq_true rfl, Nat.le_of_ble_eq_true rfl⟩ hl.1 (Nat.le_of_ble_eq_true rfl) dX7_band_34 ⟨Nat.le_of_ble_eq_true rfl, Nat.le_of_ble_eq_true rfl⟩ (fun H locs hR hS hz34 => ?_)
      exact bd_ri C hr hlk (hR.eq rfl (by first | (simp (config := { decide := true }) only [eq_true c10, eq_false c20, ↓reduceIte, not_true_eq_false, not_false_eq_true, and_self, and_true, true_and, and_false, false_and]; done) | rfl)) hS (Nat.zero_le _) (Nat.zero_le _) dX7_band_37 rfl
    · exact absurd ⟨c10, c20⟩ h1
set_option maxHeartbeats 4000000 in
set_option maxRecDepth 100000 in
theorem k_X7_chairTold (l : Launch) (E : bd_E) (xm ym : bd_M) (om : Nat → Int64) (n : Nat) (nb : Nat) (z : (Nat→Nat)) (k : Nat) (v : Int32) (hy : ry_Sh ym n nb z) (hk : k < 48) : bd_Ct l yX7_chairTold cX7_chairTold 3 (some .int) 0 0 0 0 E [.ref (bd_ea E 12 0 0), .int (nI k), .int v] xm ym om xm ym om (some (.int (ry_ctell ym k v))) := by
  refine bd_open RX7 rfl (by decide) (Nat.le_of_ble_eq_true rfl) ?_
  intro p e s m args below meth c ls C hr hlk hS hR hl
  have hx := C.1.1
  have hb := C.1.2.1
  have hy24 := hy.2.1
  have hy6 := hy.2.2.2.1
  have hl : lv_has ls 3 [(0, .ref (bd_ea E 12 0 0)), (1, .int (nI k)), (2, .int v)] := hl
  refine lv_iload_n hx hb dX7_chairTold_0 rfl (lv_at hl 2 rfl) ?_
  refine lv_if_ne (tgt := 13) hx hb dX7_chairTold_1 (by decide) (fun c1 => ?_) (fun c1 => ?_)
  · skip
    refine lv_iload_n hx hb dX7_chairTold_13 rfl (lv_at hl 2 rfl) ?_
    refine lv_iconst (v := 1) hx hb dX7_chairTold_14 (by decide) ?_
    refine lv_icmp_ne (tgt := 30) hx hb dX7_chairTold_15 (by decide) (fun c15 => ?_) (fun c15 => ?_)
    · skip
      refine lv_aload_n hx hb dX7_chairTold_30 rfl (lv_at hl 0 rfl) ?_
      refine bd_g_X7_s C hR  qf_X7_30 dX7_chairTold_31 ?_
      refine bd_gN_X6_who C hR (by decide) (List.mem_of_getElem? (i := 9) rfl) dX7_chairTold_34 ?_
      refine lv_iload_n hx hb dX7_chairTold_37 rfl (lv_at hl 1 rfl) ?_
      refine bd_ld_24 C hR (by decide) (j := k) (by omega) dX7_chairTold_38 ?_
      exact bd_ri C hr hlk (hR.eq rfl rfl) hS (Nat.zero_le _) (Nat.zero_le _) dX7_chairTold_39 (by first | (simp (config := { decide := true }) only [ry_ctell, eq_false c1, eq_false c15, ↓reduceIte, not_true_eq_false, not_false_eq_true, and_self, and_true, true_and, and_false, false_and]; done) | rfl)
    · skip
      refine lv_aload_n hx hb dX7_chairTold_18 rfl (lv_at hl 0 rfl) ?_
      refine bd_g_X7_s C hR  qf_X7_30 dX7_chairTold_19 ?_
      refine bd_gN_X6_member C hR (by decide) (List.mem_of_getElem? (i := 8) rfl) dX7_chairTold_22 ?_
      refine lv_iload_n hx hb dX7_chairTold_25 rfl (lv_at hl 1 rfl) ?_
      refine bd_ld_23 C hR (by decide) (j := k) (by omega) dX7_chairTold_26 ?_
      refine lv_goto (tgt := 39) hx hb dX7_chairTold_27 (by decide) ?_
      exact bd_ri C hr hlk (hR.eq rfl rfl) hS (Nat.zero_le _) (Nat.zero_le _) dX7_chairTold_39 (by first | (simp (config := { decide := true }) only [ry_ctell, eq_false c1, eq_true c15, ↓reduceIte, not_true_eq_false, not_false_eq_true, and_self, and_true, true_and, and_false, false_and]; done) | rfl)
  · skip
    refine lv_aload_n hx hb dX7_chairTold_4 rfl (lv_at hl 0 rfl) ?_
    refine bd_g_X7_instrument C hR  qf_X7_16 dX7_chairTold_5 ?_
    refine lv_iload_n hx hb dX7_chairTold_8 rfl (lv_at hl 1 rfl) ?_
    refine bd_ld_15 C hR  (j := k) (by omega) dX7_chairTold_9 ?_
    refine lv_goto (tgt := 39) hx hb dX7_chairTold_10 (by decide) ?_
    exact bd_ri C hr hlk (hR.eq rfl rfl) hS (Nat.zero_le _) (Nat.zero_le _) dX7_chairTold_39 (by first | (simp (config := { decide := true }) only [ry_ctell, eq_true c1, ↓reduceIte, not_true_eq_false, not_false_eq_true, and_self, and_true, true_and, and_false, false_and]; done) | rfl)
set_option maxHeartbeats 4000000 in
set_option maxRecDepth 100000 in
theorem k_X7_chair_ok (l : Launch) (E : bd_E) (xm ym : bd_M) (om : Nat → Int64) (n : Nat) (nb : Nat) (z : (Nat→Nat)) (b : Nat) (q : Nat) (v : Int32) (hy : ry_Sh ym n nb z) (hb : b < nb) (hq : q < z b) (hv : ¬ v < 0 ∧ ¬ 2 < v) : bd_Ct l yX7_chair cX7_chair 4 (some .int) 3 65 0 0 E [.ref (bd_ea E 12 0 0), .int (nI b), .int (nI q), .int v] xm ym om xm (ry_t0 ym) om (some (.int (ry_ctell (ry_t0 ym) (8 * b + q) v))) := by
  refine bd_open RX7 rfl (by decide) (Nat.le_of_ble_eq_true rfl) ?_
  intro p e s m args below meth c ls C hr hlk hS hR hl
  have hx := C.1.1
  have hb := C.1.2.1
  have hy24 := hy.2.1
  have hy6 := hy.2.2.2.1
  have z8 := (hy.2.2.2.2.1 b (by omega)).2
  have kq := bd_kS (z := z) (by omega : b < nb) hy6 hq z8
  have hl : lv_has ls 4 [(0, .ref (bd_ea E 12 0 0)), (1, .int (nI b)), (2, .int (nI q)), (3, .int v)] := hl
  refine lv_aload_n hx hb dX7_chair_0 rfl (lv_at hl 0 rfl) ?_
  refine lv_iconst (v := 0) hx hb dX7_chair_1 (by decide) ?_
  refine bd_p_X7_thrown C hR hS  qf_X7_37 dX7_chair_2 (fun H locs hR hS => ?_)
  refine lv_aload_n hx hb dX7_chair_5 rfl (lv_at hl 0 rfl) ?_
  refine lv_iload_n hx hb dX7_chair_6 rfl (lv_at hl 1 rfl) ?_
  refine lv_iload_n hx hb dX7_chair_7 rfl (lv_at hl 2 rfl) ?_
  refine bd_cV1 [.int (nI b), .int (nI q)] [] C (k_X7_isSeat l E xm (bd_up ym 0 0 0 0) om n nb z (nI b) (nI q) (ry_Sh_up hy (by decide))) hR hS (bd_recv C.2 hR ⟨by decide, (by decide), (by decide)⟩ rfl rfl) qm_X7_75 qi_X7_isSeat qs_X7_isSeat qz_X7 qc_X7_isSeat qp_X7_isSeat ⟨Nat.le_of_ble_eq_true rfl, Nat.le_of_ble_eq_true rfl⟩ hl.1 (Nat.le_of_ble_eq_true rfl) dX7_chair_8 ⟨Nat.le_of_ble_eq_true rfl, Nat.le_of_ble_eq_true rfl⟩ (fun H locs hR hS hz8 => ?_)
  refine bd_ifeq (P := (¬ (nI b) < 0 ∧ (nI b) < nI nb) ∧ ¬ (nI q) < 0 ∧ (nI q) < nI (z (nI b).toNatClampNeg)) (tgt := 37) C dX7_chair_11 (by decide) (fun q9 => absurd kq q9) (fun q9 => ?_)
  refine lv_iload_n hx hb dX7_chair_14 rfl (lv_at hl 3 rfl) ?_
  refine lv_iconst (v := 0) hx hb dX7_chair_15 (by decide) ?_
  refine lv_iconst (v := 2) hx hb dX7_chair_16 (by decide) ?_
  refine bd_cS1 [.int v, .int 0, .int 2] [] C (k_X7_isIn l E xm (bd_up ym 0 0 0 0) om v 0 2 ) hR hS qm_X7_44 qt_X7_isIn qz_X7 qc_X7_isIn qp_X7_isIn.2 ⟨Nat.le_of_ble_eq_true rfl, Nat.le_of_ble_eq_true rfl⟩ hl.1 (Nat.le_of_ble_eq_true rfl) dX7_chair_17 ⟨Nat.le_of_ble_eq_true rfl, Nat.le_of_ble_eq_true rfl⟩ (fun H locs hR hS hz17 => ?_)
  refine bd_ifeq (P := ¬ v < 0 ∧ ¬ 2 < v) (tgt := 37) C dX7_chair_20 (by decide) (fun q9 => absurd hv q9) (fun q9 => ?_)
  refine lv_aload_n hx hb dX7_chair_23 rfl (lv_at hl 0 rfl) ?_
  refine lv_bipush (v := 8) hx hb dX7_chair_24 (by decide) ?_
  refine lv_iload_n hx hb dX7_chair_26 rfl (lv_at hl 1 rfl) ?_
  refine lv_imul hx hb dX7_chair_27 ?_
  refine bd_ti (j := 8 * b) (pk_mul 8 b) ?_
  refine lv_iload_n hx hb dX7_chair_28 rfl (lv_at hl 2 rfl) ?_
  refine lv_iadd hx hb dX7_chair_29 ?_
  refine bd_ti (j := (8 * b) + q) (nI_add (8 * b) q) ?_
  refine lv_iload_n hx hb dX7_chair_30 rfl (lv_at hl 3 rfl) ?_
  refine bd_cV1 [.int (nI ((8 * b) + q)), .int v] [] C (k_X7_chairTold l E xm (bd_up ym 0 0 0 0) om n nb z ((8 * b) + q) v (ry_Sh_up hy (by decide)) (by omega)) hR hS (bd_recv C.2 hR ⟨by decide, (by decide), (by decide)⟩ rfl rfl) qm_X7_125 qi_X7_chairTold qs_X7_chairTold qz_X7 qc_X7_chairTold qp_X7_chairTold ⟨Nat.le_of_ble_eq_true rfl, Nat.le_of_ble_eq_true rfl⟩ hl.1 (Nat.le_of_ble_eq_true rfl) dX7_chair_31 ⟨Nat.le_of_ble_eq_true rfl, Nat.le_of_ble_eq_true rfl⟩ (fun H locs hR hS hz31 => ?_)
  refine lv_goto (tgt := 42) hx hb dX7_chair_34 (by decide) ?_
  exact bd_ri C hr hlk (hR.eq rfl (by first | (simp (config := { decide := true }) only [↓reduceIte, not_true_eq_false, not_false_eq_true, and_self, and_true, true_and, and_false, false_and]; done) | rfl)) hS (Nat.zero_le _) (Nat.zero_le _) dX7_chair_42 (by first | (simp (config := { decide := true }) only [↓reduceIte, not_true_eq_false, not_false_eq_true, and_self, and_true, true_and, and_false, false_and]; done) | rfl)
set_option maxHeartbeats 4000000 in
set_option maxRecDepth 100000 in
theorem k_X7_chair_1 (l : Launch) (E : bd_E) (xm ym : bd_M) (om : Nat → Int64) (n : Nat) (nb : Nat) (z : (Nat→Nat)) (u : Int32) (v : Int32) (g : Int32) (hy : ry_Sh ym n nb z) (h1 : ¬ (((¬ u < 0 ∧ u < nI nb) ∧ ¬ v < 0 ∧ v < nI (z u.toNatClampNeg)) ∧ ¬ g < 0 ∧ ¬ 2 < g)) : bd_Ct l yX7_chair cX7_chair 4 (some .int) 3 65 0 0 E [.ref (bd_ea E 12 0 0), .int u, .int v, .int g] xm ym om xm (bd_up (ry_t0 ym) 0 0 0 1) om (some (.int 0)) := by
  refine bd_open RX7 rfl (by decide) (Nat.le_of_ble_eq_true rfl) ?_
  intro p e s m args below meth c ls C hr hlk hS hR hl
  have hx := C.1.1
  have hb := C.1.2.1
  have hy24 := hy.2.1
  have hy6 := hy.2.2.2.1
  have hl : lv_has ls 4 [(0, .ref (bd_ea E 12 0 0)), (1, .int u), (2, .int v), (3, .int g)] := hl
  refine lv_aload_n hx hb dX7_chair_0 rfl (lv_at hl 0 rfl) ?_
  refine lv_iconst (v := 0) hx hb dX7_chair_1 (by decide) ?_
  refine bd_p_X7_thrown C hR hS  qf_X7_37 dX7_chair_2 (fun H locs hR hS => ?_)
  refine lv_aload_n hx hb dX7_chair_5 rfl (lv_at hl 0 rfl) ?_
  refine lv_iload_n hx hb dX7_chair_6 rfl (lv_at hl 1 rfl) ?_
  refine lv_iload_n hx hb dX7_chair_7 rfl (lv_at hl 2 rfl) ?_
  refine bd_cV1 [.int u, .int v] [] C (k_X7_isSeat l E xm (bd_up ym 0 0 0 0) om n nb z u v (ry_Sh_up hy (by decide))) hR hS (bd_recv C.2 hR ⟨by decide, (by decide), (by decide)⟩ rfl rfl) qm_X7_75 qi_X7_isSeat qs_X7_isSeat qz_X7 qc_X7_isSeat qp_X7_isSeat ⟨Nat.le_of_ble_eq_true rfl, Nat.le_of_ble_eq_true rfl⟩ hl.1 (Nat.le_of_ble_eq_true rfl) dX7_chair_8 ⟨Nat.le_of_ble_eq_true rfl, Nat.le_of_ble_eq_true rfl⟩ (fun H locs hR hS hz8 => ?_)
  refine bd_ifeq (P := (¬ u < 0 ∧ u < nI nb) ∧ ¬ v < 0 ∧ v < nI (z u.toNatClampNeg)) (tgt := 37) C dX7_chair_11 (by decide) (fun c11 => ?_) (fun c11 => ?_)
  · skip
    refine lv_aload_n hx hb dX7_chair_37 rfl (lv_at hl 0 rfl) ?_
    refine lv_iconst (v := 1) hx hb dX7_chair_38 (by decide) ?_
    refine bd_cV1 [.int 1] [] C (k_X7_no l E xm (bd_up ym 0 0 0 0) om 1 ) hR hS (bd_recv C.2 hR ⟨by decide, (by decide), (by decide)⟩ rfl rfl) qm_X7_55 qi_X7_no qs_X7_no qz_X7 qc_X7_no qp_X7_no ⟨Nat.le_of_ble_eq_true rfl, Nat.le_of_ble_eq_true rfl⟩ hl.1 (Nat.le_of_ble_eq_true rfl) dX7_chair_39 ⟨Nat.le_of_ble_eq_true rfl, Nat.le_of_ble_eq_true rfl⟩ (fun H locs hR hS hz39 => ?_)
    exact bd_ri C hr hlk (hR.eq rfl (by first | (simp (config := { decide := true }) only [eq_false c11, ↓reduceIte, not_true_eq_false, not_false_eq_true, and_self, and_true, true_and, and_false, false_and]; done) | rfl)) hS (Nat.zero_le _) (Nat.zero_le _) dX7_chair_42 rfl
  · skip
    refine lv_iload_n hx hb dX7_chair_14 rfl (lv_at hl 3 rfl) ?_
    refine lv_iconst (v := 0) hx hb dX7_chair_15 (by decide) ?_
    refine lv_iconst (v := 2) hx hb dX7_chair_16 (by decide) ?_
    refine bd_cS1 [.int g, .int 0, .int 2] [] C (k_X7_isIn l E xm (bd_up ym 0 0 0 0) om g 0 2 ) hR hS qm_X7_44 qt_X7_isIn qz_X7 qc_X7_isIn qp_X7_isIn.2 ⟨Nat.le_of_ble_eq_true rfl, Nat.le_of_ble_eq_true rfl⟩ hl.1 (Nat.le_of_ble_eq_true rfl) dX7_chair_17 ⟨Nat.le_of_ble_eq_true rfl, Nat.le_of_ble_eq_true rfl⟩ (fun H locs hR hS hz17 => ?_)
    refine bd_ifeq (P := ¬ g < 0 ∧ ¬ 2 < g) (tgt := 37) C dX7_chair_20 (by decide) (fun c20 => ?_) (fun c20 => ?_)
    · skip
      refine lv_aload_n hx hb dX7_chair_37 rfl (lv_at hl 0 rfl) ?_
      refine lv_iconst (v := 1) hx hb dX7_chair_38 (by decide) ?_
      refine bd_cV1 [.int 1] [] C (k_X7_no l E xm (bd_up ym 0 0 0 0) om 1 ) hR hS (bd_recv C.2 hR ⟨by decide, (by decide), (by decide)⟩ rfl rfl) qm_X7_55 qi_X7_no qs_X7_no qz_X7 qc_X7_no qp_X7_no ⟨Nat.le_of_ble_eq_true rfl, Nat.le_of_ble_eq_true rfl⟩ hl.1 (Nat.le_of_ble_eq_true rfl) dX7_chair_39 ⟨Nat.le_of_ble_eq_true rfl, Nat.le_of_ble_eq_true rfl⟩ (fun H locs hR hS hz39 => ?_)
      exact bd_ri C hr hlk (hR.eq rfl (by first | (simp (config := { decide := true }) only [eq_true c11, eq_false c20, ↓reduceIte, not_true_eq_false, not_false_eq_true, and_self, and_true, true_and, and_false, false_and]; done) | rfl)) hS (Nat.zero_le _) (Nat.zero_le _) dX7_chair_42 rfl
    · exact absurd ⟨c11, c20⟩ h1
set_option maxHeartbeats 4000000 in
set_option maxRecDepth 100000 in
theorem k_X7_contest_ok (l : Launch) (E : bd_E) (xm ym : bd_M) (om : Nat → Int64) (n : Nat) (nb : Nat) (z : (Nat→Nat)) (t : Nat) (hy : ry_Sh ym n nb z) (hm : ry_Mb ym 0 n nb z) (ht : ym 10 0 0 = nI t) (ht2 : t < 1073741800) (hnb : 0 < nb) : bd_Ct l yX7_contest cX7_contest 1 (some .int) 4 108 6 24 E [.ref (bd_ea E 12 0 0)] xm ym om xm (ry_con (ry_t0 ym) 0 n nb z t) om (some (.int (ry_kw (ry_k2e (ry_t0 ym) 0 n nb z t) 0 nb z nb))) := by
  refine bd_open RX7 rfl (by decide) (Nat.le_of_ble_eq_true rfl) ?_
  intro p e s m args below meth c ls C hr hlk hS hR hl
  have hx := C.1.1
  have hb := C.1.2.1
  have hy24 := hy.2.1
  have hy6 := hy.2.2.2.1
  have hl : lv_has ls 1 [(0, .ref (bd_ea E 12 0 0))] := hl
  refine lv_aload_n hx hb dX7_contest_0 rfl (lv_at hl 0 rfl) ?_
  refine lv_iconst (v := 0) hx hb dX7_contest_1 (by decide) ?_
  refine bd_p_X7_thrown C hR hS  qf_X7_37 dX7_contest_2 (fun H locs hR hS => ?_)
  refine lv_aload_n hx hb dX7_contest_5 rfl (lv_at hl 0 rfl) ?_
  refine bd_g_X7_bands C hR  qf_X7_48 dX7_contest_6 ?_
  rw [show (bd_up ym 0 0 0 0) 2 0 0 = nI nb from (show ry_Sh (bd_up ym 0 0 0 0) n nb z from (ry_Sh_up hy (by decide))).2.2.1]
  refine lv_if_ne (tgt := 20) hx hb dX7_contest_9 (by decide) (fun c9 => ?_) (fun c9 => ?_)
  · skip
    have nc9 : ¬ nb = 0 := fun q9 => c9 ((nI_eq (a := nb) (b := 0) (by omega) (by omega)).mpr q9)
    refine lv_aload_n hx hb dX7_contest_20 rfl (lv_at hl 0 rfl) ?_
    refine bd_g_X7_s C hR  qf_X7_30 dX7_contest_21 ?_
    refine bd_cV1 [] [] C (k_X6_contest l E xm (bd_up ym 0 0 0 0) om 0 n nb z t (by omega) (ry_Sh_up hy (by decide)) (ry_Mb_of hm (fun q9 => bd_up_f (by decide))) (by rw [bd_up_f (by decide)]; exact ht) (by omega) (by omega)) hR hS (bd_recv C.2 hR ⟨by decide, (by decide), (by decide)⟩ rfl rfl) qm_X7_128 qi_X6_contest qs_X6_contest qz_X6 qc_X6_contest qp_X6_contest ⟨Nat.le_of_ble_eq_true rfl, Nat.le_of_ble_eq_true rfl⟩ hl.1 (Nat.le_of_ble_eq_true rfl) dX7_contest_24 ⟨by show 0 + 6 ≤ 6; omega, by show 0 + 24 ≤ 24; omega⟩ (fun H locs hR hS hz24 => ?_)
    exact bd_ri C hr hlk (hR.eq rfl (by first | (simp (config := { decide := true }) only [eq_false c9, eq_false nc9, ↓reduceIte, not_true_eq_false, not_false_eq_true, and_self, and_true, true_and, and_false, false_and]; done) | rfl)) hS (by show (0 + 6) ≤ 6; omega) (by show (0 + 24) ≤ 24; omega) dX7_contest_27 (by first | (simp (config := { decide := true }) only [eq_false c9, eq_false nc9, ↓reduceIte, not_true_eq_false, not_false_eq_true, and_self, and_true, true_and, and_false, false_and]; done) | rfl)
  · exact absurd c9 (nI_ne0 hnb (by omega))
set_option maxHeartbeats 4000000 in
set_option maxRecDepth 100000 in
theorem k_X7_contest_1 (l : Launch) (E : bd_E) (xm ym : bd_M) (om : Nat → Int64) (n : Nat) (nb : Nat) (z : (Nat→Nat)) (hy : ry_Sh ym n nb z) (hnb : nb = 0) : bd_Ct l yX7_contest cX7_contest 1 (some .int) 4 108 6 24 E [.ref (bd_ea E 12 0 0)] xm ym om xm (bd_up (ry_t0 ym) 0 0 0 1) om (some (.int 0)) := by
  refine bd_open RX7 rfl (by decide) (Nat.le_of_ble_eq_true rfl) ?_
  intro p e s m args below meth c ls C hr hlk hS hR hl
  have hx := C.1.1
  have hb := C.1.2.1
  have hy24 := hy.2.1
  have hy6 := hy.2.2.2.1
  have hl : lv_has ls 1 [(0, .ref (bd_ea E 12 0 0))] := hl
  refine lv_aload_n hx hb dX7_contest_0 rfl (lv_at hl 0 rfl) ?_
  refine lv_iconst (v := 0) hx hb dX7_contest_1 (by decide) ?_
  refine bd_p_X7_thrown C hR hS  qf_X7_37 dX7_contest_2 (fun H locs hR hS => ?_)
  refine lv_aload_n hx hb dX7_contest_5 rfl (lv_at hl 0 rfl) ?_
  refine bd_g_X7_bands C hR  qf_X7_48 dX7_contest_6 ?_
  rw [show (bd_up ym 0 0 0 0) 2 0 0 = nI nb from (show ry_Sh (bd_up ym 0 0 0 0) n nb z from (ry_Sh_up hy (by decide))).2.2.1]
  refine lv_if_ne (tgt := 20) hx hb dX7_contest_9 (by decide) (fun c9 => ?_) (fun c9 => ?_)
  · exact absurd (by rw [hnb]; rfl) c9
  · skip
    have nc9 : nb = 0 := (nI_eq (a := nb) (b := 0) (by omega) (by omega)).mp c9
    refine lv_aload_n hx hb dX7_contest_12 rfl (lv_at hl 0 rfl) ?_
    refine lv_iconst (v := 1) hx hb dX7_contest_13 (by decide) ?_
    refine bd_cV1 [.int 1] [] C (k_X7_no l E xm (bd_up ym 0 0 0 0) om 1 ) hR hS (bd_recv C.2 hR ⟨by decide, (by decide), (by decide)⟩ rfl rfl) qm_X7_55 qi_X7_no qs_X7_no qz_X7 qc_X7_no qp_X7_no ⟨Nat.le_of_ble_eq_true rfl, Nat.le_of_ble_eq_true rfl⟩ hl.1 (Nat.le_of_ble_eq_true rfl) dX7_contest_14 ⟨by show 0 + 0 ≤ 6; omega, by show 0 + 0 ≤ 24; omega⟩ (fun H locs hR hS hz14 => ?_)
    refine lv_goto (tgt := 27) hx hb dX7_contest_17 (by decide) ?_
    exact bd_ri C hr hlk (hR.eq rfl (by first | (simp (config := { decide := true }) only [eq_true c9, eq_true nc9, ↓reduceIte, not_true_eq_false, not_false_eq_true, and_self, and_true, true_and, and_false, false_and]; done) | rfl)) hS (by show 0 ≤ 6; omega) (by show 0 ≤ 24; omega) dX7_contest_27 rfl
set_option maxHeartbeats 4000000 in
set_option maxRecDepth 100000 in
theorem k_X7_rank_ok (l : Launch) (E : bd_E) (xm ym : bd_M) (om : Nat → Int64) (n : Nat) (nb : Nat) (z : (Nat→Nat)) (k : Nat) (hy : ry_Sh ym n nb z) (hk : k < nb) : bd_Ct l yX7_rank cX7_rank 5 (some .int) 2 43 0 0 E [.ref (bd_ea E 12 0 0), .int (nI k)] xm ym om xm (ry_t0 ym) om (some (.int (ry_rk (ry_t0 ym) nb (nI k) nb 0))) := by
  refine bd_open RX7 rfl (by decide) (Nat.le_of_ble_eq_true rfl) ?_
  intro p e s m args below meth c ls C hr hlk hS hR hl
  have hx := C.1.1
  have hb := C.1.2.1
  have hy24 := hy.2.1
  have hy6 := hy.2.2.2.1
  have kb := bd_kP hk (by omega)
  have hl : lv_has ls 5 [(0, .ref (bd_ea E 12 0 0)), (1, .int (nI k))] := hl
  refine lv_aload_n hx hb dX7_rank_0 rfl (lv_at hl 0 rfl) ?_
  refine lv_iconst (v := 0) hx hb dX7_rank_1 (by decide) ?_
  refine bd_p_X7_thrown C hR hS  qf_X7_37 dX7_rank_2 (fun H locs hR hS => ?_)
  refine lv_aload_n hx hb dX7_rank_5 rfl (lv_at hl 0 rfl) ?_
  refine lv_iload_n hx hb dX7_rank_6 rfl (lv_at hl 1 rfl) ?_
  refine bd_cV1 [.int (nI k)] [] C (k_X7_isBand l E xm (bd_up ym 0 0 0 0) om n nb z (nI k) (ry_Sh_up hy (by decide))) hR hS (bd_recv C.2 hR ⟨by decide, (by decide), (by decide)⟩ rfl rfl) qm_X7_51 qi_X7_isBand qs_X7_isBand qz_X7 qc_X7_isBand qp_X7_isBand ⟨Nat.le_of_ble_eq_true rfl, Nat.le_of_ble_eq_true rfl⟩ hl.1 (Nat.le_of_ble_eq_true rfl) dX7_rank_7 ⟨Nat.le_of_ble_eq_true rfl, Nat.le_of_ble_eq_true rfl⟩ (fun H locs hR hS hz7 => ?_)
  refine bd_ifne (P := ¬ (nI k) < 0 ∧ (nI k) < nI nb) (tgt := 19) C dX7_rank_10 (by decide) (fun q9 => ?_) (fun q9 => absurd kb q9)
  refine lv_iconst (v := 0) hx hb dX7_rank_19 (by decide) ?_
  refine lv_istore_n (lv' := [(2, .int 0), (0, .ref (bd_ea E 12 0 0)), (1, .int (nI k))]) hx hb dX7_rank_20 rfl hl (by decide) rfl (fun ls hl => ?_)
  have lp1 : ∀ (t1 j : Nat), j ≤ nb → nb - j < t1 → (ry_rk (ry_t0 ym) nb (nI k) (nb - j) j = ry_rk (ry_t0 ym) nb (nI k) nb 0) → ∀ (H : Heap) (locs : List Loc), bd_Rep E xm (bd_up ym 0 0 0 0) om H → va_S (bd_A E) s.heap H locs → ∀ (ls : Array Slot), lv_has ls 5 [(2, .int (nI j)), (0, .ref (bd_ea E 12 0 0)), (1, .int (nI k))] → W p l e { frames := 2, cells := 0, slots := 0, locals := 43 } s m args below meth c H locs 0 0 (MQ below (bd_Q E xm (ry_t0 ym) om (some (.int (ry_rk (ry_t0 ym) nb (nI k) nb 0)))) args s 0 0 (bd_A E)) (F0 m 21 ls []) := by
    intro t1
    induction t1 with
    | zero => intro j h1 h2; exact absurd h2 (Nat.not_lt_zero _)
    | succ t1 ih1 =>
      intro j hj1 hj2 hi H locs hR hS ls hl
      refine lv_iload_n hx hb dX7_rank_21 rfl (lv_at hl 0 rfl) ?_
      refine lv_aload_n hx hb dX7_rank_22 rfl (lv_at hl 1 rfl) ?_
      refine bd_g_X7_bands C hR  qf_X7_48 dX7_rank_23 ?_
      rw [show (bd_up ym 0 0 0 0) 2 0 0 = nI nb from (show ry_Sh (bd_up ym 0 0 0 0) n nb z from (ry_Sh_up hy (by decide))).2.2.1]
      refine lv_icmp_ge (tgt := 120) hx hb dX7_rank_26 (by decide) (fun c26 => ?_) (fun c26 => ?_)
      · skip
        have nc26 : nb ≤ j := (nI_leI (a := nb) (b := j) (by omega) (by omega)).mp c26
        obtain rfl : nb = j := by omega
        refine lv_iconst (v := (-1)) hx hb dX7_rank_120 (by decide) ?_
        exact bd_ri C hr hlk (hR.eq rfl (by first | (simp (config := { decide := true }) only [eq_true c26, eq_true nc26, ↓reduceIte, not_true_eq_false, not_false_eq_true, and_self, and_true, true_and, and_false, false_and]; done) | rfl)) hS (Nat.zero_le _) (Nat.zero_le _) dX7_rank_121 (by first | rfl | (rw [Nat.sub_self] at hi; exact hi))
      · skip
        have nc26 : ¬ nb ≤ j := fun q9 => c26 ((nI_leI (a := nb) (b := j) (by omega) (by omega)).mpr q9)
        refine lv_iconst (v := 0) hx hb dX7_rank_29 (by decide) ?_
        refine lv_istore_n (lv' := [(3, .int 0), (2, .int (nI j)), (0, .ref (bd_ea E 12 0 0)), (1, .int (nI k))]) hx hb dX7_rank_30 rfl hl (by decide) rfl (fun ls hl => ?_)
        refine lv_iconst (v := 0) hx hb dX7_rank_31 (by decide) ?_
        refine lv_istore (lv' := [(4, .int 0), (3, .int 0), (2, .int (nI j)), (0, .ref (bd_ea E 12 0 0)), (1, .int (nI k))]) hx hb dX7_rank_32 hl (by decide) rfl (fun ls hl => ?_)
        have lp2 : ∀ (t2 j2 : Nat), j2 ≤ nb → nb - j2 < t2 → ∀ (H : Heap) (locs : List Loc), bd_Rep E xm (bd_up ym 0 0 0 0) om H → va_S (bd_A E) s.heap H locs → ∀ (ls : Array Slot), lv_has ls 5 [(4, .int (nI j2)), (3, .int (ry_bp (ry_t0 ym) j j2)), (2, .int (nI j)), (0, .ref (bd_ea E 12 0 0)), (1, .int (nI k))] → W p l e { frames := 2, cells := 0, slots := 0, locals := 43 } s m args below meth c H locs 0 0 (MQ below (bd_Q E xm (ry_t0 ym) om (some (.int (ry_rk (ry_t0 ym) nb (nI k) nb 0)))) args s 0 0 (bd_A E)) (F0 m 34 ls []) := by
          intro t2
          induction t2 with
          | zero => intro j2 h1 h2; exact absurd h2 (Nat.not_lt_zero _)
          | succ t2 ih2 =>
            intro j2 hj21 hj22 H locs hR hS ls hl
            refine lv_iload hx hb dX7_rank_34 (lv_at hl 0 rfl) ?_
            refine lv_aload_n hx hb dX7_rank_36 rfl (lv_at hl 3 rfl) ?_
            refine bd_g_X7_bands C hR  qf_X7_48 dX7_rank_37 ?_
            rw [show (bd_up ym 0 0 0 0) 2 0 0 = nI nb from (show ry_Sh (bd_up ym 0 0 0 0) n nb z from (ry_Sh_up hy (by decide))).2.2.1]
            refine lv_icmp_ge (tgt := 107) hx hb dX7_rank_40 (by decide) (fun c40 => ?_) (fun c40 => ?_)
            · skip
              have nc40 : nb ≤ j2 := (nI_leI (a := nb) (b := j2) (by omega) (by omega)).mp c40
              obtain rfl : nb = j2 := by omega
              refine lv_iload_n hx hb dX7_rank_107 rfl (lv_at hl 1 rfl) ?_
              refine lv_iload_n hx hb dX7_rank_108 rfl (lv_at hl 4 rfl) ?_
              refine lv_icmp_ne (tgt := 114) hx hb dX7_rank_109 (by decide) (fun c109 => ?_) (fun c109 => ?_)
              · skip
                refine lv_iinc (v := nI (j + 1)) (lv' := [(2, .int (nI (j + 1))), (4, .int (nI nb)), (3, .int (ry_bp (ry_t0 ym) j nb)), (0, .ref (bd_ea E 12 0 0)), (1, .int (nI k))]) hx hb dX7_rank_114 hl (k := 2) rfl (nI_1 j) (by decide) rfl (fun ls hl => ?_)
                refine lv_goto (tgt := 21) hx hb dX7_rank_117 (by decide) ?_
                exact ih1 (j + 1) (by omega) (by omega) (by rw [show nb - j = (nb - (j + 1)) + 1 by omega, ry_rk, if_neg c109] at hi; exact hi) _ _ (hR.eq rfl rfl) hS _ (lv_sub hl [0, 3, 4] rfl)
              · skip
                refine lv_iload_n hx hb dX7_rank_112 rfl (lv_at hl 2 rfl) ?_
                exact bd_ri C hr hlk (hR.eq rfl (by first | (simp (config := { decide := true }) only [eq_false c26, eq_false nc26, eq_true c40, eq_true nc40, eq_true c109, ↓reduceIte, not_true_eq_false, not_false_eq_true, and_self, and_true, true_and, and_false, false_and]; done) | rfl)) hS (Nat.zero_le _) (Nat.zero_le _) dX7_rank_113 (by first | rfl | (rw [show nb - j = (nb - (j + 1)) + 1 by omega, ry_rk, if_pos c109] at hi; exact hi))
            · skip
              have nc40 : ¬ nb ≤ j2 := fun q9 => c40 ((nI_leI (a := nb) (b := j2) (by omega) (by omega)).mpr q9)
              refine lv_iload_n hx hb dX7_rank_43 rfl (lv_at hl 1 rfl) ?_
              refine lv_aload_n hx hb dX7_rank_44 rfl (lv_at hl 3 rfl) ?_
              refine bd_g_X7_s C hR  qf_X7_30 dX7_rank_45 ?_
              refine bd_gN_X6_points C hR (by decide) (List.mem_of_getElem? (i := 3) rfl) dX7_rank_48 ?_
              refine lv_iload hx hb dX7_rank_51 (lv_at hl 0 rfl) ?_
              refine bd_ld_26 C hR (by decide) (j := j2) (by omega) dX7_rank_53 ?_
              refine lv_aload_n hx hb dX7_rank_54 rfl (lv_at hl 3 rfl) ?_
              refine bd_g_X7_s C hR  qf_X7_30 dX7_rank_55 ?_
              refine bd_gN_X6_points C hR (by decide) (List.mem_of_getElem? (i := 3) rfl) dX7_rank_58 ?_
              refine lv_iload_n hx hb dX7_rank_61 rfl (lv_at hl 2 rfl) ?_
              refine bd_ld_26 C hR (by decide) (j := j) (by omega) dX7_rank_62 ?_
              refine lv_icmp_gt (tgt := 94) hx hb dX7_rank_63 (by decide) (fun c63 => ?_) (fun c63 => ?_)
              · skip
                refine lv_iconst (v := 1) hx hb dX7_rank_94 (by decide) ?_
                refine lv_goto (tgt := 99) hx hb dX7_rank_95 (by decide) ?_
                refine lv_iadd hx hb dX7_rank_99 ?_
                refine lv_istore_n (lv' := [(3, .int ((ry_bp (ry_t0 ym) j j2) + 1)), (4, .int (nI j2)), (2, .int (nI j)), (0, .ref (bd_ea E 12 0 0)), (1, .int (nI k))]) hx hb dX7_rank_100 rfl hl (by decide) rfl (fun ls hl => ?_)
                refine lv_iinc (v := nI (j2 + 1)) (lv' := [(4, .int (nI (j2 + 1))), (3, .int ((ry_bp (ry_t0 ym) j j2) + 1)), (2, .int (nI j)), (0, .ref (bd_ea E 12 0 0)), (1, .int (nI k))]) hx hb dX7_rank_101 hl (k := 1) rfl (nI_1 j2) (by decide) rfl (fun ls hl => ?_)
                refine lv_goto (tgt := 34) hx hb dX7_rank_104 (by decide) ?_
                exact ih2 (j2 + 1) (by omega) (by omega) _ _ (hR.eq rfl rfl) hS _ (by rw [show (ry_bp (ry_t0 ym) j (j2 + 1) : Int32) = (ry_bp (ry_t0 ym) j j2) + 1 from (by first | (simp (config := { decide := true }) only [ry_bp, eq_false c26, eq_false nc26, eq_false c40, eq_false nc40, eq_true c63, ↓reduceIte, not_true_eq_false, not_false_eq_true, and_self, and_true, true_and, and_false, false_and]; done) | rfl)]; exact lv_sub hl [0, 1, 2, 3, 4] rfl)
              · skip
                refine lv_aload_n hx hb dX7_rank_66 rfl (lv_at hl 3 rfl) ?_
                refine bd_g_X7_s C hR  qf_X7_30 dX7_rank_67 ?_
                refine bd_gN_X6_points C hR (by decide) (List.mem_of_getElem? (i := 3) rfl) dX7_rank_70 ?_
                refine lv_iload hx hb dX7_rank_73 (lv_at hl 0 rfl) ?_
                refine bd_ld_26 C hR (by decide) (j := j2) (by omega) dX7_rank_75 ?_
                refine lv_aload_n hx hb dX7_rank_76 rfl (lv_at hl 3 rfl) ?_
                refine bd_g_X7_s C hR  qf_X7_30 dX7_rank_77 ?_
                refine bd_gN_X6_points C hR (by decide) (List.mem_of_getElem? (i := 3) rfl) dX7_rank_80 ?_
                refine lv_iload_n hx hb dX7_rank_83 rfl (lv_at hl 2 rfl) ?_
                refine bd_ld_26 C hR (by decide) (j := j) (by omega) dX7_rank_84 ?_
                refine lv_icmp_ne (tgt := 98) hx hb dX7_rank_85 (by decide) (fun c85 => ?_) (fun c85 => ?_)
                · skip
                  refine lv_iconst (v := 0) hx hb dX7_rank_98 (by decide) ?_
                  refine lv_iadd hx hb dX7_rank_99 ?_
                  refine lv_istore_n (lv' := [(3, .int ((ry_bp (ry_t0 ym) j j2) + 0)), (4, .int (nI j2)), (2, .int (nI j)), (0, .ref (bd_ea E 12 0 0)), (1, .int (nI k))]) hx hb dX7_rank_100 rfl hl (by decide) rfl (fun ls hl => ?_)
                  refine lv_iinc (v := nI (j2 + 1)) (lv' := [(4, .int (nI (j2 + 1))), (3, .int ((ry_bp (ry_t0 ym) j j2) + 0)), (2, .int (nI j)), (0, .ref (bd_ea E 12 0 0)), (1, .int (nI k))]) hx hb dX7_rank_101 hl (k := 1) rfl (nI_1 j2) (by decide) rfl (fun ls hl => ?_)
                  refine lv_goto (tgt := 34) hx hb dX7_rank_104 (by decide) ?_
                  exact ih2 (j2 + 1) (by omega) (by omega) _ _ (hR.eq rfl rfl) hS _ (by rw [show (ry_bp (ry_t0 ym) j (j2 + 1) : Int32) = (ry_bp (ry_t0 ym) j j2) + 0 from (by first | (simp (config := { decide := true }) only [ry_bp, eq_false c26, eq_false nc26, eq_false c40, eq_false nc40, eq_false c63, eq_false c85, ↓reduceIte, not_true_eq_false, not_false_eq_true, and_self, and_true, true_and, and_false, false_and]; done) | rfl)]; exact lv_sub hl [0, 1, 2, 3, 4] rfl)
                · skip
                  refine lv_iload hx hb dX7_rank_88 (lv_at hl 0 rfl) ?_
                  refine lv_iload_n hx hb dX7_rank_90 rfl (lv_at hl 2 rfl) ?_
                  refine lv_icmp_ge (tgt := 98) hx hb dX7_rank_91 (by decide) (fun c91 => ?_) (fun c91 => ?_)
                  · skip
                    have nc91 : j ≤ j2 := (nI_leI (a := j) (b := j2) (by omega) (by omega)).mp c91
                    refine lv_iconst (v := 0) hx hb dX7_rank_98 (by decide) ?_
                    refine lv_iadd hx hb dX7_rank_99 ?_
                    refine lv_istore_n (lv' := [(3, .int ((ry_bp (ry_t0 ym) j j2) + 0)), (4, .int (nI j2)), (2, .int (nI j)), (0, .ref (bd_ea E 12 0 0)), (1, .int (nI k))]) hx hb dX7_rank_100 rfl hl (by decide) rfl (fun ls hl => ?_)
                    refine lv_iinc (v := nI (j2 + 1)) (lv' := [(4, .int (nI (j2 + 1))), (3, .int ((ry_bp (ry_t0 ym) j j2) + 0)), (2, .int (nI j)), (0, .ref (bd_ea E 12 0 0)), (1, .int (nI k))]) hx hb dX7_rank_101 hl (k := 1) rfl (nI_1 j2) (by decide) rfl (fun ls hl => ?_)
                    refine lv_goto (tgt := 34) hx hb dX7_rank_104 (by decide) ?_
                    exact ih2 (j2 + 1) (by omega) (by omega) _ _ (hR.eq rfl rfl) hS _ (by rw [show (ry_bp (ry_t0 ym) j (j2 + 1) : Int32) = (ry_bp (ry_t0 ym) j j2) + 0 from (by first | (simp (config := { decide := true }) only [ry_bp, eq_false c26, eq_false nc26, eq_false c40, eq_false nc40, eq_false c63, eq_true c85, eq_true c91, eq_true nc91, ↓reduceIte, not_true_eq_false, not_false_eq_true, and_self, and_true, true_and, and_false, false_and]; done) | rfl)]; exact lv_sub hl [0, 1, 2, 3, 4] rfl)
                  · skip
                    have nc91 : ¬ j ≤ j2 := fun q9 => c91 ((nI_leI (a := j) (b := j2) (by omega) (by omega)).mpr q9)
                    refine lv_iconst (v := 1) hx hb dX7_rank_94 (by decide) ?_
                    refine lv_goto (tgt := 99) hx hb dX7_rank_95 (by decide) ?_
                    refine lv_iadd hx hb dX7_rank_99 ?_
                    refine lv_istore_n (lv' := [(3, .int ((ry_bp (ry_t0 ym) j j2) + 1)), (4, .int (nI j2)), (2, .int (nI j)), (0, .ref (bd_ea E 12 0 0)), (1, .int (nI k))]) hx hb dX7_rank_100 rfl hl (by decide) rfl (fun ls hl => ?_)
                    refine lv_iinc (v := nI (j2 + 1)) (lv' := [(4, .int (nI (j2 + 1))), (3, .int ((ry_bp (ry_t0 ym) j j2) + 1)), (2, .int (nI j)), (0, .ref (bd_ea E 12 0 0)), (1, .int (nI k))]) hx hb dX7_rank_101 hl (k := 1) rfl (nI_1 j2) (by decide) rfl (fun ls hl => ?_)
                    refine lv_goto (tgt := 34) hx hb dX7_rank_104 (by decide) ?_
                    exact ih2 (j2 + 1) (by omega) (by omega) _ _ (hR.eq rfl rfl) hS _ (by rw [show (ry_bp (ry_t0 ym) j (j2 + 1) : Int32) = (ry_bp (ry_t0 ym) j j2) + 1 from (by first | (simp (config := { decide := true }) only [ry_bp, eq_false c26, eq_false nc26, eq_false c40, eq_false nc40, eq_false c63, eq_true c85, eq_false c91, eq_false nc91, ↓reduceIte, not_true_eq_false, not_false_eq_true, and_self, and_true, true_and, and_false, false_and]; done) | rfl)]; exact lv_sub hl [0, 1, 2, 3, 4] rfl)
        exact lp2 (nb + 1) 0 (by omega) (by omega) _ _ (hR.eq rfl rfl) hS _ (by first | exact lv_sub hl [0, 1, 2, 3, 4] rfl | (rw [show (nI 0 : Int32) = 0 from by first | rfl | decide | simp [nI_0]]; rw [show (ry_bp (ry_t0 ym) j 0 : Int32) = 0 from by first | rfl | decide | simp [nI_0]]; exact lv_sub hl [0, 1, 2, 3, 4] rfl))
  exact lp1 (nb + 1) 0 (by omega) (by omega) rfl _ _ (hR.eq rfl rfl) hS _ (by first | exact lv_sub hl [0, 1, 2] rfl | (rw [show (nI 0 : Int32) = 0 from by first | rfl | decide | simp [nI_0]]; exact lv_sub hl [0, 1, 2] rfl))
set_option maxHeartbeats 4000000 in
set_option maxRecDepth 100000 in
theorem k_X7_rank_1 (l : Launch) (E : bd_E) (xm ym : bd_M) (om : Nat → Int64) (n : Nat) (nb : Nat) (z : (Nat→Nat)) (u : Int32) (hy : ry_Sh ym n nb z) (h1 : ¬ (¬ u < 0 ∧ u < nI nb)) : bd_Ct l yX7_rank cX7_rank 5 (some .int) 2 43 0 0 E [.ref (bd_ea E 12 0 0), .int u] xm ym om xm (bd_up (ry_t0 ym) 0 0 0 1) om (some (.int 0)) := by
  refine bd_open RX7 rfl (by decide) (Nat.le_of_ble_eq_true rfl) ?_
  intro p e s m args below meth c ls C hr hlk hS hR hl
  have hx := C.1.1
  have hb := C.1.2.1
  have hy24 := hy.2.1
  have hy6 := hy.2.2.2.1
  have hl : lv_has ls 5 [(0, .ref (bd_ea E 12 0 0)), (1, .int u)] := hl
  refine lv_aload_n hx hb dX7_rank_0 rfl (lv_at hl 0 rfl) ?_
  refine lv_iconst (v := 0) hx hb dX7_rank_1 (by decide) ?_
  refine bd_p_X7_thrown C hR hS  qf_X7_37 dX7_rank_2 (fun H locs hR hS => ?_)
  refine lv_aload_n hx hb dX7_rank_5 rfl (lv_at hl 0 rfl) ?_
  refine lv_iload_n hx hb dX7_rank_6 rfl (lv_at hl 1 rfl) ?_
  refine bd_cV1 [.int u] [] C (k_X7_isBand l E xm (bd_up ym 0 0 0 0) om n nb z u (ry_Sh_up hy (by decide))) hR hS (bd_recv C.2 hR ⟨by decide, (by decide), (by decide)⟩ rfl rfl) qm_X7_51 qi_X7_isBand qs_X7_isBand qz_X7 qc_X7_isBand qp_X7_isBand ⟨Nat.le_of_ble_eq_true rfl, Nat.le_of_ble_eq_true rfl⟩ hl.1 (Nat.le_of_ble_eq_true rfl) dX7_rank_7 ⟨Nat.le_of_ble_eq_true rfl, Nat.le_of_ble_eq_true rfl⟩ (fun H locs hR hS hz7 => ?_)
  refine bd_ifne (P := ¬ u < 0 ∧ u < nI nb) (tgt := 19) C dX7_rank_10 (by decide) (fun q9 => absurd q9 h1) (fun q9 => ?_)
  refine lv_aload_n hx hb dX7_rank_13 rfl (lv_at hl 0 rfl) ?_
  refine lv_iconst (v := 1) hx hb dX7_rank_14 (by decide) ?_
  refine bd_cV1 [.int 1] [] C (k_X7_no l E xm (bd_up ym 0 0 0 0) om 1 ) hR hS (bd_recv C.2 hR ⟨by decide, (by decide), (by decide)⟩ rfl rfl) qm_X7_55 qi_X7_no qs_X7_no qz_X7 qc_X7_no qp_X7_no ⟨Nat.le_of_ble_eq_true rfl, Nat.le_of_ble_eq_true rfl⟩ hl.1 (Nat.le_of_ble_eq_true rfl) dX7_rank_15 ⟨Nat.le_of_ble_eq_true rfl, Nat.le_of_ble_eq_true rfl⟩ (fun H locs hR hS hz15 => ?_)
  exact bd_ri C hr hlk (hR.eq rfl (by first | (simp (config := { decide := true }) only [↓reduceIte, not_true_eq_false, not_false_eq_true, and_self, and_true, true_and, and_false, false_and]; done) | rfl)) hS (Nat.zero_le _) (Nat.zero_le _) dX7_rank_18 rfl
