/-! THE REFERENCE'S METHODS -/
set_option maxHeartbeats 4000000 in
set_option maxRecDepth 100000 in
theorem k_X7_thrown (l : Launch) (E : bd_E) (xm ym : bd_M) (om : Nat → Int64)   : bd_Ct l yX7_thrown cX7_thrown 1 (some .int) 0 0 0 0 E [.ref (bd_ea E 12 0 0)] xm ym om xm ym om (some (.int (ym 0 0 0))) := by
  refine bd_open RX7 rfl (by decide) (Nat.le_of_ble_eq_true rfl) ?_
  intro p e s m args below meth c ls C hr hlk hS hR hl
  have hx := C.1.1
  have hb := C.1.2.1
  have hl : lv_has ls 1 [(0, .ref (bd_ea E 12 0 0))] := hl
  refine lv_aload_n hx hb dX7_thrown_0 rfl (lv_at hl 0 rfl) ?_
  refine bd_g_X7_thrown C hR  qf_X7_37 dX7_thrown_1 ?_
  exact bd_ri C hr hlk (hR.eq rfl rfl) hS (Nat.zero_le _) (Nat.zero_le _) dX7_thrown_4 rfl
set_option maxHeartbeats 4000000 in
set_option maxRecDepth 100000 in
theorem k_X7_no (l : Launch) (E : bd_E) (xm ym : bd_M) (om : Nat → Int64) (v : Int32)  : bd_Ct l yX7_no cX7_no 2 (some .int) 0 0 0 0 E [.ref (bd_ea E 12 0 0), .int v] xm ym om xm (bd_up ym 0 0 0 v) om (some (.int 0)) := by
  refine bd_open RX7 rfl (by decide) (Nat.le_of_ble_eq_true rfl) ?_
  intro p e s m args below meth c ls C hr hlk hS hR hl
  have hx := C.1.1
  have hb := C.1.2.1
  have hl : lv_has ls 2 [(0, .ref (bd_ea E 12 0 0)), (1, .int v)] := hl
  refine lv_aload_n hx hb dX7_no_0 rfl (lv_at hl 0 rfl) ?_
  refine lv_iload_n hx hb dX7_no_1 rfl (lv_at hl 1 rfl) ?_
  refine bd_p_X7_thrown C hR hS  qf_X7_37 dX7_no_2 (fun H locs hR hS => ?_)
  refine lv_iconst (v := 0) hx hb dX7_no_5 (by decide) ?_
  exact bd_ri C hr hlk (hR.eq rfl rfl) hS (Nat.zero_le _) (Nat.zero_le _) dX7_no_6 rfl
set_option maxHeartbeats 4000000 in
set_option maxRecDepth 100000 in
theorem k_X7_isIn (l : Launch) (E : bd_E) (xm ym : bd_M) (om : Nat → Int64) (v : Int32) (a : Int32) (b : Int32)  : bd_Ct l yX7_isIn cX7_isIn 3 (some .boolean) 0 0 0 0 E [.int v, .int a, .int b] xm ym om xm ym om (some (.int (if ¬ v < a ∧ ¬ b < v then 1 else 0))) := by
  refine bd_open RX7 rfl (by decide) (Nat.le_of_ble_eq_true rfl) ?_
  intro p e s m args below meth c ls C hr hlk hS hR hl
  have hx := C.1.1
  have hb := C.1.2.1
  have hl : lv_has ls 3 [(0, .int v), (1, .int a), (2, .int b)] := hl
  refine lv_iload_n hx hb dX7_isIn_0 rfl (lv_at hl 0 rfl) ?_
  refine lv_iload_n hx hb dX7_isIn_1 rfl (lv_at hl 1 rfl) ?_
  refine lv_icmp_lt (tgt := 14) hx hb dX7_isIn_2 (by decide) (fun c2 => ?_) (fun c2 => ?_)
  · skip
    refine lv_iconst (v := 0) hx hb dX7_isIn_14 (by decide) ?_
    exact bd_rz C hr hlk (hR.eq rfl rfl) hS (Nat.zero_le _) (Nat.zero_le _) dX7_isIn_15 rfl (by first | (simp (config := { decide := true }) only [eq_true c2, ↓reduceIte, not_true_eq_false, not_false_eq_true, and_self, and_true, true_and, and_false, false_and]; done) | rfl)
  · skip
    refine lv_iload_n hx hb dX7_isIn_5 rfl (lv_at hl 0 rfl) ?_
    refine lv_iload_n hx hb dX7_isIn_6 rfl (lv_at hl 2 rfl) ?_
    refine lv_icmp_gt (tgt := 14) hx hb dX7_isIn_7 (by decide) (fun c7 => ?_) (fun c7 => ?_)
    · skip
      refine lv_iconst (v := 0) hx hb dX7_isIn_14 (by decide) ?_
      exact bd_rz C hr hlk (hR.eq rfl rfl) hS (Nat.zero_le _) (Nat.zero_le _) dX7_isIn_15 rfl (by first | (simp (config := { decide := true }) only [eq_false c2, eq_true c7, ↓reduceIte, not_true_eq_false, not_false_eq_true, and_self, and_true, true_and, and_false, false_and]; done) | rfl)
    · skip
      refine lv_iconst (v := 1) hx hb dX7_isIn_10 (by decide) ?_
      refine lv_goto (tgt := 15) hx hb dX7_isIn_11 (by decide) ?_
      exact bd_rz C hr hlk (hR.eq rfl rfl) hS (Nat.zero_le _) (Nat.zero_le _) dX7_isIn_15 rfl (by first | (simp (config := { decide := true }) only [eq_false c2, eq_false c7, ↓reduceIte, not_true_eq_false, not_false_eq_true, and_self, and_true, true_and, and_false, false_and]; done) | rfl)
set_option maxHeartbeats 4000000 in
set_option maxRecDepth 100000 in
theorem k_X7_isPlayer (l : Launch) (E : bd_E) (xm ym : bd_M) (om : Nat → Int64) (n : Nat) (nb : Nat) (z : (Nat→Nat)) (v : Int32) (hy : ry_Sh ym n nb z) : bd_Ct l yX7_isPlayer cX7_isPlayer 2 (some .boolean) 1 22 0 0 E [.ref (bd_ea E 12 0 0), .int v] xm ym om xm ym om (some (.int (if ¬ v < 0 ∧ v < nI n then 1 else 0))) := by
  refine bd_open RX7 rfl (by decide) (Nat.le_of_ble_eq_true rfl) ?_
  intro p e s m args below meth c ls C hr hlk hS hR hl
  have hx := C.1.1
  have hb := C.1.2.1
  have hy24 := hy.2.1
  have hy6 := hy.2.2.2.1
  have hl : lv_has ls 2 [(0, .ref (bd_ea E 12 0 0)), (1, .int v)] := hl
  refine lv_iload_n hx hb dX7_isPlayer_0 rfl (lv_at hl 1 rfl) ?_
  refine lv_iconst (v := 0) hx hb dX7_isPlayer_1 (by decide) ?_
  refine lv_aload_n hx hb dX7_isPlayer_2 rfl (lv_at hl 0 rfl) ?_
  refine bd_g_X7_players C hR  qf_X7_41 dX7_isPlayer_3 ?_
  rw [show ym 1 0 0 = nI n from (show ry_Sh ym n nb z from hy).1]
  refine lv_iconst (v := 1) hx hb dX7_isPlayer_6 (by decide) ?_
  refine lv_isub hx hb dX7_isPlayer_7 ?_
  refine bd_cS1 [.int v, .int 0, .int ((nI n) - 1)] [] C (k_X7_isIn l E xm ym om v 0 ((nI n) - 1) ) hR hS qm_X7_44 qt_X7_isIn qz_X7 qc_X7_isIn qp_X7_isIn.2 ⟨Nat.le_of_ble_eq_true rfl, Nat.le_of_ble_eq_true rfl⟩ hl.1 (Nat.le_of_ble_eq_true rfl) dX7_isPlayer_8 ⟨Nat.le_of_ble_eq_true rfl, Nat.le_of_ble_eq_true rfl⟩ (fun H locs hR hS hz8 => ?_)
  exact bd_rz C hr hlk (hR.eq rfl rfl) hS (Nat.zero_le _) (Nat.zero_le _) dX7_isPlayer_11 (by split <;> rfl) (by first | rfl | (simp only [bd_inP hy24]))
set_option maxHeartbeats 4000000 in
set_option maxRecDepth 100000 in
theorem k_X7_isBand (l : Launch) (E : bd_E) (xm ym : bd_M) (om : Nat → Int64) (n : Nat) (nb : Nat) (z : (Nat→Nat)) (v : Int32) (hy : ry_Sh ym n nb z) : bd_Ct l yX7_isBand cX7_isBand 2 (some .boolean) 1 22 0 0 E [.ref (bd_ea E 12 0 0), .int v] xm ym om xm ym om (some (.int (if ¬ v < 0 ∧ v < nI nb then 1 else 0))) := by
  refine bd_open RX7 rfl (by decide) (Nat.le_of_ble_eq_true rfl) ?_
  intro p e s m args below meth c ls C hr hlk hS hR hl
  have hx := C.1.1
  have hb := C.1.2.1
  have hy24 := hy.2.1
  have hy6 := hy.2.2.2.1
  have hl : lv_has ls 2 [(0, .ref (bd_ea E 12 0 0)), (1, .int v)] := hl
  refine lv_iload_n hx hb dX7_isBand_0 rfl (lv_at hl 1 rfl) ?_
  refine lv_iconst (v := 0) hx hb dX7_isBand_1 (by decide) ?_
  refine lv_aload_n hx hb dX7_isBand_2 rfl (lv_at hl 0 rfl) ?_
  refine bd_g_X7_bands C hR  qf_X7_48 dX7_isBand_3 ?_
  rw [show ym 2 0 0 = nI nb from (show ry_Sh ym n nb z from hy).2.2.1]
  refine lv_iconst (v := 1) hx hb dX7_isBand_6 (by decide) ?_
  refine lv_isub hx hb dX7_isBand_7 ?_
  refine bd_cS1 [.int v, .int 0, .int ((nI nb) - 1)] [] C (k_X7_isIn l E xm ym om v 0 ((nI nb) - 1) ) hR hS qm_X7_44 qt_X7_isIn qz_X7 qc_X7_isIn qp_X7_isIn.2 ⟨Nat.le_of_ble_eq_true rfl, Nat.le_of_ble_eq_true rfl⟩ hl.1 (Nat.le_of_ble_eq_true rfl) dX7_isBand_8 ⟨Nat.le_of_ble_eq_true rfl, Nat.le_of_ble_eq_true rfl⟩ (fun H locs hR hS hz8 => ?_)
  exact bd_rz C hr hlk (hR.eq rfl rfl) hS (Nat.zero_le _) (Nat.zero_le _) dX7_isBand_11 (by split <;> rfl) (by first | rfl | (simp only [bd_inP (Nat.le_trans hy6 (by decide : 6 ≤ 24))]))
set_option maxHeartbeats 4000000 in
set_option maxRecDepth 100000 in
theorem k_X7_isSeat (l : Launch) (E : bd_E) (xm ym : bd_M) (om : Nat → Int64) (n : Nat) (nb : Nat) (z : (Nat→Nat)) (v : Int32) (k : Int32) (hy : ry_Sh ym n nb z) : bd_Ct l yX7_isSeat cX7_isSeat 3 (some .boolean) 2 43 0 0 E [.ref (bd_ea E 12 0 0), .int v, .int k] xm ym om xm ym om (some (.int (if (¬ v < 0 ∧ v < nI nb) ∧ ¬ k < 0 ∧ k < nI (z v.toNatClampNeg) then 1 else 0))) := by
  refine bd_open RX7 rfl (by decide) (Nat.le_of_ble_eq_true rfl) ?_
  intro p e s m args below meth c ls C hr hlk hS hR hl
  have hx := C.1.1
  have hb := C.1.2.1
  have hy24 := hy.2.1
  have hy6 := hy.2.2.2.1
  have hl : lv_has ls 3 [(0, .ref (bd_ea E 12 0 0)), (1, .int v), (2, .int k)] := hl
  refine lv_aload_n hx hb dX7_isSeat_0 rfl (lv_at hl 0 rfl) ?_
  refine lv_iload_n hx hb dX7_isSeat_1 rfl (lv_at hl 1 rfl) ?_
  refine bd_cV1 [.int v] [] C (k_X7_isBand l E xm ym om n nb z v hy) hR hS (bd_recv C.2 hR ⟨by decide, (by decide), (by decide)⟩ rfl rfl) qm_X7_51 qi_X7_isBand qs_X7_isBand qz_X7 qc_X7_isBand qp_X7_isBand ⟨Nat.le_of_ble_eq_true rfl, Nat.le_of_ble_eq_true rfl⟩ hl.1 (Nat.le_of_ble_eq_true rfl) dX7_isSeat_2 ⟨Nat.le_of_ble_eq_true rfl, Nat.le_of_ble_eq_true rfl⟩ (fun H locs hR hS hz2 => ?_)
  refine bd_ifeq (P := ¬ v < 0 ∧ v < nI nb) (tgt := 28) C dX7_isSeat_5 (by decide) (fun c5 => ?_) (fun c5 => ?_)
  · skip
    refine lv_iconst (v := 0) hx hb dX7_isSeat_28 (by decide) ?_
    exact bd_rz C hr hlk (hR.eq rfl rfl) hS (Nat.zero_le _) (Nat.zero_le _) dX7_isSeat_29 rfl (by first | rfl | (rw [if_neg (fun q9 => c5 q9.1)]))
  · skip
    refine lv_iload_n hx hb dX7_isSeat_8 rfl (lv_at hl 2 rfl) ?_
    refine lv_iconst (v := 0) hx hb dX7_isSeat_9 (by decide) ?_
    refine lv_aload_n hx hb dX7_isSeat_10 rfl (lv_at hl 0 rfl) ?_
    refine bd_g_X7_seats C hR  qf_X7_13 dX7_isSeat_11 ?_
    have n14 := bd_tnl c5.1 c5.2 (by omega)
    refine lv_iload_n hx hb dX7_isSeat_14 rfl (lv_at hl 1 rfl) ?_
    refine bd_ti (j := v.toNatClampNeg) (bd_tn c5.1) ?_
    refine bd_ld_14 C hR  (j := v.toNatClampNeg) (by omega) dX7_isSeat_15 ?_
    have zz15 := ((show ry_Sh ym n nb z from hy).2.2.2.2.1 v.toNatClampNeg (by omega)).2
    rw [show ym 14 0 v.toNatClampNeg = nI (z v.toNatClampNeg) from ((show ry_Sh ym n nb z from hy).2.2.2.2.1 v.toNatClampNeg (by omega)).1]
    refine lv_iconst (v := 1) hx hb dX7_isSeat_16 (by decide) ?_
    refine lv_isub hx hb dX7_isSeat_17 ?_
    refine bd_cS1 [.int k, .int 0, .int ((nI (z v.toNatClampNeg)) - 1)] [] C (k_X7_isIn l E xm ym om k 0 ((nI (z v.toNatClampNeg)) - 1) ) hR hS qm_X7_44 qt_X7_isIn qz_X7 qc_X7_isIn qp_X7_isIn.2 ⟨Nat.le_of_ble_eq_true rfl, Nat.le_of_ble_eq_true rfl⟩ hl.1 (Nat.le_of_ble_eq_true rfl) dX7_isSeat_18 ⟨Nat.le_of_ble_eq_true rfl, Nat.le_of_ble_eq_true rfl⟩ (fun H locs hR hS hz18 => ?_)
    refine bd_ifeq (P := ¬ k < 0 ∧ ¬ ((nI (z v.toNatClampNeg)) - 1) < k) (tgt := 28) C dX7_isSeat_21 (by decide) (fun c21 => ?_) (fun c21 => ?_)
    · skip
      refine lv_iconst (v := 0) hx hb dX7_isSeat_28 (by decide) ?_
      exact bd_rz C hr hlk (hR.eq rfl rfl) hS (Nat.zero_le _) (Nat.zero_le _) dX7_isSeat_29 rfl (by first | rfl | (rw [if_neg (fun q9 => c21 ((bd_inP (by omega)).mpr q9.2))]))
    · skip
      refine lv_iconst (v := 1) hx hb dX7_isSeat_24 (by decide) ?_
      refine lv_goto (tgt := 29) hx hb dX7_isSeat_25 (by decide) ?_
      exact bd_rz C hr hlk (hR.eq rfl rfl) hS (Nat.zero_le _) (Nat.zero_le _) dX7_isSeat_29 rfl (by first | rfl | (rw [if_pos ⟨c5, (bd_inP (by omega)).mp c21⟩]))
set_option maxHeartbeats 4000000 in
set_option maxRecDepth 100000 in
theorem k_X7_addPlayer_ok (l : Launch) (E : bd_E) (xm ym : bd_M) (om : Nat → Int64) (n : Nat) (nb : Nat) (z : (Nat→Nat)) (a : Int32) (b : Int32) (c2 : Int32) (d : Int32) (hy : ry_Sh ym n nb z) (h9a : ¬ a < 0 ∧ ¬ 9 < a) (h9b : ¬ b < 0 ∧ ¬ 9 < b) (h9c : ¬ c2 < 0 ∧ ¬ 9 < c2) (h9d : ¬ d < 0 ∧ ¬ 9 < d) (hn : n < 24) : bd_Ct l yX7_addPlayer cX7_addPlayer 6 (some .int) 1 40 1 4 E [.ref (bd_ea E 12 0 0), .int a, .int b, .int c2, .int d] xm ym om xm (ry_add (ry_t0 ym) n a b c2 d) om (some (.int (nI n))) := by
  refine bd_open RX7 rfl (by decide) (Nat.le_of_ble_eq_true rfl) ?_
  intro p e s m args below meth c ls C hr hlk hS hR hl
  have hx := C.1.1
  have hb := C.1.2.1
  have hy24 := hy.2.1
  have hy6 := hy.2.2.2.1
  have hl : lv_has ls 6 [(0, .ref (bd_ea E 12 0 0)), (1, .int a), (2, .int b), (3, .int c2), (4, .int d)] := hl
  refine lv_aload_n hx hb dX7_addPlayer_0 rfl (lv_at hl 0 rfl) ?_
  refine lv_iconst (v := 0) hx hb dX7_addPlayer_1 (by decide) ?_
  refine bd_p_X7_thrown C hR hS  qf_X7_37 dX7_addPlayer_2 (fun H locs hR hS => ?_)
  refine lv_iload_n hx hb dX7_addPlayer_5 rfl (lv_at hl 1 rfl) ?_
  refine lv_iconst (v := 0) hx hb dX7_addPlayer_6 (by decide) ?_
  refine lv_bipush (v := 9) hx hb dX7_addPlayer_7 (by decide) ?_
  refine bd_cS1 [.int a, .int 0, .int 9] [] C (k_X7_isIn l E xm (bd_up ym 0 0 0 0) om a 0 9 ) hR hS qm_X7_44 qt_X7_isIn qz_X7 qc_X7_isIn qp_X7_isIn.2 ⟨Nat.le_of_ble_eq_true rfl, Nat.le_of_ble_eq_true rfl⟩ hl.1 (Nat.le_of_ble_eq_true rfl) dX7_addPlayer_9 ⟨by show 0 + 0 ≤ 1; omega, by show 0 + 0 ≤ 4; omega⟩ (fun H locs hR hS hz9 => ?_)
  refine bd_ifeq (P := ¬ a < 0 ∧ ¬ 9 < a) (tgt := 46) C dX7_addPlayer_12 (by decide) (fun q9 => absurd h9a q9) (fun q9 => ?_)
  refine lv_iload_n hx hb dX7_addPlayer_15 rfl (lv_at hl 2 rfl) ?_
  refine lv_iconst (v := 0) hx hb dX7_addPlayer_16 (by decide) ?_
  refine lv_bipush (v := 9) hx hb dX7_addPlayer_17 (by decide) ?_
  refine bd_cS1 [.int b, .int 0, .int 9] [] C (k_X7_isIn l E xm (bd_up ym 0 0 0 0) om b 0 9 ) hR hS qm_X7_44 qt_X7_isIn qz_X7 qc_X7_isIn qp_X7_isIn.2 ⟨Nat.le_of_ble_eq_true rfl, Nat.le_of_ble_eq_true rfl⟩ hl.1 (Nat.le_of_ble_eq_true rfl) dX7_addPlayer_19 ⟨by show 0 + 0 ≤ 1; omega, by show 0 + 0 ≤ 4; omega⟩ (fun H locs hR hS hz19 => ?_)
  refine bd_ifeq (P := ¬ b < 0 ∧ ¬ 9 < b) (tgt := 46) C dX7_addPlayer_22 (by decide) (fun q9 => absurd h9b q9) (fun q9 => ?_)
  refine lv_iload_n hx hb dX7_addPlayer_25 rfl (lv_at hl 3 rfl) ?_
  refine lv_iconst (v := 0) hx hb dX7_addPlayer_26 (by decide) ?_
  refine lv_bipush (v := 9) hx hb dX7_addPlayer_27 (by decide) ?_
  refine bd_cS1 [.int c2, .int 0, .int 9] [] C (k_X7_isIn l E xm (bd_up ym 0 0 0 0) om c2 0 9 ) hR hS qm_X7_44 qt_X7_isIn qz_X7 qc_X7_isIn qp_X7_isIn.2 ⟨Nat.le_of_ble_eq_true rfl, Nat.le_of_ble_eq_true rfl⟩ hl.1 (Nat.le_of_ble_eq_true rfl) dX7_addPlayer_29 ⟨by show 0 + 0 ≤ 1; omega, by show 0 + 0 ≤ 4; omega⟩ (fun H locs hR hS hz29 => ?_)
  refine bd_ifeq (P := ¬ c2 < 0 ∧ ¬ 9 < c2) (tgt := 46) C dX7_addPlayer_32 (by decide) (fun q9 => absurd h9c q9) (fun q9 => ?_)
  refine lv_iload hx hb dX7_addPlayer_35 (lv_at hl 4 rfl) ?_
  refine lv_iconst (v := 0) hx hb dX7_addPlayer_37 (by decide) ?_
  refine lv_bipush (v := 9) hx hb dX7_addPlayer_38 (by decide) ?_
  refine bd_cS1 [.int d, .int 0, .int 9] [] C (k_X7_isIn l E xm (bd_up ym 0 0 0 0) om d 0 9 ) hR hS qm_X7_44 qt_X7_isIn qz_X7 qc_X7_isIn qp_X7_isIn.2 ⟨Nat.le_of_ble_eq_true rfl, Nat.le_of_ble_eq_true rfl⟩ hl.1 (Nat.le_of_ble_eq_true rfl) dX7_addPlayer_40 ⟨by show 0 + 0 ≤ 1; omega, by show 0 + 0 ≤ 4; omega⟩ (fun H locs hR hS hz40 => ?_)
  refine bd_ifne (P := ¬ d < 0 ∧ ¬ 9 < d) (tgt := 52) C dX7_addPlayer_43 (by decide) (fun q9 => ?_) (fun q9 => absurd h9d q9)
  refine lv_aload_n hx hb dX7_addPlayer_52 rfl (lv_at hl 0 rfl) ?_
  refine bd_g_X7_players C hR  qf_X7_41 dX7_addPlayer_53 ?_
  rw [show (bd_up ym 0 0 0 0) 1 0 0 = nI n from (show ry_Sh (bd_up ym 0 0 0 0) n nb z from (ry_Sh_up hy (by decide))).1]
  refine lv_bipush (v := 24) hx hb dX7_addPlayer_56 (by decide) ?_
  refine lv_icmp_ne (tgt := 67) hx hb dX7_addPlayer_58 (by decide) (fun c58 => ?_) (fun c58 => ?_)
  · skip
    have nc58 : ¬ n = 24 := fun q9 => c58 ((nI_eq (a := n) (b := 24) (by omega) (by omega)).mpr q9)
    refine lv_iconst (v := 4) hx hb dX7_addPlayer_67 (by decide) ?_
    refine bd_tnew (n := 4) C hR hS (by omega) ⟨by show 0 + 1 ≤ 1; omega, by show 0 + 4 ≤ 4; omega⟩ dX7_addPlayer_68 (fun q1 H hR hT hS => ?_)
    refine lv_dup hx hb dX7_addPlayer_70 rfl ?_
    refine lv_iconst (v := 0) hx hb dX7_addPlayer_71 (by decide) ?_
    refine lv_iload_n hx hb dX7_addPlayer_72 rfl (lv_at hl 1 rfl) ?_
    refine bd_ti2 (j := 0) rfl ?_
    refine bd_tst (j := 0) C hR hT hS (by omega) (by omega) dX7_addPlayer_73 (fun H locs hR hT hS => ?_)
    refine lv_dup hx hb dX7_addPlayer_74 rfl ?_
    refine lv_iconst (v := 1) hx hb dX7_addPlayer_75 (by decide) ?_
    refine lv_iload_n hx hb dX7_addPlayer_76 rfl (lv_at hl 2 rfl) ?_
    refine bd_ti2 (j := 1) rfl ?_
    refine bd_tst (j := 1) C hR hT hS (by omega) (by omega) dX7_addPlayer_77 (fun H locs hR hT hS => ?_)
    refine lv_dup hx hb dX7_addPlayer_78 rfl ?_
    refine lv_iconst (v := 2) hx hb dX7_addPlayer_79 (by decide) ?_
    refine lv_iload_n hx hb dX7_addPlayer_80 rfl (lv_at hl 3 rfl) ?_
    refine bd_ti2 (j := 2) rfl ?_
    refine bd_tst (j := 2) C hR hT hS (by omega) (by omega) dX7_addPlayer_81 (fun H locs hR hT hS => ?_)
    refine lv_dup hx hb dX7_addPlayer_82 rfl ?_
    refine lv_iconst (v := 3) hx hb dX7_addPlayer_83 (by decide) ?_
    refine lv_iload hx hb dX7_addPlayer_84 (lv_at hl 4 rfl) ?_
    refine bd_ti2 (j := 3) rfl ?_
    refine bd_tst (j := 3) C hR hT hS (by omega) (by omega) dX7_addPlayer_86 (fun H locs hR hT hS => ?_)
    refine lv_astore (lv' := [(5, .ref q1), (0, .ref (bd_ea E 12 0 0)), (1, .int a), (2, .int b), (3, .int c2), (4, .int d)]) hx hb dX7_addPlayer_87 hl (by decide) rfl (fun ls hl => ?_)
    refine lv_aload hx hb dX7_addPlayer_89 (lv_at hl 0 rfl) ?_
    refine lv_iconst (v := 0) hx hb dX7_addPlayer_91 (by decide) ?_
    refine lv_aload_n hx hb dX7_addPlayer_92 rfl (lv_at hl 1 rfl) ?_
    refine bd_g_X7_skill C hR  qf_X7_9 dX7_addPlayer_93 ?_
    refine lv_iconst (v := 4) hx hb dX7_addPlayer_96 (by decide) ?_
    refine lv_aload_n hx hb dX7_addPlayer_97 rfl (lv_at hl 1 rfl) ?_
    refine bd_g_X7_players C hR  qf_X7_41 dX7_addPlayer_98 ?_
    rw [show (bd_up ym 0 0 0 0) 1 0 0 = nI n from (show ry_Sh (bd_up ym 0 0 0 0) n nb z from (ry_Sh_up hy (by decide))).1]
    refine lv_imul hx hb dX7_addPlayer_101 ?_
    refine bd_ti (j := 4 * n) (pk_mul 4 n) ?_
    refine lv_iconst (v := 4) hx hb dX7_addPlayer_102 (by decide) ?_
    refine bd_tcp (n := 4) (dp := (4 * n)) C hR hT hS hl.1 qm_X7_59 (f2 := 13) ⟨by decide, (by decide), (by decide)⟩ rfl (by omega) (by omega) (by omega) (by omega) bd_ro13 ⟨Nat.le_of_ble_eq_true rfl, Nat.le_of_ble_eq_true rfl⟩ dX7_addPlayer_103 (fun H locs hR hS => ?_)
    refine lv_aload_n hx hb dX7_addPlayer_106 rfl (lv_at hl 1 rfl) ?_
    refine lv_dup hx hb dX7_addPlayer_107 rfl ?_
    refine bd_g_X7_players C hR  qf_X7_41 dX7_addPlayer_108 ?_
    rw [show (bd_ro (bd_up ym 0 0 0 0) 13 0 (va_cpy (upd (upd (upd (upd (fun _ => 0) 0 a) 1 b) 2 c2) 3 d) (fun j => (bd_up ym 0 0 0 0) 13 0 j) 0 (4 * n) 4)) 1 0 0 = nI n from by rw [bd_ro, if_neg (by decide), bd_up_n (by decide)]; exact hy.1]
    refine lv_iconst (v := 1) hx hb dX7_addPlayer_111 (by decide) ?_
    refine lv_iadd hx hb dX7_addPlayer_112 ?_
    refine bd_ti (j := n + 1) (nI_add n 1) ?_
    refine bd_p_X7_players C hR hS  qf_X7_41 dX7_addPlayer_113 (fun H locs hR hS => ?_)
    refine lv_aload_n hx hb dX7_addPlayer_116 rfl (lv_at hl 1 rfl) ?_
    refine bd_g_X7_players C hR  qf_X7_41 dX7_addPlayer_117 ?_
    rw [show (bd_up (bd_ro (bd_up ym 0 0 0 0) 13 0 (va_cpy (upd (upd (upd (upd (fun _ => 0) 0 a) 1 b) 2 c2) 3 d) (fun j => (bd_up ym 0 0 0 0) 13 0 j) 0 (4 * n) 4)) 1 0 0 (nI (n + 1))) 1 0 0 = nI (n + 1) from bd_up_s]
    refine lv_iconst (v := 1) hx hb dX7_addPlayer_120 (by decide) ?_
    refine lv_isub hx hb dX7_addPlayer_121 ?_
    refine bd_ti (j := (n + 1) - 1) (pk_sub (a := (n + 1)) (b := 1) (by omega)) ?_
    exact bd_ri C hr hlk (hR.eq rfl (by first | rfl | (rfl))) hS (by show (0 + 1) ≤ 1; omega) (by show (0 + 4) ≤ 4; omega) dX7_addPlayer_122 (by first | rfl | (exact nI_pred n))
  · exact absurd ((nI_eq (a := n) (b := 24) (by omega) (by decide)).mp c58) (by omega)
set_option maxHeartbeats 4000000 in
set_option maxRecDepth 100000 in
theorem k_X7_addPlayer_1 (l : Launch) (E : bd_E) (xm ym : bd_M) (om : Nat → Int64) (n : Nat) (nb : Nat) (z : (Nat→Nat)) (a : Int32) (b : Int32) (c2 : Int32) (d : Int32) (hy : ry_Sh ym n nb z) (h1 : ¬ ((¬ a < 0 ∧ ¬ 9 < a) ∧ (¬ b < 0 ∧ ¬ 9 < b) ∧ (¬ c2 < 0 ∧ ¬ 9 < c2) ∧ ¬ d < 0 ∧ ¬ 9 < d)) : bd_Ct l yX7_addPlayer cX7_addPlayer 6 (some .int) 1 40 1 4 E [.ref (bd_ea E 12 0 0), .int a, .int b, .int c2, .int d] xm ym om xm (bd_up (ry_t0 ym) 0 0 0 1) om (some (.int 0)) := by
  refine bd_open RX7 rfl (by decide) (Nat.le_of_ble_eq_true rfl) ?_
  intro p e s m args below meth c ls C hr hlk hS hR hl
  have hx := C.1.1
  have hb := C.1.2.1
  have hy24 := hy.2.1
  have hy6 := hy.2.2.2.1
  have hl : lv_has ls 6 [(0, .ref (bd_ea E 12 0 0)), (1, .int a), (2, .int b), (3, .int c2), (4, .int d)] := hl
  refine lv_aload_n hx hb dX7_addPlayer_0 rfl (lv_at hl 0 rfl) ?_
  refine lv_iconst (v := 0) hx hb dX7_addPlayer_1 (by decide) ?_
  refine bd_p_X7_thrown C hR hS  qf_X7_37 dX7_addPlayer_2 (fun H locs hR hS => ?_)
  refine lv_iload_n hx hb dX7_addPlayer_5 rfl (lv_at hl 1 rfl) ?_
  refine lv_iconst (v := 0) hx hb dX7_addPlayer_6 (by decide) ?_
  refine lv_bipush (v := 9) hx hb dX7_addPlayer_7 (by decide) ?_
  refine bd_cS1 [.int a, .int 0, .int 9] [] C (k_X7_isIn l E xm (bd_up ym 0 0 0 0) om a 0 9 ) hR hS qm_X7_44 qt_X7_isIn qz_X7 qc_X7_isIn qp_X7_isIn.2 ⟨Nat.le_of_ble_eq_true rfl, Nat.le_of_ble_eq_true rfl⟩ hl.1 (Nat.le_of_ble_eq_true rfl) dX7_addPlayer_9 ⟨by show 0 + 0 ≤ 1; omega, by show 0 + 0 ≤ 4; omega⟩ (fun H locs hR hS hz9 => ?_)
  refine bd_ifeq (P := ¬ a < 0 ∧ ¬ 9 < a) (tgt := 46) C dX7_addPlayer_12 (by decide) (fun c12 => ?_) (fun c12 => ?_)
  · skip
    refine lv_aload_n hx hb dX7_addPlayer_46 rfl (lv_at hl 0 rfl) ?_
    refine lv_iconst (v := 1) hx hb dX7_addPlayer_47 (by decide) ?_
    refine bd_cV1 [.int 1] [] C (k_X7_no l E xm (bd_up ym 0 0 0 0) om 1 ) hR hS (bd_recv C.2 hR ⟨by decide, (by decide), (by decide)⟩ rfl rfl) qm_X7_55 qi_X7_no qs_X7_no qz_X7 qc_X7_no qp_X7_no ⟨Nat.le_of_ble_eq_true rfl, Nat.le_of_ble_eq_true rfl⟩ hl.1 (Nat.le_of_ble_eq_true rfl) dX7_addPlayer_48 ⟨by show 0 + 0 ≤ 1; omega, by show 0 + 0 ≤ 4; omega⟩ (fun H locs hR hS hz48 => ?_)
    exact bd_ri C hr hlk (hR.eq rfl (by first | (simp (config := { decide := true }) only [eq_false c12, ↓reduceIte, not_true_eq_false, not_false_eq_true, and_self, and_true, true_and, and_false, false_and]; done) | rfl)) hS (by show 0 ≤ 1; omega) (by show 0 ≤ 4; omega) dX7_addPlayer_51 rfl
  · skip
    refine lv_iload_n hx hb dX7_addPlayer_15 rfl (lv_at hl 2 rfl) ?_
    refine lv_iconst (v := 0) hx hb dX7_addPlayer_16 (by decide) ?_
    refine lv_bipush (v := 9) hx hb dX7_addPlayer_17 (by decide) ?_
    refine bd_cS1 [.int b, .int 0, .int 9] [] C (k_X7_isIn l E xm (bd_up ym 0 0 0 0) om b 0 9 ) hR hS qm_X7_44 qt_X7_isIn qz_X7 qc_X7_isIn qp_X7_isIn.2 ⟨Nat.le_of_ble_eq_true rfl, Nat.le_of_ble_eq_true rfl⟩ hl.1 (Nat.le_of_ble_eq_true rfl) dX7_addPlayer_19 ⟨by show 0 + 0 ≤ 1; omega, by show 0 + 0 ≤ 4; omega⟩ (fun H locs hR hS hz19 => ?_)
    refine bd_ifeq (P := ¬ b < 0 ∧ ¬ 9 < b) (tgt := 46) C dX7_addPlayer_22 (by decide) (fun c22 => ?_) (fun c22 => ?_)
    · skip
      refine lv_aload_n hx hb dX7_addPlayer_46 rfl (lv_at hl 0 rfl) ?_
      refine lv_iconst (v := 1) hx hb dX7_addPlayer_47 (by decide) ?_
      refine bd_cV1 [.int 1] [] C (k_X7_no l E xm (bd_up ym 0 0 0 0) om 1 ) hR hS (bd_recv C.2 hR ⟨by decide, (by decide), (by decide)⟩ rfl rfl) qm_X7_55 qi_X7_no qs_X7_no qz_X7 qc_X7_no qp_X7_no ⟨Nat.le_of_ble_eq_true rfl, Nat.le_of_ble_eq_true rfl⟩ hl.1 (Nat.le_of_ble_eq_true rfl) dX7_addPlayer_48 ⟨by show 0 + 0 ≤ 1; omega, by show 0 + 0 ≤ 4; omega⟩ (fun H locs hR hS hz48 => ?_)
      exact bd_ri C hr hlk (hR.eq rfl (by first | (simp (config := { decide := true }) only [eq_true c12, eq_false c22, ↓reduceIte, not_true_eq_false, not_false_eq_true, and_self, and_true, true_and, and_false, false_and]; done) | rfl)) hS (by show 0 ≤ 1; omega) (by show 0 ≤ 4; omega) dX7_addPlayer_51 rfl
    · skip
      refine lv_iload_n hx hb dX7_addPlayer_25 rfl (lv_at hl 3 rfl) ?_
      refine lv_iconst (v := 0) hx hb dX7_addPlayer_26 (by decide) ?_
      refine lv_bipush (v := 9) hx hb dX7_addPlayer_27 (by decide) ?_
      refine bd_cS1 [.int c2, .int 0, .int 9] [] C (k_X7_isIn l E xm (bd_up ym 0 0 0 0) om c2 0 9 ) hR hS qm_X7_44 qt_X7_isIn qz_X7 qc_X7_isIn qp_X7_isIn.2 ⟨Nat.le_of_ble_eq_true rfl, Nat.le_of_ble_eq_true rfl⟩ hl.1 (Nat.le_of_ble_eq_true rfl) dX7_addPlayer_29 ⟨by show 0 + 0 ≤ 1; omega, by show 0 + 0 ≤ 4; omega⟩ (fun H locs hR hS hz29 => ?_)
      refine bd_ifeq (P := ¬ c2 < 0 ∧ ¬ 9 < c2) (tgt := 46) C dX7_addPlayer_32 (by decide) (fun c32 => ?_) (fun c32 => ?_)
      · skip
        refine lv_aload_n hx hb dX7_addPlayer_46 rfl (lv_at hl 0 rfl) ?_
        refine lv_iconst (v := 1) hx hb dX7_addPlayer_47 (by decide) ?_
        refine bd_cV1 [.int 1] [] C (k_X7_no l E xm (bd_up ym 0 0 0 0) om 1 ) hR hS (bd_recv C.2 hR ⟨by decide, (by decide), (by decide)⟩ rfl rfl) qm_X7_55 qi_X7_no qs_X7_no qz_X7 qc_X7_no qp_X7_no ⟨Nat.le_of_ble_eq_true rfl, Nat.le_of_ble_eq_true rfl⟩ hl.1 (Nat.le_of_ble_eq_true rfl) dX7_addPlayer_48 ⟨by show 0 + 0 ≤ 1; omega, by show 0 + 0 ≤ 4; omega⟩ (fun H locs hR hS hz48 => ?_)
        exact bd_ri C hr hlk (hR.eq rfl (by first | (simp (config := { decide := true }) only [eq_true c12, eq_true c22, eq_false c32, ↓reduceIte, not_true_eq_false, not_false_eq_true, and_self, and_true, true_and, and_false, false_and]; done) | rfl)) hS (by show 0 ≤ 1; omega) (by show 0 ≤ 4; omega) dX7_addPlayer_51 rfl
      · skip
        refine lv_iload hx hb dX7_addPlayer_35 (lv_at hl 4 rfl) ?_
        refine lv_iconst (v := 0) hx hb dX7_addPlayer_37 (by decide) ?_
        refine lv_bipush (v := 9) hx hb dX7_addPlayer_38 (by decide) ?_
        refine bd_cS1 [.int d, .int 0, .int 9] [] C (k_X7_isIn l E xm (bd_up ym 0 0 0 0) om d 0 9 ) hR hS qm_X7_44 qt_X7_isIn qz_X7 qc_X7_isIn qp_X7_isIn.2 ⟨Nat.le_of_ble_eq_true rfl, Nat.le_of_ble_eq_true rfl⟩ hl.1 (Nat.le_of_ble_eq_true rfl) dX7_addPlayer_40 ⟨by show 0 + 0 ≤ 1; omega, by show 0 + 0 ≤ 4; omega⟩ (fun H locs hR hS hz40 => ?_)
        refine bd_ifne (P := ¬ d < 0 ∧ ¬ 9 < d) (tgt := 52) C dX7_addPlayer_43 (by decide) (fun c43 => ?_) (fun c43 => ?_)
        · exact absurd ⟨c12, c22, c32, c43⟩ h1
        · skip
          refine lv_aload_n hx hb dX7_addPlayer_46 rfl (lv_at hl 0 rfl) ?_
          refine lv_iconst (v := 1) hx hb dX7_addPlayer_47 (by decide) ?_
          refine bd_cV1 [.int 1] [] C (k_X7_no l E xm (bd_up ym 0 0 0 0) om 1 ) hR hS (bd_recv C.2 hR ⟨by decide, (by decide), (by decide)⟩ rfl rfl) qm_X7_55 qi_X7_no qs_X7_no qz_X7 qc_X7_no qp_X7_no ⟨Nat.le_of_ble_eq_true rfl, Nat.le_of_ble_eq_true rfl⟩ hl.1 (Nat.le_of_ble_eq_true rfl) dX7_addPlayer_48 ⟨by show 0 + 0 ≤ 1; omega, by show 0 + 0 ≤ 4; omega⟩ (fun H locs hR hS hz48 => ?_)
          exact bd_ri C hr hlk (hR.eq rfl (by first | (simp (config := { decide := true }) only [eq_true c12, eq_true c22, eq_true c32, eq_false c43, ↓reduceIte, not_true_eq_false, not_false_eq_true, and_self, and_true, true_and, and_false, false_and]; done) | rfl)) hS (by show 0 ≤ 1; omega) (by show 0 ≤ 4; omega) dX7_addPlayer_51 rfl
set_option maxHeartbeats 4000000 in
set_option maxRecDepth 100000 in
theorem k_X7_addPlayer_2 (l : Launch) (E : bd_E) (xm ym : bd_M) (om : Nat → Int64) (n : Nat) (nb : Nat) (z : (Nat→Nat)) (a : Int32) (b : Int32) (c2 : Int32) (d : Int32) (hy : ry_Sh ym n nb z) (h9a : ¬ a < 0 ∧ ¬ 9 < a) (h9b : ¬ b < 0 ∧ ¬ 9 < b) (h9c : ¬ c2 < 0 ∧ ¬ 9 < c2) (h9d : ¬ d < 0 ∧ ¬ 9 < d) (hn : n = 24) : bd_Ct l yX7_addPlayer cX7_addPlayer 6 (some .int) 1 40 1 4 E [.ref (bd_ea E 12 0 0), .int a, .int b, .int c2, .int d] xm ym om xm (bd_up (ry_t0 ym) 0 0 0 2) om (some (.int 0)) := by
  refine bd_open RX7 rfl (by decide) (Nat.le_of_ble_eq_true rfl) ?_
  intro p e s m args below meth c ls C hr hlk hS hR hl
  have hx := C.1.1
  have hb := C.1.2.1
  have hy24 := hy.2.1
  have hy6 := hy.2.2.2.1
  have hl : lv_has ls 6 [(0, .ref (bd_ea E 12 0 0)), (1, .int a), (2, .int b), (3, .int c2), (4, .int d)] := hl
  refine lv_aload_n hx hb dX7_addPlayer_0 rfl (lv_at hl 0 rfl) ?_
  refine lv_iconst (v := 0) hx hb dX7_addPlayer_1 (by decide) ?_
  refine bd_p_X7_thrown C hR hS  qf_X7_37 dX7_addPlayer_2 (fun H locs hR hS => ?_)
  refine lv_iload_n hx hb dX7_addPlayer_5 rfl (lv_at hl 1 rfl) ?_
  refine lv_iconst (v := 0) hx hb dX7_addPlayer_6 (by decide) ?_
  refine lv_bipush (v := 9) hx hb dX7_addPlayer_7 (by decide) ?_
  refine bd_cS1 [.int a, .int 0, .int 9] [] C (k_X7_isIn l E xm (bd_up ym 0 0 0 0) om a 0 9 ) hR hS qm_X7_44 qt_X7_isIn qz_X7 qc_X7_isIn qp_X7_isIn.2 ⟨Nat.le_of_ble_eq_true rfl, Nat.le_of_ble_eq_true rfl⟩ hl.1 (Nat.le_of_ble_eq_true rfl) dX7_addPlayer_9 ⟨by show 0 + 0 ≤ 1; omega, by show 0 + 0 ≤ 4; omega⟩ (fun H locs hR hS hz9 => ?_)
  refine bd_ifeq (P := ¬ a < 0 ∧ ¬ 9 < a) (tgt := 46) C dX7_addPlayer_12 (by decide) (fun q9 => absurd h9a q9) (fun q9 => ?_)
  refine lv_iload_n hx hb dX7_addPlayer_15 rfl (lv_at hl 2 rfl) ?_
  refine lv_iconst (v := 0) hx hb dX7_addPlayer_16 (by decide) ?_
  refine lv_bipush (v := 9) hx hb dX7_addPlayer_17 (by decide) ?_
  refine bd_cS1 [.int b, .int 0, .int 9] [] C (k_X7_isIn l E xm (bd_up ym 0 0 0 0) om b 0 9 ) hR hS qm_X7_44 qt_X7_isIn qz_X7 qc_X7_isIn qp_X7_isIn.2 ⟨Nat.le_of_ble_eq_true rfl, Nat.le_of_ble_eq_true rfl⟩ hl.1 (Nat.le_of_ble_eq_true rfl) dX7_addPlayer_19 ⟨by show 0 + 0 ≤ 1; omega, by show 0 + 0 ≤ 4; omega⟩ (fun H locs hR hS hz19 => ?_)
  refine bd_ifeq (P := ¬ b < 0 ∧ ¬ 9 < b) (tgt := 46) C dX7_addPlayer_22 (by decide) (fun q9 => absurd h9b q9) (fun q9 => ?_)
  refine lv_iload_n hx hb dX7_addPlayer_25 rfl (lv_at hl 3 rfl) ?_
  refine lv_iconst (v := 0) hx hb dX7_addPlayer_26 (by decide) ?_
  refine lv_bipush (v := 9) hx hb dX7_addPlayer_27 (by decide) ?_
  refine bd_cS1 [.int c2, .int 0, .int 9] [] C (k_X7_isIn l E xm (bd_up ym 0 0 0 0) om c2 0 9 ) hR hS qm_X7_44 qt_X7_isIn qz_X7 qc_X7_isIn qp_X7_isIn.2 ⟨Nat.le_of_ble_eq_true rfl, Nat.le_of_ble_eq_true rfl⟩ hl.1 (Nat.le_of_ble_eq_true rfl) dX7_addPlayer_29 ⟨by show 0 + 0 ≤ 1; omega, by show 0 + 0 ≤ 4; omega⟩ (fun H locs hR hS hz29 => ?_)
  refine bd_ifeq (P := ¬ c2 < 0 ∧ ¬ 9 < c2) (tgt := 46) C dX7_addPlayer_32 (by decide) (fun q9 => absurd h9c q9) (fun q9 => ?_)
  refine lv_iload hx hb dX7_addPlayer_35 (lv_at hl 4 rfl) ?_
  refine lv_iconst (v := 0) hx hb dX7_addPlayer_37 (by decide) ?_
  refine lv_bipush (v := 9) hx hb dX7_addPlayer_38 (by decide) ?_
  refine bd_cS1 [.int d, .int 0, .int 9] [] C (k_X7_isIn l E xm (bd_up ym 0 0 0 0) om d 0 9 ) hR hS qm_X7_44 qt_X7_isIn qz_X7 qc_X7_isIn qp_X7_isIn.2 ⟨Nat.le_of_ble_eq_true rfl, Nat.le_of_ble_eq_true rfl⟩ hl.1 (Nat.le_of_ble_eq_true rfl) dX7_addPlayer_40 ⟨by show 0 + 0 ≤ 1; omega, by show 0 + 0 ≤ 4; omega⟩ (fun H locs hR hS hz40 => ?_)
  refine bd_ifne (P := ¬ d < 0 ∧ ¬ 9 < d) (tgt := 52) C dX7_addPlayer_43 (by decide) (fun q9 => ?_) (fun q9 => absurd h9d q9)
  refine lv_aload_n hx hb dX7_addPlayer_52 rfl (lv_at hl 0 rfl) ?_
  refine bd_g_X7_players C hR  qf_X7_41 dX7_addPlayer_53 ?_
  rw [show (bd_up ym 0 0 0 0) 1 0 0 = nI n from (show ry_Sh (bd_up ym 0 0 0 0) n nb z from (ry_Sh_up hy (by decide))).1]
  refine lv_bipush (v := 24) hx hb dX7_addPlayer_56 (by decide) ?_
  refine lv_icmp_ne (tgt := 67) hx hb dX7_addPlayer_58 (by decide) (fun c58 => ?_) (fun c58 => ?_)
  · exact absurd (by rw [hn]; rfl) c58
  · skip
    have nc58 : n = 24 := (nI_eq (a := n) (b := 24) (by omega) (by omega)).mp c58
    refine lv_aload_n hx hb dX7_addPlayer_61 rfl (lv_at hl 0 rfl) ?_
    refine lv_iconst (v := 2) hx hb dX7_addPlayer_62 (by decide) ?_
    refine bd_cV1 [.int 2] [] C (k_X7_no l E xm (bd_up ym 0 0 0 0) om 2 ) hR hS (bd_recv C.2 hR ⟨by decide, (by decide), (by decide)⟩ rfl rfl) qm_X7_55 qi_X7_no qs_X7_no qz_X7 qc_X7_no qp_X7_no ⟨Nat.le_of_ble_eq_true rfl, Nat.le_of_ble_eq_true rfl⟩ hl.1 (Nat.le_of_ble_eq_true rfl) dX7_addPlayer_63 ⟨by show 0 + 0 ≤ 1; omega, by show 0 + 0 ≤ 4; omega⟩ (fun H locs hR hS hz63 => ?_)
    exact bd_ri C hr hlk (hR.eq rfl (by first | (simp (config := { decide := true }) only [eq_true c58, eq_true nc58, ↓reduceIte, not_true_eq_false, not_false_eq_true, and_self, and_true, true_and, and_false, false_and]; done) | rfl)) hS (by show 0 ≤ 1; omega) (by show 0 ≤ 4; omega) dX7_addPlayer_66 rfl
set_option maxHeartbeats 4000000 in
set_option maxRecDepth 100000 in
theorem k_X7_absent_ok (l : Launch) (E : bd_E) (xm ym : bd_M) (om : Nat → Int64) (n : Nat) (nb : Nat) (z : (Nat→Nat)) (k : Nat) (v : Int32) (hy : ry_Sh ym n nb z) (hp : k < n) (h2 : ¬ v < 0 ∧ ¬ 20 < v) : bd_Ct l yX7_absent cX7_absent 4 (some .int) 2 43 0 0 E [.ref (bd_ea E 12 0 0), .int (nI k), .int v] xm ym om xm (bd_up (ry_t0 ym) 20 0 k v) om (some (.int (ym 20 0 k))) := by
  refine bd_open RX7 rfl (by decide) (Nat.le_of_ble_eq_true rfl) ?_
  intro p e s m args below meth c ls C hr hlk hS hR hl
  have hx := C.1.1
  have hb := C.1.2.1
  have hy24 := hy.2.1
  have hy6 := hy.2.2.2.1
  have kp : ¬ (nI k : Int32) < 0 ∧ nI k < nI n := ⟨nI_pos (by omega), nI_lt hp (by omega)⟩
  have hl : lv_has ls 4 [(0, .ref (bd_ea E 12 0 0)), (1, .int (nI k)), (2, .int v)] := hl
  refine lv_aload_n hx hb dX7_absent_0 rfl (lv_at hl 0 rfl) ?_
  refine lv_iconst (v := 0) hx hb dX7_absent_1 (by decide) ?_
  refine bd_p_X7_thrown C hR hS  qf_X7_37 dX7_absent_2 (fun H locs hR hS => ?_)
  refine lv_aload_n hx hb dX7_absent_5 rfl (lv_at hl 0 rfl) ?_
  refine lv_iload_n hx hb dX7_absent_6 rfl (lv_at hl 1 rfl) ?_
  refine bd_cV1 [.int (nI k)] [] C (k_X7_isPlayer l E xm (bd_up ym 0 0 0 0) om n nb z (nI k) (ry_Sh_up hy (by decide))) hR hS (bd_recv C.2 hR ⟨by decide, (by decide), (by decide)⟩ rfl rfl) qm_X7_79 qi_X7_isPlayer qs_X7_isPlayer qz_X7 qc_X7_isPlayer qp_X7_isPlayer ⟨Nat.le_of_ble_eq_true rfl, Nat.le_of_ble_eq_true rfl⟩ hl.1 (Nat.le_of_ble_eq_true rfl) dX7_absent_7 ⟨Nat.le_of_ble_eq_true rfl, Nat.le_of_ble_eq_true rfl⟩ (fun H locs hR hS hz7 => ?_)
  refine bd_ifne (P := ¬ (nI k) < 0 ∧ (nI k) < nI n) (tgt := 19) C dX7_absent_10 (by decide) (fun q9 => ?_) (fun q9 => absurd kp q9)
  refine lv_iload_n hx hb dX7_absent_19 rfl (lv_at hl 2 rfl) ?_
  refine lv_iconst (v := 0) hx hb dX7_absent_20 (by decide) ?_
  refine lv_bipush (v := 20) hx hb dX7_absent_21 (by decide) ?_
  refine bd_cS1 [.int v, .int 0, .int 20] [] C (k_X7_isIn l E xm (bd_up ym 0 0 0 0) om v 0 20 ) hR hS qm_X7_44 qt_X7_isIn qz_X7 qc_X7_isIn qp_X7_isIn.2 ⟨Nat.le_of_ble_eq_true rfl, Nat.le_of_ble_eq_true rfl⟩ hl.1 (Nat.le_of_ble_eq_true rfl) dX7_absent_23 ⟨Nat.le_of_ble_eq_true rfl, Nat.le_of_ble_eq_true rfl⟩ (fun H locs hR hS hz23 => ?_)
  refine bd_ifne (P := ¬ v < 0 ∧ ¬ 20 < v) (tgt := 35) C dX7_absent_26 (by decide) (fun q9 => ?_) (fun q9 => absurd h2 q9)
  refine lv_aload_n hx hb dX7_absent_35 rfl (lv_at hl 0 rfl) ?_
  refine bd_g_X7_s C hR  qf_X7_30 dX7_absent_36 ?_
  refine bd_gN_X6_absent C hR (by decide) (List.mem_of_getElem? (i := 11) rfl) dX7_absent_39 ?_
  refine lv_iload_n hx hb dX7_absent_42 rfl (lv_at hl 1 rfl) ?_
  refine bd_ld_20 C hR (by decide) (j := k) (by omega) dX7_absent_43 ?_
  refine lv_istore_n (lv' := [(3, .int ((bd_up ym 0 0 0 0) 20 0 k)), (0, .ref (bd_ea E 12 0 0)), (1, .int (nI k)), (2, .int v)]) hx hb dX7_absent_44 rfl hl (by decide) rfl (fun ls hl => ?_)
  refine lv_aload_n hx hb dX7_absent_45 rfl (lv_at hl 1 rfl) ?_
  refine bd_g_X7_s C hR  qf_X7_30 dX7_absent_46 ?_
  refine bd_gN_X6_absent C hR (by decide) (List.mem_of_getElem? (i := 11) rfl) dX7_absent_49 ?_
  refine lv_iload_n hx hb dX7_absent_52 rfl (lv_at hl 2 rfl) ?_
  refine lv_iload_n hx hb dX7_absent_53 rfl (lv_at hl 3 rfl) ?_
  refine bd_st_20 C hR hS (by decide) (j := k) (by omega) dX7_absent_54 (fun H locs hR hS => ?_)
  refine lv_iload_n hx hb dX7_absent_55 rfl (lv_at hl 0 rfl) ?_
  exact bd_ri C hr hlk (hR.eq rfl (by first | rfl | (rfl))) hS (Nat.zero_le _) (Nat.zero_le _) dX7_absent_56 (by first | rfl | (rfl))
set_option maxHeartbeats 4000000 in
set_option maxRecDepth 100000 in
theorem k_X7_absent_1 (l : Launch) (E : bd_E) (xm ym : bd_M) (om : Nat → Int64) (n : Nat) (nb : Nat) (z : (Nat→Nat)) (u : Int32) (v : Int32) (hy : ry_Sh ym n nb z) (h1 : ¬ (¬ u < 0 ∧ u < nI n)) : bd_Ct l yX7_absent cX7_absent 4 (some .int) 2 43 0 0 E [.ref (bd_ea E 12 0 0), .int u, .int v] xm ym om xm (bd_up (ry_t0 ym) 0 0 0 1) om (some (.int 0)) := by
  refine bd_open RX7 rfl (by decide) (Nat.le_of_ble_eq_true rfl) ?_
  intro p e s m args below meth c ls C hr hlk hS hR hl
  have hx := C.1.1
  have hb := C.1.2.1
  have hy24 := hy.2.1
  have hy6 := hy.2.2.2.1
  have hl : lv_has ls 4 [(0, .ref (bd_ea E 12 0 0)), (1, .int u), (2, .int v)] := hl
  refine lv_aload_n hx hb dX7_absent_0 rfl (lv_at hl 0 rfl) ?_
  refine lv_iconst (v := 0) hx hb dX7_absent_1 (by decide) ?_
  refine bd_p_X7_thrown C hR hS  qf_X7_37 dX7_absent_2 (fun H locs hR hS => ?_)
  refine lv_aload_n hx hb dX7_absent_5 rfl (lv_at hl 0 rfl) ?_
  refine lv_iload_n hx hb dX7_absent_6 rfl (lv_at hl 1 rfl) ?_
  refine bd_cV1 [.int u] [] C (k_X7_isPlayer l E xm (bd_up ym 0 0 0 0) om n nb z u (ry_Sh_up hy (by decide))) hR hS (bd_recv C.2 hR ⟨by decide, (by decide), (by decide)⟩ rfl rfl) qm_X7_79 qi_X7_isPlayer qs_X7_isPlayer qz_X7 qc_X7_isPlayer qp_X7_isPlayer ⟨Nat.le_of_ble_eq_true rfl, Nat.le_of_ble_eq_true rfl⟩ hl.1 (Nat.le_of_ble_eq_true rfl) dX7_absent_7 ⟨Nat.le_of_ble_eq_true rfl, Nat.le_of_ble_eq_true rfl⟩ (fun H locs hR hS hz7 => ?_)
  refine bd_ifne (P := ¬ u < 0 ∧ u < nI n) (tgt := 19) C dX7_absent_10 (by decide) (fun q9 => absurd q9 h1) (fun q9 => ?_)
  refine lv_aload_n hx hb dX7_absent_13 rfl (lv_at hl 0 rfl) ?_
  refine lv_iconst (v := 1) hx hb dX7_absent_14 (by decide) ?_
  refine bd_cV1 [.int 1] [] C (k_X7_no l E xm (bd_up ym 0 0 0 0) om 1 ) hR hS (bd_recv C.2 hR ⟨by decide, (by decide), (by decide)⟩ rfl rfl) qm_X7_55 qi_X7_no qs_X7_no qz_X7 qc_X7_no qp_X7_no ⟨Nat.le_of_ble_eq_true rfl, Nat.le_of_ble_eq_true rfl⟩ hl.1 (Nat.le_of_ble_eq_true rfl) dX7_absent_15 ⟨Nat.le_of_ble_eq_true rfl, Nat.le_of_ble_eq_true rfl⟩ (fun H locs hR hS hz15 => ?_)
  exact bd_ri C hr hlk (hR.eq rfl (by first | (simp (config := { decide := true }) only [↓reduceIte, not_true_eq_false, not_false_eq_true, and_self, and_true, true_and, and_false, false_and]; done) | rfl)) hS (Nat.zero_le _) (Nat.zero_le _) dX7_absent_18 rfl
set_option maxHeartbeats 4000000 in
set_option maxRecDepth 100000 in
theorem k_X7_absent_2 (l : Launch) (E : bd_E) (xm ym : bd_M) (om : Nat → Int64) (n : Nat) (nb : Nat) (z : (Nat→Nat)) (u : Int32) (v : Int32) (hy : ry_Sh ym n nb z) (h1 : ¬ u < 0 ∧ u < nI n) (h2 : ¬ (¬ v < 0 ∧ ¬ 20 < v)) : bd_Ct l yX7_absent cX7_absent 4 (some .int) 2 43 0 0 E [.ref (bd_ea E 12 0 0), .int u, .int v] xm ym om xm (bd_up (ry_t0 ym) 0 0 0 2) om (some (.int 0)) := by
  refine bd_open RX7 rfl (by decide) (Nat.le_of_ble_eq_true rfl) ?_
  intro p e s m args below meth c ls C hr hlk hS hR hl
  have hx := C.1.1
  have hb := C.1.2.1
  have hy24 := hy.2.1
  have hy6 := hy.2.2.2.1
  have hl : lv_has ls 4 [(0, .ref (bd_ea E 12 0 0)), (1, .int u), (2, .int v)] := hl
  refine lv_aload_n hx hb dX7_absent_0 rfl (lv_at hl 0 rfl) ?_
  refine lv_iconst (v := 0) hx hb dX7_absent_1 (by decide) ?_
  refine bd_p_X7_thrown C hR hS  qf_X7_37 dX7_absent_2 (fun H locs hR hS => ?_)
  refine lv_aload_n hx hb dX7_absent_5 rfl (lv_at hl 0 rfl) ?_
  refine lv_iload_n hx hb dX7_absent_6 rfl (lv_at hl 1 rfl) ?_
  refine bd_cV1 [.int u] [] C (k_X7_isPlayer l E xm (bd_up ym 0 0 0 0) om n nb z u (ry_Sh_up hy (by decide))) hR hS (bd_recv C.2 hR ⟨by decide, (by decide), (by decide)⟩ rfl rfl) qm_X7_79 qi_X7_isPlayer qs_X7_isPlayer qz_X7 qc_X7_isPlayer qp_X7_isPlayer ⟨Nat.le_of_ble_eq_true rfl, Nat.le_of_ble_eq_true rfl⟩ hl.1 (Nat.le_of_ble_eq_true rfl) dX7_absent_7 ⟨Nat.le_of_ble_eq_true rfl, Nat.le_of_ble_eq_true rfl⟩ (fun H locs hR hS hz7 => ?_)
  refine bd_ifne (P := ¬ u < 0 ∧ u < nI n) (tgt := 19) C dX7_absent_10 (by decide) (fun q9 => ?_) (fun q9 => absurd h1 q9)
  refine lv_iload_n hx hb dX7_absent_19 rfl (lv_at hl 2 rfl) ?_
  refine lv_iconst (v := 0) hx hb dX7_absent_20 (by decide) ?_
  refine lv_bipush (v := 20) hx hb dX7_absent_21 (by decide) ?_
  refine bd_cS1 [.int v, .int 0, .int 20] [] C (k_X7_isIn l E xm (bd_up ym 0 0 0 0) om v 0 20 ) hR hS qm_X7_44 qt_X7_isIn qz_X7 qc_X7_isIn qp_X7_isIn.2 ⟨Nat.le_of_ble_eq_true rfl, Nat.le_of_ble_eq_true rfl⟩ hl.1 (Nat.le_of_ble_eq_true rfl) dX7_absent_23 ⟨Nat.le_of_ble_eq_true rfl, Nat.le_of_ble_eq_true rfl⟩ (fun H locs hR hS hz23 => ?_)
  refine bd_ifne (P := ¬ v < 0 ∧ ¬ 20 < v) (tgt := 35) C dX7_absent_26 (by decide) (fun q9 => absurd q9 h2) (fun q9 => ?_)
  refine lv_aload_n hx hb dX7_absent_29 rfl (lv_at hl 0 rfl) ?_
  refine lv_iconst (v := 2) hx hb dX7_absent_30 (by decide) ?_
  refine bd_cV1 [.int 2] [] C (k_X7_no l E xm (bd_up ym 0 0 0 0) om 2 ) hR hS (bd_recv C.2 hR ⟨by decide, (by decide), (by decide)⟩ rfl rfl) qm_X7_55 qi_X7_no qs_X7_no qz_X7 qc_X7_no qp_X7_no ⟨Nat.le_of_ble_eq_true rfl, Nat.le_of_ble_eq_true rfl⟩ hl.1 (Nat.le_of_ble_eq_true rfl) dX7_absent_31 ⟨Nat.le_of_ble_eq_true rfl, Nat.le_of_ble_eq_true rfl⟩ (fun H locs hR hS hz31 => ?_)
  exact bd_ri C hr hlk (hR.eq rfl (by first | (simp (config := { decide := true }) only [↓reduceIte, not_true_eq_false, not_false_eq_true, and_self, and_true, true_and, and_false, false_and]; done) | rfl)) hS (Nat.zero_le _) (Nat.zero_le _) dX7_absent_34 rfl
set_option maxHeartbeats 4000000 in
set_option maxRecDepth 100000 in
theorem k_X7_setPiece_ok (l : Launch) (E : bd_E) (xm ym : bd_M) (om : Nat → Int64) (n : Nat) (nb : Nat) (z : (Nat→Nat)) (k : Nat) (v : Int32) (hy : ry_Sh ym n nb z) (hp : k < 4) (h2 : ¬ v < 0 ∧ ¬ 9 < v) : bd_Ct l yX7_setPiece cX7_setPiece 4 (some .int) 1 22 0 0 E [.ref (bd_ea E 12 0 0), .int (nI k), .int v] xm ym om xm (bd_up (ry_t0 ym) 16 0 k v) om (some (.int (ym 16 0 k))) := by
  refine bd_open RX7 rfl (by decide) (Nat.le_of_ble_eq_true rfl) ?_
  intro p e s m args below meth c ls C hr hlk hS hR hl
  have hx := C.1.1
  have hb := C.1.2.1
  have hy24 := hy.2.1
  have hy6 := hy.2.2.2.1
  have kp : ¬ (nI k : Int32) < 0 ∧ ¬ 3 < nI k := ⟨nI_pos (by omega), fun q9 => absurd ((nI_ltI (a := 3) (b := k) (by decide) (by omega)).mp q9) (by omega)⟩
  have hl : lv_has ls 4 [(0, .ref (bd_ea E 12 0 0)), (1, .int (nI k)), (2, .int v)] := hl
  refine lv_aload_n hx hb dX7_setPiece_0 rfl (lv_at hl 0 rfl) ?_
  refine lv_iconst (v := 0) hx hb dX7_setPiece_1 (by decide) ?_
  refine bd_p_X7_thrown C hR hS  qf_X7_37 dX7_setPiece_2 (fun H locs hR hS => ?_)
  refine lv_iload_n hx hb dX7_setPiece_5 rfl (lv_at hl 1 rfl) ?_
  refine lv_iconst (v := 0) hx hb dX7_setPiece_6 (by decide) ?_
  refine lv_iconst (v := 3) hx hb dX7_setPiece_7 (by decide) ?_
  refine bd_cS1 [.int (nI k), .int 0, .int 3] [] C (k_X7_isIn l E xm (bd_up ym 0 0 0 0) om (nI k) 0 3 ) hR hS qm_X7_44 qt_X7_isIn qz_X7 qc_X7_isIn qp_X7_isIn.2 ⟨Nat.le_of_ble_eq_true rfl, Nat.le_of_ble_eq_true rfl⟩ hl.1 (Nat.le_of_ble_eq_true rfl) dX7_setPiece_8 ⟨Nat.le_of_ble_eq_true rfl, Nat.le_of_ble_eq_true rfl⟩ (fun H locs hR hS hz8 => ?_)
  refine bd_ifne (P := ¬ (nI k) < 0 ∧ ¬ 3 < (nI k)) (tgt := 20) C dX7_setPiece_11 (by decide) (fun q9 => ?_) (fun q9 => absurd kp q9)
  refine lv_iload_n hx hb dX7_setPiece_20 rfl (lv_at hl 2 rfl) ?_
  refine lv_iconst (v := 0) hx hb dX7_setPiece_21 (by decide) ?_
  refine lv_bipush (v := 9) hx hb dX7_setPiece_22 (by decide) ?_
  refine bd_cS1 [.int v, .int 0, .int 9] [] C (k_X7_isIn l E xm (bd_up ym 0 0 0 0) om v 0 9 ) hR hS qm_X7_44 qt_X7_isIn qz_X7 qc_X7_isIn qp_X7_isIn.2 ⟨Nat.le_of_ble_eq_true rfl, Nat.le_of_ble_eq_true rfl⟩ hl.1 (Nat.le_of_ble_eq_true rfl) dX7_setPiece_24 ⟨Nat.le_of_ble_eq_true rfl, Nat.le_of_ble_eq_true rfl⟩ (fun H locs hR hS hz24 => ?_)
  refine bd_ifne (P := ¬ v < 0 ∧ ¬ 9 < v) (tgt := 36) C dX7_setPiece_27 (by decide) (fun q9 => ?_) (fun q9 => absurd h2 q9)
  refine lv_aload_n hx hb dX7_setPiece_36 rfl (lv_at hl 0 rfl) ?_
  refine bd_g_X7_hard C hR  qf_X7_19 dX7_setPiece_37 ?_
  refine lv_iload_n hx hb dX7_setPiece_40 rfl (lv_at hl 1 rfl) ?_
  refine bd_ld_16 C hR  (j := k) (by omega) dX7_setPiece_41 ?_
  refine lv_istore_n (lv' := [(3, .int ((bd_up ym 0 0 0 0) 16 0 k)), (0, .ref (bd_ea E 12 0 0)), (1, .int (nI k)), (2, .int v)]) hx hb dX7_setPiece_42 rfl hl (by decide) rfl (fun ls hl => ?_)
  refine lv_aload_n hx hb dX7_setPiece_43 rfl (lv_at hl 1 rfl) ?_
  refine bd_g_X7_hard C hR  qf_X7_19 dX7_setPiece_44 ?_
  refine lv_iload_n hx hb dX7_setPiece_47 rfl (lv_at hl 2 rfl) ?_
  refine lv_iload_n hx hb dX7_setPiece_48 rfl (lv_at hl 3 rfl) ?_
  refine bd_st_16 C hR hS  (j := k) (by omega) dX7_setPiece_49 (fun H locs hR hS => ?_)
  refine lv_iload_n hx hb dX7_setPiece_50 rfl (lv_at hl 0 rfl) ?_
  exact bd_ri C hr hlk (hR.eq rfl (by first | rfl | (rfl))) hS (Nat.zero_le _) (Nat.zero_le _) dX7_setPiece_51 (by first | rfl | (rfl))
set_option maxHeartbeats 4000000 in
set_option maxRecDepth 100000 in
theorem k_X7_setPiece_1 (l : Launch) (E : bd_E) (xm ym : bd_M) (om : Nat → Int64) (n : Nat) (nb : Nat) (z : (Nat→Nat)) (u : Int32) (v : Int32) (hy : ry_Sh ym n nb z) (h1 : ¬ (¬ u < 0 ∧ ¬ 3 < u)) : bd_Ct l yX7_setPiece cX7_setPiece 4 (some .int) 1 22 0 0 E [.ref (bd_ea E 12 0 0), .int u, .int v] xm ym om xm (bd_up (ry_t0 ym) 0 0 0 1) om (some (.int 0)) := by
  refine bd_open RX7 rfl (by decide) (Nat.le_of_ble_eq_true rfl) ?_
  intro p e s m args below meth c ls C hr hlk hS hR hl
  have hx := C.1.1
  have hb := C.1.2.1
  have hy24 := hy.2.1
  have hy6 := hy.2.2.2.1
  have hl : lv_has ls 4 [(0, .ref (bd_ea E 12 0 0)), (1, .int u), (2, .int v)] := hl
  refine lv_aload_n hx hb dX7_setPiece_0 rfl (lv_at hl 0 rfl) ?_
  refine lv_iconst (v := 0) hx hb dX7_setPiece_1 (by decide) ?_
  refine bd_p_X7_thrown C hR hS  qf_X7_37 dX7_setPiece_2 (fun H locs hR hS => ?_)
  refine lv_iload_n hx hb dX7_setPiece_5 rfl (lv_at hl 1 rfl) ?_
  refine lv_iconst (v := 0) hx hb dX7_setPiece_6 (by decide) ?_
  refine lv_iconst (v := 3) hx hb dX7_setPiece_7 (by decide) ?_
  refine bd_cS1 [.int u, .int 0, .int 3] [] C (k_X7_isIn l E xm (bd_up ym 0 0 0 0) om u 0 3 ) hR hS qm_X7_44 qt_X7_isIn qz_X7 qc_X7_isIn qp_X7_isIn.2 ⟨Nat.le_of_ble_eq_true rfl, Nat.le_of_ble_eq_true rfl⟩ hl.1 (Nat.le_of_ble_eq_true rfl) dX7_setPiece_8 ⟨Nat.le_of_ble_eq_true rfl, Nat.le_of_ble_eq_true rfl⟩ (fun H locs hR hS hz8 => ?_)
  refine bd_ifne (P := ¬ u < 0 ∧ ¬ 3 < u) (tgt := 20) C dX7_setPiece_11 (by decide) (fun q9 => absurd q9 h1) (fun q9 => ?_)
  refine lv_aload_n hx hb dX7_setPiece_14 rfl (lv_at hl 0 rfl) ?_
  refine lv_iconst (v := 1) hx hb dX7_setPiece_15 (by decide) ?_
  refine bd_cV1 [.int 1] [] C (k_X7_no l E xm (bd_up ym 0 0 0 0) om 1 ) hR hS (bd_recv C.2 hR ⟨by decide, (by decide), (by decide)⟩ rfl rfl) qm_X7_55 qi_X7_no qs_X7_no qz_X7 qc_X7_no qp_X7_no ⟨Nat.le_of_ble_eq_true rfl, Nat.le_of_ble_eq_true rfl⟩ hl.1 (Nat.le_of_ble_eq_true rfl) dX7_setPiece_16 ⟨Nat.le_of_ble_eq_true rfl, Nat.le_of_ble_eq_true rfl⟩ (fun H locs hR hS hz16 => ?_)
  exact bd_ri C hr hlk (hR.eq rfl (by first | (simp (config := { decide := true }) only [↓reduceIte, not_true_eq_false, not_false_eq_true, and_self, and_true, true_and, and_false, false_and]; done) | rfl)) hS (Nat.zero_le _) (Nat.zero_le _) dX7_setPiece_19 rfl
set_option maxHeartbeats 4000000 in
set_option maxRecDepth 100000 in
theorem k_X7_setPiece_2 (l : Launch) (E : bd_E) (xm ym : bd_M) (om : Nat → Int64) (n : Nat) (nb : Nat) (z : (Nat→Nat)) (u : Int32) (v : Int32) (hy : ry_Sh ym n nb z) (h1 : ¬ u < 0 ∧ ¬ 3 < u) (h2 : ¬ (¬ v < 0 ∧ ¬ 9 < v)) : bd_Ct l yX7_setPiece cX7_setPiece 4 (some .int) 1 22 0 0 E [.ref (bd_ea E 12 0 0), .int u, .int v] xm ym om xm (bd_up (ry_t0 ym) 0 0 0 2) om (some (.int 0)) := by
  refine bd_open RX7 rfl (by decide) (Nat.le_of_ble_eq_true rfl) ?_
  intro p e s m args below meth c ls C hr hlk hS hR hl
  have hx := C.1.1
  have hb := C.1.2.1
  have hy24 := hy.2.1
  have hy6 := hy.2.2.2.1
  have hl : lv_has ls 4 [(0, .ref (bd_ea E 12 0 0)), (1, .int u), (2, .int v)] := hl
  refine lv_aload_n hx hb dX7_setPiece_0 rfl (lv_at hl 0 rfl) ?_
  refine lv_iconst (v := 0) hx hb dX7_setPiece_1 (by decide) ?_
  refine bd_p_X7_thrown C hR hS  qf_X7_37 dX7_setPiece_2 (fun H locs hR hS => ?_)
  refine lv_iload_n hx hb dX7_setPiece_5 rfl (lv_at hl 1 rfl) ?_
  refine lv_iconst (v := 0) hx hb dX7_setPiece_6 (by decide) ?_
  refine lv_iconst (v := 3) hx hb dX7_setPiece_7 (by decide) ?_
  refine bd_cS1 [.int u, .int 0, .int 3] [] C (k_X7_isIn l E xm (bd_up ym 0 0 0 0) om u 0 3 ) hR hS qm_X7_44 qt_X7_isIn qz_X7 qc_X7_isIn qp_X7_isIn.2 ⟨Nat.le_of_ble_eq_true rfl, Nat.le_of_ble_eq_true rfl⟩ hl.1 (Nat.le_of_ble_eq_true rfl) dX7_setPiece_8 ⟨Nat.le_of_ble_eq_true rfl, Nat.le_of_ble_eq_true rfl⟩ (fun H locs hR hS hz8 => ?_)
  refine bd_ifne (P := ¬ u < 0 ∧ ¬ 3 < u) (tgt := 20) C dX7_setPiece_11 (by decide) (fun q9 => ?_) (fun q9 => absurd h1 q9)
  refine lv_iload_n hx hb dX7_setPiece_20 rfl (lv_at hl 2 rfl) ?_
  refine lv_iconst (v := 0) hx hb dX7_setPiece_21 (by decide) ?_
  refine lv_bipush (v := 9) hx hb dX7_setPiece_22 (by decide) ?_
  refine bd_cS1 [.int v, .int 0, .int 9] [] C (k_X7_isIn l E xm (bd_up ym 0 0 0 0) om v 0 9 ) hR hS qm_X7_44 qt_X7_isIn qz_X7 qc_X7_isIn qp_X7_isIn.2 ⟨Nat.le_of_ble_eq_true rfl, Nat.le_of_ble_eq_true rfl⟩ hl.1 (Nat.le_of_ble_eq_true rfl) dX7_setPiece_24 ⟨Nat.le_of_ble_eq_true rfl, Nat.le_of_ble_eq_true rfl⟩ (fun H locs hR hS hz24 => ?_)
  refine bd_ifne (P := ¬ v < 0 ∧ ¬ 9 < v) (tgt := 36) C dX7_setPiece_27 (by decide) (fun q9 => absurd q9 h2) (fun q9 => ?_)
  refine lv_aload_n hx hb dX7_setPiece_30 rfl (lv_at hl 0 rfl) ?_
  refine lv_iconst (v := 2) hx hb dX7_setPiece_31 (by decide) ?_
  refine bd_cV1 [.int 2] [] C (k_X7_no l E xm (bd_up ym 0 0 0 0) om 2 ) hR hS (bd_recv C.2 hR ⟨by decide, (by decide), (by decide)⟩ rfl rfl) qm_X7_55 qi_X7_no qs_X7_no qz_X7 qc_X7_no qp_X7_no ⟨Nat.le_of_ble_eq_true rfl, Nat.le_of_ble_eq_true rfl⟩ hl.1 (Nat.le_of_ble_eq_true rfl) dX7_setPiece_32 ⟨Nat.le_of_ble_eq_true rfl, Nat.le_of_ble_eq_true rfl⟩ (fun H locs hR hS hz32 => ?_)
  exact bd_ri C hr hlk (hR.eq rfl (by first | (simp (config := { decide := true }) only [↓reduceIte, not_true_eq_false, not_false_eq_true, and_self, and_true, true_and, and_false, false_and]; done) | rfl)) hS (Nat.zero_le _) (Nat.zero_le _) dX7_setPiece_35 rfl
set_option maxHeartbeats 4000000 in
set_option maxRecDepth 100000 in
theorem k_X7_setTaste_ok (l : Launch) (E : bd_E) (xm ym : bd_M) (om : Nat → Int64) (n : Nat) (nb : Nat) (z : (Nat→Nat)) (k : Nat) (v : Int32) (hy : ry_Sh ym n nb z) (hp : k < 4) (h2 : ¬ v < 1 ∧ ¬ 5 < v) : bd_Ct l yX7_setTaste cX7_setTaste 4 (some .int) 1 22 0 0 E [.ref (bd_ea E 12 0 0), .int (nI k), .int v] xm ym om xm (bd_up (ry_t0 ym) 17 0 k v) om (some (.int (ym 17 0 k))) := by
  refine bd_open RX7 rfl (by decide) (Nat.le_of_ble_eq_true rfl) ?_
  intro p e s m args below meth c ls C hr hlk hS hR hl
  have hx := C.1.1
  have hb := C.1.2.1
  have hy24 := hy.2.1
  have hy6 := hy.2.2.2.1
  have kp : ¬ (nI k : Int32) < 0 ∧ ¬ 3 < nI k := ⟨nI_pos (by omega), fun q9 => absurd ((nI_ltI (a := 3) (b := k) (by decide) (by omega)).mp q9) (by omega)⟩
  have hl : lv_has ls 4 [(0, .ref (bd_ea E 12 0 0)), (1, .int (nI k)), (2, .int v)] := hl
  refine lv_aload_n hx hb dX7_setTaste_0 rfl (lv_at hl 0 rfl) ?_
  refine lv_iconst (v := 0) hx hb dX7_setTaste_1 (by decide) ?_
  refine bd_p_X7_thrown C hR hS  qf_X7_37 dX7_setTaste_2 (fun H locs hR hS => ?_)
  refine lv_iload_n hx hb dX7_setTaste_5 rfl (lv_at hl 1 rfl) ?_
  refine lv_iconst (v := 0) hx hb dX7_setTaste_6 (by decide) ?_
  refine lv_iconst (v := 3) hx hb dX7_setTaste_7 (by decide) ?_
  refine bd_cS1 [.int (nI k), .int 0, .int 3] [] C (k_X7_isIn l E xm (bd_up ym 0 0 0 0) om (nI k) 0 3 ) hR hS qm_X7_44 qt_X7_isIn qz_X7 qc_X7_isIn qp_X7_isIn.2 ⟨Nat.le_of_ble_eq_true rfl, Nat.le_of_ble_eq_true rfl⟩ hl.1 (Nat.le_of_ble_eq_true rfl) dX7_setTaste_8 ⟨Nat.le_of_ble_eq_true rfl, Nat.le_of_ble_eq_true rfl⟩ (fun H locs hR hS hz8 => ?_)
  refine bd_ifne (P := ¬ (nI k) < 0 ∧ ¬ 3 < (nI k)) (tgt := 20) C dX7_setTaste_11 (by decide) (fun q9 => ?_) (fun q9 => absurd kp q9)
  refine lv_iload_n hx hb dX7_setTaste_20 rfl (lv_at hl 2 rfl) ?_
  refine lv_iconst (v := 1) hx hb dX7_setTaste_21 (by decide) ?_
  refine lv_iconst (v := 5) hx hb dX7_setTaste_22 (by decide) ?_
  refine bd_cS1 [.int v, .int 1, .int 5] [] C (k_X7_isIn l E xm (bd_up ym 0 0 0 0) om v 1 5 ) hR hS qm_X7_44 qt_X7_isIn qz_X7 qc_X7_isIn qp_X7_isIn.2 ⟨Nat.le_of_ble_eq_true rfl, Nat.le_of_ble_eq_true rfl⟩ hl.1 (Nat.le_of_ble_eq_true rfl) dX7_setTaste_23 ⟨Nat.le_of_ble_eq_true rfl, Nat.le_of_ble_eq_true rfl⟩ (fun H locs hR hS hz23 => ?_)
  refine bd_ifne (P := ¬ v < 1 ∧ ¬ 5 < v) (tgt := 35) C dX7_setTaste_26 (by decide) (fun q9 => ?_) (fun q9 => absurd h2 q9)
  refine lv_aload_n hx hb dX7_setTaste_35 rfl (lv_at hl 0 rfl) ?_
  refine bd_g_X7_weight C hR  qf_X7_22 dX7_setTaste_36 ?_
  refine lv_iload_n hx hb dX7_setTaste_39 rfl (lv_at hl 1 rfl) ?_
  refine bd_ld_17 C hR  (j := k) (by omega) dX7_setTaste_40 ?_
  refine lv_istore_n (lv' := [(3, .int ((bd_up ym 0 0 0 0) 17 0 k)), (0, .ref (bd_ea E 12 0 0)), (1, .int (nI k)), (2, .int v)]) hx hb dX7_setTaste_41 rfl hl (by decide) rfl (fun ls hl => ?_)
  refine lv_aload_n hx hb dX7_setTaste_42 rfl (lv_at hl 1 rfl) ?_
  refine bd_g_X7_weight C hR  qf_X7_22 dX7_setTaste_43 ?_
  refine lv_iload_n hx hb dX7_setTaste_46 rfl (lv_at hl 2 rfl) ?_
  refine lv_iload_n hx hb dX7_setTaste_47 rfl (lv_at hl 3 rfl) ?_
  refine bd_st_17 C hR hS  (j := k) (by omega) dX7_setTaste_48 (fun H locs hR hS => ?_)
  refine lv_iload_n hx hb dX7_setTaste_49 rfl (lv_at hl 0 rfl) ?_
  exact bd_ri C hr hlk (hR.eq rfl (by first | (simp (config := { decide := true }) only [↓reduceIte, not_true_eq_false, not_false_eq_true, and_self, and_true, true_and, and_false, false_and]; done) | rfl)) hS (Nat.zero_le _) (Nat.zero_le _) dX7_setTaste_50 (by first | (simp (config := { decide := true }) only [↓reduceIte, not_true_eq_false, not_false_eq_true, and_self, and_true, true_and, and_false, false_and]; done) | rfl)
set_option maxHeartbeats 4000000 in
set_option maxRecDepth 100000 in
theorem k_X7_setTaste_1 (l : Launch) (E : bd_E) (xm ym : bd_M) (om : Nat → Int64) (n : Nat) (nb : Nat) (z : (Nat→Nat)) (u : Int32) (v : Int32) (hy : ry_Sh ym n nb z) (h1 : ¬ (¬ u < 0 ∧ ¬ 3 < u)) : bd_Ct l yX7_setTaste cX7_setTaste 4 (some .int) 1 22 0 0 E [.ref (bd_ea E 12 0 0), .int u, .int v] xm ym om xm (bd_up (ry_t0 ym) 0 0 0 1) om (some (.int 0)) := by
  refine bd_open RX7 rfl (by decide) (Nat.le_of_ble_eq_true rfl) ?_
  intro p e s m args below meth c ls C hr hlk hS hR hl
  have hx := C.1.1
  have hb := C.1.2.1
  have hy24 := hy.2.1
  have hy6 := hy.2.2.2.1
  have hl : lv_has ls 4 [(0, .ref (bd_ea E 12 0 0)), (1, .int u), (2, .int v)] := hl
  refine lv_aload_n hx hb dX7_setTaste_0 rfl (lv_at hl 0 rfl) ?_
  refine lv_iconst (v := 0) hx hb dX7_setTaste_1 (by decide) ?_
  refine bd_p_X7_thrown C hR hS  qf_X7_37 dX7_setTaste_2 (fun H locs hR hS => ?_)
  refine lv_iload_n hx hb dX7_setTaste_5 rfl (lv_at hl 1 rfl) ?_
  refine lv_iconst (v := 0) hx hb dX7_setTaste_6 (by decide) ?_
  refine lv_iconst (v := 3) hx hb dX7_setTaste_7 (by decide) ?_
  refine bd_cS1 [.int u, .int 0, .int 3] [] C (k_X7_isIn l E xm (bd_up ym 0 0 0 0) om u 0 3 ) hR hS qm_X7_44 qt_X7_isIn qz_X7 qc_X7_isIn qp_X7_isIn.2 ⟨Nat.le_of_ble_eq_true rfl, Nat.le_of_ble_eq_true rfl⟩ hl.1 (Nat.le_of_ble_eq_true rfl) dX7_setTaste_8 ⟨Nat.le_of_ble_eq_true rfl, Nat.le_of_ble_eq_true rfl⟩ (fun H locs hR hS hz8 => ?_)
  refine bd_ifne (P := ¬ u < 0 ∧ ¬ 3 < u) (tgt := 20) C dX7_setTaste_11 (by decide) (fun q9 => absurd q9 h1) (fun q9 => ?_)
  refine lv_aload_n hx hb dX7_setTaste_14 rfl (lv_at hl 0 rfl) ?_
  refine lv_iconst (v := 1) hx hb dX7_setTaste_15 (by decide) ?_
  refine bd_cV1 [.int 1] [] C (k_X7_no l E xm (bd_up ym 0 0 0 0) om 1 ) hR hS (bd_recv C.2 hR ⟨by decide, (by decide), (by decide)⟩ rfl rfl) qm_X7_55 qi_X7_no qs_X7_no qz_X7 qc_X7_no qp_X7_no ⟨Nat.le_of_ble_eq_true rfl, Nat.le_of_ble_eq_true rfl⟩ hl.1 (Nat.le_of_ble_eq_true rfl) dX7_setTaste_16 ⟨Nat.le_of_ble_eq_true rfl, Nat.le_of_ble_eq_true rfl⟩ (fun H locs hR hS hz16 => ?_)
  exact bd_ri C hr hlk (hR.eq rfl (by first | (simp (config := { decide := true }) only [↓reduceIte, not_true_eq_false, not_false_eq_true, and_self, and_true, true_and, and_false, false_and]; done) | rfl)) hS (Nat.zero_le _) (Nat.zero_le _) dX7_setTaste_19 rfl
set_option maxHeartbeats 4000000 in
set_option maxRecDepth 100000 in
theorem k_X7_setTaste_2 (l : Launch) (E : bd_E) (xm ym : bd_M) (om : Nat → Int64) (n : Nat) (nb : Nat) (z : (Nat→Nat)) (u : Int32) (v : Int32) (hy : ry_Sh ym n nb z) (h1 : ¬ u < 0 ∧ ¬ 3 < u) (h2 : ¬ (¬ v < 1 ∧ ¬ 5 < v)) : bd_Ct l yX7_setTaste cX7_setTaste 4 (some .int) 1 22 0 0 E [.ref (bd_ea E 12 0 0), .int u, .int v] xm ym om xm (bd_up (ry_t0 ym) 0 0 0 2) om (some (.int 0)) := by
  refine bd_open RX7 rfl (by decide) (Nat.le_of_ble_eq_true rfl) ?_
  intro p e s m args below meth c ls C hr hlk hS hR hl
  have hx := C.1.1
  have hb := C.1.2.1
  have hy24 := hy.2.1
  have hy6 := hy.2.2.2.1
  have hl : lv_has ls 4 [(0, .ref (bd_ea E 12 0 0)), (1, .int u), (2, .int v)] := hl
  refine lv_aload_n hx hb dX7_setTaste_0 rfl (lv_at hl 0 rfl) ?_
  refine lv_iconst (v := 0) hx hb dX7_setTaste_1 (by decide) ?_
  refine bd_p_X7_thrown C hR hS  qf_X7_37 dX7_setTaste_2 (fun H locs hR hS => ?_)
  refine lv_iload_n hx hb dX7_setTaste_5 rfl (lv_at hl 1 rfl) ?_
  refine lv_iconst (v := 0) hx hb dX7_setTaste_6 (by decide) ?_
  refine lv_iconst (v := 3) hx hb dX7_setTaste_7 (by decide) ?_
  refine bd_cS1 [.int u, .int 0, .int 3] [] C (k_X7_isIn l E xm (bd_up ym 0 0 0 0) om u 0 3 ) hR hS qm_X7_44 qt_X7_isIn qz_X7 qc_X7_isIn qp_X7_isIn.2 ⟨Nat.le_of_ble_eq_true rfl, Nat.le_of_ble_eq_true rfl⟩ hl.1 (Nat.le_of_ble_eq_true rfl) dX7_setTaste_8 ⟨Nat.le_of_ble_eq_true rfl, Nat.le_of_ble_eq_true rfl⟩ (fun H locs hR hS hz8 => ?_)
  refine bd_ifne (P := ¬ u < 0 ∧ ¬ 3 < u) (tgt := 20) C dX7_setTaste_11 (by decide) (fun q9 => ?_) (fun q9 => absurd h1 q9)
  refine lv_iload_n hx hb dX7_setTaste_20 rfl (lv_at hl 2 rfl) ?_
  refine lv_iconst (v := 1) hx hb dX7_setTaste_21 (by decide) ?_
  refine lv_iconst (v := 5) hx hb dX7_setTaste_22 (by decide) ?_
  refine bd_cS1 [.int v, .int 1, .int 5] [] C (k_X7_isIn l E xm (bd_up ym 0 0 0 0) om v 1 5 ) hR hS qm_X7_44 qt_X7_isIn qz_X7 qc_X7_isIn qp_X7_isIn.2 ⟨Nat.le_of_ble_eq_true rfl, Nat.le_of_ble_eq_true rfl⟩ hl.1 (Nat.le_of_ble_eq_true rfl) dX7_setTaste_23 ⟨Nat.le_of_ble_eq_true rfl, Nat.le_of_ble_eq_true rfl⟩ (fun H locs hR hS hz23 => ?_)
  refine bd_ifne (P := ¬ v < 1 ∧ ¬ 5 < v) (tgt := 35) C dX7_setTaste_26 (by decide) (fun q9 => absurd q9 h2) (fun q9 => ?_)
  refine lv_aload_n hx hb dX7_setTaste_29 rfl (lv_at hl 0 rfl) ?_
  refine lv_iconst (v := 2) hx hb dX7_setTaste_30 (by decide) ?_
  refine bd_cV1 [.int 2] [] C (k_X7_no l E xm (bd_up ym 0 0 0 0) om 2 ) hR hS (bd_recv C.2 hR ⟨by decide, (by decide), (by decide)⟩ rfl rfl) qm_X7_55 qi_X7_no qs_X7_no qz_X7 qc_X7_no qp_X7_no ⟨Nat.le_of_ble_eq_true rfl, Nat.le_of_ble_eq_true rfl⟩ hl.1 (Nat.le_of_ble_eq_true rfl) dX7_setTaste_31 ⟨Nat.le_of_ble_eq_true rfl, Nat.le_of_ble_eq_true rfl⟩ (fun H locs hR hS hz31 => ?_)
  exact bd_ri C hr hlk (hR.eq rfl (by first | (simp (config := { decide := true }) only [↓reduceIte, not_true_eq_false, not_false_eq_true, and_self, and_true, true_and, and_false, false_and]; done) | rfl)) hS (Nat.zero_le _) (Nat.zero_le _) dX7_setTaste_34 rfl
