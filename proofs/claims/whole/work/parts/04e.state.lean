/-! THE REFERENCE'S STATE -/
set_option maxHeartbeats 4000000 in
set_option maxRecDepth 100000 in
theorem k_X6_copy_19 (l : Launch) (E : bd_E) (xm ym : bd_M) (om : Nat → Int64) (w0 : Nat) (w : Nat) (w2 : Nat) (hw0 : w0 < 2) (hw : w < 2) (hw2 : w2 < 2) : bd_Ct l yX6_copy cX6_copy 3 none 1 40 0 0 E [.ref (bd_ea E 18 w0 0), .ref (bd_ea E 19 w2 0), .ref (bd_ea E 19 w 0)] xm ym om xm (ry_rc ym 19 w w2 24) om (none) := by
  refine bd_open RX6 rfl (by decide) (Nat.le_of_ble_eq_true rfl) ?_
  intro p e s m args below meth c ls C hr hlk hS hR hl
  have hx := C.1.1
  have hb := C.1.2.1
  have hl : lv_has ls 3 [(0, .ref (bd_ea E 18 w0 0)), (1, .ref (bd_ea E 19 w2 0)), (2, .ref (bd_ea E 19 w 0))] := hl
  refine lv_aload_n hx hb dX6_copy_0 rfl (lv_at hl 1 rfl) ?_
  refine lv_iconst (v := 0) hx hb dX6_copy_1 (by decide) ?_
  refine lv_aload_n hx hb dX6_copy_2 rfl (lv_at hl 2 rfl) ?_
  refine lv_iconst (v := 0) hx hb dX6_copy_3 (by decide) ?_
  refine lv_aload_n hx hb dX6_copy_4 rfl (lv_at hl 1 rfl) ?_
  refine bd_al_19 C hR (by omega) dX6_copy_5 ?_
  refine bd_cpG (n := 24) (dp := 0) (sp := 0) C hR hS hl.1 qm_X6_49 (f1 := 19) (f2 := 19) ⟨by decide, show w2 < 2 by omega, (by decide)⟩ ⟨by decide, show w < 2 by omega, (by decide)⟩ rfl rfl (by omega) (by omega) (by omega) (by omega) (by omega) bd_ro19 ⟨Nat.le_of_ble_eq_true rfl, Nat.le_of_ble_eq_true rfl⟩ dX6_copy_6 (fun H locs hR hS => ?_)
  exact bd_rv C hr hlk (hR.eq rfl (by first | rfl | (rfl))) hS (Nat.zero_le _) (Nat.zero_le _) dX6_copy_9
set_option maxHeartbeats 4000000 in
set_option maxRecDepth 100000 in
theorem k_X6_copy_20 (l : Launch) (E : bd_E) (xm ym : bd_M) (om : Nat → Int64) (w0 : Nat) (w : Nat) (w2 : Nat) (hw0 : w0 < 2) (hw : w < 2) (hw2 : w2 < 2) : bd_Ct l yX6_copy cX6_copy 3 none 1 40 0 0 E [.ref (bd_ea E 18 w0 0), .ref (bd_ea E 20 w2 0), .ref (bd_ea E 20 w 0)] xm ym om xm (ry_rc ym 20 w w2 24) om (none) := by
  refine bd_open RX6 rfl (by decide) (Nat.le_of_ble_eq_true rfl) ?_
  intro p e s m args below meth c ls C hr hlk hS hR hl
  have hx := C.1.1
  have hb := C.1.2.1
  have hl : lv_has ls 3 [(0, .ref (bd_ea E 18 w0 0)), (1, .ref (bd_ea E 20 w2 0)), (2, .ref (bd_ea E 20 w 0))] := hl
  refine lv_aload_n hx hb dX6_copy_0 rfl (lv_at hl 1 rfl) ?_
  refine lv_iconst (v := 0) hx hb dX6_copy_1 (by decide) ?_
  refine lv_aload_n hx hb dX6_copy_2 rfl (lv_at hl 2 rfl) ?_
  refine lv_iconst (v := 0) hx hb dX6_copy_3 (by decide) ?_
  refine lv_aload_n hx hb dX6_copy_4 rfl (lv_at hl 1 rfl) ?_
  refine bd_al_20 C hR (by omega) dX6_copy_5 ?_
  refine bd_cpG (n := 24) (dp := 0) (sp := 0) C hR hS hl.1 qm_X6_49 (f1 := 20) (f2 := 20) ⟨by decide, show w2 < 2 by omega, (by decide)⟩ ⟨by decide, show w < 2 by omega, (by decide)⟩ rfl rfl (by omega) (by omega) (by omega) (by omega) (by omega) bd_ro20 ⟨Nat.le_of_ble_eq_true rfl, Nat.le_of_ble_eq_true rfl⟩ dX6_copy_6 (fun H locs hR hS => ?_)
  exact bd_rv C hr hlk (hR.eq rfl (by first | rfl | (rfl))) hS (Nat.zero_le _) (Nat.zero_le _) dX6_copy_9
set_option maxHeartbeats 4000000 in
set_option maxRecDepth 100000 in
theorem k_X6_copy_21 (l : Launch) (E : bd_E) (xm ym : bd_M) (om : Nat → Int64) (w0 : Nat) (w : Nat) (w2 : Nat) (hw0 : w0 < 2) (hw : w < 2) (hw2 : w2 < 2) : bd_Ct l yX6_copy cX6_copy 3 none 1 40 0 0 E [.ref (bd_ea E 18 w0 0), .ref (bd_ea E 21 w2 0), .ref (bd_ea E 21 w 0)] xm ym om xm (ry_rc ym 21 w w2 24) om (none) := by
  refine bd_open RX6 rfl (by decide) (Nat.le_of_ble_eq_true rfl) ?_
  intro p e s m args below meth c ls C hr hlk hS hR hl
  have hx := C.1.1
  have hb := C.1.2.1
  have hl : lv_has ls 3 [(0, .ref (bd_ea E 18 w0 0)), (1, .ref (bd_ea E 21 w2 0)), (2, .ref (bd_ea E 21 w 0))] := hl
  refine lv_aload_n hx hb dX6_copy_0 rfl (lv_at hl 1 rfl) ?_
  refine lv_iconst (v := 0) hx hb dX6_copy_1 (by decide) ?_
  refine lv_aload_n hx hb dX6_copy_2 rfl (lv_at hl 2 rfl) ?_
  refine lv_iconst (v := 0) hx hb dX6_copy_3 (by decide) ?_
  refine lv_aload_n hx hb dX6_copy_4 rfl (lv_at hl 1 rfl) ?_
  refine bd_al_21 C hR (by omega) dX6_copy_5 ?_
  refine bd_cpG (n := 24) (dp := 0) (sp := 0) C hR hS hl.1 qm_X6_49 (f1 := 21) (f2 := 21) ⟨by decide, show w2 < 2 by omega, (by decide)⟩ ⟨by decide, show w < 2 by omega, (by decide)⟩ rfl rfl (by omega) (by omega) (by omega) (by omega) (by omega) bd_ro21 ⟨Nat.le_of_ble_eq_true rfl, Nat.le_of_ble_eq_true rfl⟩ dX6_copy_6 (fun H locs hR hS => ?_)
  exact bd_rv C hr hlk (hR.eq rfl (by first | rfl | (rfl))) hS (Nat.zero_le _) (Nat.zero_le _) dX6_copy_9
set_option maxHeartbeats 4000000 in
set_option maxRecDepth 100000 in
theorem k_X6_copy_22 (l : Launch) (E : bd_E) (xm ym : bd_M) (om : Nat → Int64) (w0 : Nat) (w : Nat) (w2 : Nat) (hw0 : w0 < 2) (hw : w < 2) (hw2 : w2 < 2) : bd_Ct l yX6_copy cX6_copy 3 none 1 40 0 0 E [.ref (bd_ea E 18 w0 0), .ref (bd_ea E 22 w2 0), .ref (bd_ea E 22 w 0)] xm ym om xm (ry_rc ym 22 w w2 24) om (none) := by
  refine bd_open RX6 rfl (by decide) (Nat.le_of_ble_eq_true rfl) ?_
  intro p e s m args below meth c ls C hr hlk hS hR hl
  have hx := C.1.1
  have hb := C.1.2.1
  have hl : lv_has ls 3 [(0, .ref (bd_ea E 18 w0 0)), (1, .ref (bd_ea E 22 w2 0)), (2, .ref (bd_ea E 22 w 0))] := hl
  refine lv_aload_n hx hb dX6_copy_0 rfl (lv_at hl 1 rfl) ?_
  refine lv_iconst (v := 0) hx hb dX6_copy_1 (by decide) ?_
  refine lv_aload_n hx hb dX6_copy_2 rfl (lv_at hl 2 rfl) ?_
  refine lv_iconst (v := 0) hx hb dX6_copy_3 (by decide) ?_
  refine lv_aload_n hx hb dX6_copy_4 rfl (lv_at hl 1 rfl) ?_
  refine bd_al_22 C hR (by omega) dX6_copy_5 ?_
  refine bd_cpG (n := 24) (dp := 0) (sp := 0) C hR hS hl.1 qm_X6_49 (f1 := 22) (f2 := 22) ⟨by decide, show w2 < 2 by omega, (by decide)⟩ ⟨by decide, show w < 2 by omega, (by decide)⟩ rfl rfl (by omega) (by omega) (by omega) (by omega) (by omega) bd_ro22 ⟨Nat.le_of_ble_eq_true rfl, Nat.le_of_ble_eq_true rfl⟩ dX6_copy_6 (fun H locs hR hS => ?_)
  exact bd_rv C hr hlk (hR.eq rfl (by first | rfl | (rfl))) hS (Nat.zero_le _) (Nat.zero_le _) dX6_copy_9
set_option maxHeartbeats 4000000 in
set_option maxRecDepth 100000 in
theorem k_X6_copy_23 (l : Launch) (E : bd_E) (xm ym : bd_M) (om : Nat → Int64) (w0 : Nat) (w : Nat) (w2 : Nat) (hw0 : w0 < 2) (hw : w < 2) (hw2 : w2 < 2) : bd_Ct l yX6_copy cX6_copy 3 none 1 40 0 0 E [.ref (bd_ea E 18 w0 0), .ref (bd_ea E 23 w2 0), .ref (bd_ea E 23 w 0)] xm ym om xm (ry_rc ym 23 w w2 48) om (none) := by
  refine bd_open RX6 rfl (by decide) (Nat.le_of_ble_eq_true rfl) ?_
  intro p e s m args below meth c ls C hr hlk hS hR hl
  have hx := C.1.1
  have hb := C.1.2.1
  have hl : lv_has ls 3 [(0, .ref (bd_ea E 18 w0 0)), (1, .ref (bd_ea E 23 w2 0)), (2, .ref (bd_ea E 23 w 0))] := hl
  refine lv_aload_n hx hb dX6_copy_0 rfl (lv_at hl 1 rfl) ?_
  refine lv_iconst (v := 0) hx hb dX6_copy_1 (by decide) ?_
  refine lv_aload_n hx hb dX6_copy_2 rfl (lv_at hl 2 rfl) ?_
  refine lv_iconst (v := 0) hx hb dX6_copy_3 (by decide) ?_
  refine lv_aload_n hx hb dX6_copy_4 rfl (lv_at hl 1 rfl) ?_
  refine bd_al_23 C hR (by omega) dX6_copy_5 ?_
  refine bd_cpG (n := 48) (dp := 0) (sp := 0) C hR hS hl.1 qm_X6_49 (f1 := 23) (f2 := 23) ⟨by decide, show w2 < 2 by omega, (by decide)⟩ ⟨by decide, show w < 2 by omega, (by decide)⟩ rfl rfl (by omega) (by omega) (by omega) (by omega) (by omega) bd_ro23 ⟨Nat.le_of_ble_eq_true rfl, Nat.le_of_ble_eq_true rfl⟩ dX6_copy_6 (fun H locs hR hS => ?_)
  exact bd_rv C hr hlk (hR.eq rfl (by first | rfl | (rfl))) hS (Nat.zero_le _) (Nat.zero_le _) dX6_copy_9
set_option maxHeartbeats 4000000 in
set_option maxRecDepth 100000 in
theorem k_X6_copy_24 (l : Launch) (E : bd_E) (xm ym : bd_M) (om : Nat → Int64) (w0 : Nat) (w : Nat) (w2 : Nat) (hw0 : w0 < 2) (hw : w < 2) (hw2 : w2 < 2) : bd_Ct l yX6_copy cX6_copy 3 none 1 40 0 0 E [.ref (bd_ea E 18 w0 0), .ref (bd_ea E 24 w2 0), .ref (bd_ea E 24 w 0)] xm ym om xm (ry_rc ym 24 w w2 48) om (none) := by
  refine bd_open RX6 rfl (by decide) (Nat.le_of_ble_eq_true rfl) ?_
  intro p e s m args below meth c ls C hr hlk hS hR hl
  have hx := C.1.1
  have hb := C.1.2.1
  have hl : lv_has ls 3 [(0, .ref (bd_ea E 18 w0 0)), (1, .ref (bd_ea E 24 w2 0)), (2, .ref (bd_ea E 24 w 0))] := hl
  refine lv_aload_n hx hb dX6_copy_0 rfl (lv_at hl 1 rfl) ?_
  refine lv_iconst (v := 0) hx hb dX6_copy_1 (by decide) ?_
  refine lv_aload_n hx hb dX6_copy_2 rfl (lv_at hl 2 rfl) ?_
  refine lv_iconst (v := 0) hx hb dX6_copy_3 (by decide) ?_
  refine lv_aload_n hx hb dX6_copy_4 rfl (lv_at hl 1 rfl) ?_
  refine bd_al_24 C hR (by omega) dX6_copy_5 ?_
  refine bd_cpG (n := 48) (dp := 0) (sp := 0) C hR hS hl.1 qm_X6_49 (f1 := 24) (f2 := 24) ⟨by decide, show w2 < 2 by omega, (by decide)⟩ ⟨by decide, show w < 2 by omega, (by decide)⟩ rfl rfl (by omega) (by omega) (by omega) (by omega) (by omega) bd_ro24 ⟨Nat.le_of_ble_eq_true rfl, Nat.le_of_ble_eq_true rfl⟩ dX6_copy_6 (fun H locs hR hS => ?_)
  exact bd_rv C hr hlk (hR.eq rfl (by first | rfl | (rfl))) hS (Nat.zero_le _) (Nat.zero_le _) dX6_copy_9
set_option maxHeartbeats 4000000 in
set_option maxRecDepth 100000 in
theorem k_X6_copy_25 (l : Launch) (E : bd_E) (xm ym : bd_M) (om : Nat → Int64) (w0 : Nat) (w : Nat) (w2 : Nat) (hw0 : w0 < 2) (hw : w < 2) (hw2 : w2 < 2) : bd_Ct l yX6_copy cX6_copy 3 none 1 40 0 0 E [.ref (bd_ea E 18 w0 0), .ref (bd_ea E 25 w2 0), .ref (bd_ea E 25 w 0)] xm ym om xm (ry_rc ym 25 w w2 6) om (none) := by
  refine bd_open RX6 rfl (by decide) (Nat.le_of_ble_eq_true rfl) ?_
  intro p e s m args below meth c ls C hr hlk hS hR hl
  have hx := C.1.1
  have hb := C.1.2.1
  have hl : lv_has ls 3 [(0, .ref (bd_ea E 18 w0 0)), (1, .ref (bd_ea E 25 w2 0)), (2, .ref (bd_ea E 25 w 0))] := hl
  refine lv_aload_n hx hb dX6_copy_0 rfl (lv_at hl 1 rfl) ?_
  refine lv_iconst (v := 0) hx hb dX6_copy_1 (by decide) ?_
  refine lv_aload_n hx hb dX6_copy_2 rfl (lv_at hl 2 rfl) ?_
  refine lv_iconst (v := 0) hx hb dX6_copy_3 (by decide) ?_
  refine lv_aload_n hx hb dX6_copy_4 rfl (lv_at hl 1 rfl) ?_
  refine bd_al_25 C hR (by omega) dX6_copy_5 ?_
  refine bd_cpG (n := 6) (dp := 0) (sp := 0) C hR hS hl.1 qm_X6_49 (f1 := 25) (f2 := 25) ⟨by decide, show w2 < 2 by omega, (by decide)⟩ ⟨by decide, show w < 2 by omega, (by decide)⟩ rfl rfl (by omega) (by omega) (by omega) (by omega) (by omega) bd_ro25 ⟨Nat.le_of_ble_eq_true rfl, Nat.le_of_ble_eq_true rfl⟩ dX6_copy_6 (fun H locs hR hS => ?_)
  exact bd_rv C hr hlk (hR.eq rfl (by first | rfl | (rfl))) hS (Nat.zero_le _) (Nat.zero_le _) dX6_copy_9
set_option maxHeartbeats 4000000 in
set_option maxRecDepth 100000 in
theorem k_X6_copy_26 (l : Launch) (E : bd_E) (xm ym : bd_M) (om : Nat → Int64) (w0 : Nat) (w : Nat) (w2 : Nat) (hw0 : w0 < 2) (hw : w < 2) (hw2 : w2 < 2) : bd_Ct l yX6_copy cX6_copy 3 none 1 40 0 0 E [.ref (bd_ea E 18 w0 0), .ref (bd_ea E 26 w2 0), .ref (bd_ea E 26 w 0)] xm ym om xm (ry_rc ym 26 w w2 6) om (none) := by
  refine bd_open RX6 rfl (by decide) (Nat.le_of_ble_eq_true rfl) ?_
  intro p e s m args below meth c ls C hr hlk hS hR hl
  have hx := C.1.1
  have hb := C.1.2.1
  have hl : lv_has ls 3 [(0, .ref (bd_ea E 18 w0 0)), (1, .ref (bd_ea E 26 w2 0)), (2, .ref (bd_ea E 26 w 0))] := hl
  refine lv_aload_n hx hb dX6_copy_0 rfl (lv_at hl 1 rfl) ?_
  refine lv_iconst (v := 0) hx hb dX6_copy_1 (by decide) ?_
  refine lv_aload_n hx hb dX6_copy_2 rfl (lv_at hl 2 rfl) ?_
  refine lv_iconst (v := 0) hx hb dX6_copy_3 (by decide) ?_
  refine lv_aload_n hx hb dX6_copy_4 rfl (lv_at hl 1 rfl) ?_
  refine bd_al_26 C hR (by omega) dX6_copy_5 ?_
  refine bd_cpG (n := 6) (dp := 0) (sp := 0) C hR hS hl.1 qm_X6_49 (f1 := 26) (f2 := 26) ⟨by decide, show w2 < 2 by omega, (by decide)⟩ ⟨by decide, show w < 2 by omega, (by decide)⟩ rfl rfl (by omega) (by omega) (by omega) (by omega) (by omega) bd_ro26 ⟨Nat.le_of_ble_eq_true rfl, Nat.le_of_ble_eq_true rfl⟩ dX6_copy_6 (fun H locs hR hS => ?_)
  exact bd_rv C hr hlk (hR.eq rfl (by first | rfl | (rfl))) hS (Nat.zero_le _) (Nat.zero_le _) dX6_copy_9
set_option maxHeartbeats 4000000 in
set_option maxRecDepth 100000 in
theorem k_X6_copy_27 (l : Launch) (E : bd_E) (xm ym : bd_M) (om : Nat → Int64) (w0 : Nat) (w : Nat) (w2 : Nat) (hw0 : w0 < 2) (hw : w < 2) (hw2 : w2 < 2) : bd_Ct l yX6_copy cX6_copy 3 none 1 40 0 0 E [.ref (bd_ea E 18 w0 0), .ref (bd_ea E 27 w2 0), .ref (bd_ea E 27 w 0)] xm ym om xm (ry_rc ym 27 w w2 6) om (none) := by
  refine bd_open RX6 rfl (by decide) (Nat.le_of_ble_eq_true rfl) ?_
  intro p e s m args below meth c ls C hr hlk hS hR hl
  have hx := C.1.1
  have hb := C.1.2.1
  have hl : lv_has ls 3 [(0, .ref (bd_ea E 18 w0 0)), (1, .ref (bd_ea E 27 w2 0)), (2, .ref (bd_ea E 27 w 0))] := hl
  refine lv_aload_n hx hb dX6_copy_0 rfl (lv_at hl 1 rfl) ?_
  refine lv_iconst (v := 0) hx hb dX6_copy_1 (by decide) ?_
  refine lv_aload_n hx hb dX6_copy_2 rfl (lv_at hl 2 rfl) ?_
  refine lv_iconst (v := 0) hx hb dX6_copy_3 (by decide) ?_
  refine lv_aload_n hx hb dX6_copy_4 rfl (lv_at hl 1 rfl) ?_
  refine bd_al_27 C hR (by omega) dX6_copy_5 ?_
  refine bd_cpG (n := 6) (dp := 0) (sp := 0) C hR hS hl.1 qm_X6_49 (f1 := 27) (f2 := 27) ⟨by decide, show w2 < 2 by omega, (by decide)⟩ ⟨by decide, show w < 2 by omega, (by decide)⟩ rfl rfl (by omega) (by omega) (by omega) (by omega) (by omega) bd_ro27 ⟨Nat.le_of_ble_eq_true rfl, Nat.le_of_ble_eq_true rfl⟩ dX6_copy_6 (fun H locs hR hS => ?_)
  exact bd_rv C hr hlk (hR.eq rfl (by first | rfl | (rfl))) hS (Nat.zero_le _) (Nat.zero_le _) dX6_copy_9
set_option maxHeartbeats 4000000 in
set_option maxRecDepth 100000 in
theorem k_X6_copy_28 (l : Launch) (E : bd_E) (xm ym : bd_M) (om : Nat → Int64) (w0 : Nat) (w : Nat) (w2 : Nat) (hw0 : w0 < 2) (hw : w < 2) (hw2 : w2 < 2) : bd_Ct l yX6_copy cX6_copy 3 none 1 40 0 0 E [.ref (bd_ea E 18 w0 0), .ref (bd_ea E 28 w2 0), .ref (bd_ea E 28 w 0)] xm ym om xm (ry_rc ym 28 w w2 24) om (none) := by
  refine bd_open RX6 rfl (by decide) (Nat.le_of_ble_eq_true rfl) ?_
  intro p e s m args below meth c ls C hr hlk hS hR hl
  have hx := C.1.1
  have hb := C.1.2.1
  have hl : lv_has ls 3 [(0, .ref (bd_ea E 18 w0 0)), (1, .ref (bd_ea E 28 w2 0)), (2, .ref (bd_ea E 28 w 0))] := hl
  refine lv_aload_n hx hb dX6_copy_0 rfl (lv_at hl 1 rfl) ?_
  refine lv_iconst (v := 0) hx hb dX6_copy_1 (by decide) ?_
  refine lv_aload_n hx hb dX6_copy_2 rfl (lv_at hl 2 rfl) ?_
  refine lv_iconst (v := 0) hx hb dX6_copy_3 (by decide) ?_
  refine lv_aload_n hx hb dX6_copy_4 rfl (lv_at hl 1 rfl) ?_
  refine bd_al_28 C hR (by omega) dX6_copy_5 ?_
  refine bd_cpG (n := 24) (dp := 0) (sp := 0) C hR hS hl.1 qm_X6_49 (f1 := 28) (f2 := 28) ⟨by decide, show w2 < 2 by omega, (by decide)⟩ ⟨by decide, show w < 2 by omega, (by decide)⟩ rfl rfl (by omega) (by omega) (by omega) (by omega) (by omega) bd_ro28 ⟨Nat.le_of_ble_eq_true rfl, Nat.le_of_ble_eq_true rfl⟩ dX6_copy_6 (fun H locs hR hS => ?_)
  exact bd_rv C hr hlk (hR.eq rfl (by first | rfl | (rfl))) hS (Nat.zero_le _) (Nat.zero_le _) dX6_copy_9
set_option maxHeartbeats 4000000 in
set_option maxRecDepth 100000 in
theorem k_X6_become (l : Launch) (E : bd_E) (xm ym : bd_M) (om : Nat → Int64) (w : Nat) (w2 : Nat) (n : Nat) (nb : Nat) (z : (Nat→Nat)) (hw : w < 2) (hw2 : w2 < 2) (hy : ry_Sh ym n nb z) : bd_Ct l yX6_become cX6_become 2 none 2 62 0 0 E [.ref (bd_ea E 18 w 0), .ref (bd_ea E 18 w2 0)] xm ym om xm (ry_bec ym w w2) om (none) := by
  refine bd_open RX6 rfl (by decide) (Nat.le_of_ble_eq_true rfl) ?_
  intro p e s m args below meth c ls C hr hlk hS hR hl
  have hx := C.1.1
  have hb := C.1.2.1
  have hy24 := hy.2.1
  have hy6 := hy.2.2.2.1
  have hl : lv_has ls 2 [(0, .ref (bd_ea E 18 w 0)), (1, .ref (bd_ea E 18 w2 0))] := hl
  refine lv_aload_n hx hb dX6_become_0 rfl (lv_at hl 0 rfl) ?_
  refine lv_aload_n hx hb dX6_become_1 rfl (lv_at hl 1 rfl) ?_
  refine bd_g_X6_contests C hR (by omega) qf_X6_55 dX6_become_2 ?_
  refine bd_p_X6_contests C hR hS (by omega) qf_X6_55 dX6_become_5 (fun H locs hR hS => ?_)
  refine lv_aload_n hx hb dX6_become_8 rfl (lv_at hl 0 rfl) ?_
  refine lv_aload_n hx hb dX6_become_9 rfl (lv_at hl 1 rfl) ?_
  refine bd_g_X6_deputies C hR (by omega) qf_X6_59 dX6_become_10 ?_
  refine bd_p_X6_deputies C hR hS (by omega) qf_X6_59 dX6_become_13 (fun H locs hR hS => ?_)
  refine lv_aload_n hx hb dX6_become_16 rfl (lv_at hl 0 rfl) ?_
  refine lv_aload_n hx hb dX6_become_17 rfl (lv_at hl 1 rfl) ?_
  refine bd_g_X6_empties C hR (by omega) qf_X6_62 dX6_become_18 ?_
  refine bd_p_X6_empties C hR hS (by omega) qf_X6_62 dX6_become_21 (fun H locs hR hS => ?_)
  refine lv_aload_n hx hb dX6_become_24 rfl (lv_at hl 0 rfl) ?_
  refine lv_aload_n hx hb dX6_become_25 rfl (lv_at hl 1 rfl) ?_
  refine bd_g_X6_tired C hR (by omega) qf_X6_15 dX6_become_26 ?_
  refine lv_aload_n hx hb dX6_become_29 rfl (lv_at hl 0 rfl) ?_
  refine bd_g_X6_tired C hR (by omega) qf_X6_15 dX6_become_30 ?_
  refine bd_cV0 [.ref (bd_ea E 19 w2 0), .ref (bd_ea E 19 w 0)] [] C (k_X6_copy_19 l E xm (bd_up (bd_up (bd_up ym 10 w 0 (ym 10 w2 0)) 11 w 0 ((bd_up ym 10 w 0 (ym 10 w2 0)) 11 w2 0)) 12 w 0 ((bd_up (bd_up ym 10 w 0 (ym 10 w2 0)) 11 w 0 ((bd_up ym 10 w 0 (ym 10 w2 0)) 11 w2 0)) 12 w2 0)) om w w w2 (by omega) (by omega) (by omega)) hR hS (bd_recv C.2 hR ⟨by decide, show w < 2 by omega, (by decide)⟩ rfl rfl) qm_X6_65 qi_X6_copy qs_X6_copy qz_X6 qc_X6_copy qp_X6_copy ⟨Nat.le_of_ble_eq_true rfl, Nat.le_of_ble_eq_true rfl⟩ hl.1 (Nat.le_of_ble_eq_true rfl) dX6_become_33 ⟨Nat.le_of_ble_eq_true rfl, Nat.le_of_ble_eq_true rfl⟩ (fun H locs hR hS hz33 => ?_)
  refine lv_aload_n hx hb dX6_become_36 rfl (lv_at hl 0 rfl) ?_
  refine lv_aload_n hx hb dX6_become_37 rfl (lv_at hl 1 rfl) ?_
  refine bd_g_X6_absent C hR (by omega) qf_X6_19 dX6_become_38 ?_
  refine lv_aload_n hx hb dX6_become_41 rfl (lv_at hl 0 rfl) ?_
  refine bd_g_X6_absent C hR (by omega) qf_X6_19 dX6_become_42 ?_
  refine bd_cV0 [.ref (bd_ea E 20 w2 0), .ref (bd_ea E 20 w 0)] [] C (k_X6_copy_20 l E xm (ry_rc (bd_up (bd_up (bd_up ym 10 w 0 (ym 10 w2 0)) 11 w 0 ((bd_up ym 10 w 0 (ym 10 w2 0)) 11 w2 0)) 12 w 0 ((bd_up (bd_up ym 10 w 0 (ym 10 w2 0)) 11 w 0 ((bd_up ym 10 w 0 (ym 10 w2 0)) 11 w2 0)) 12 w2 0)) 19 w w2 24) om w w w2 (by omega) (by omega) (by omega)) hR hS (bd_recv C.2 hR ⟨by decide, show w < 2 by omega, (by decide)⟩ rfl rfl) qm_X6_65 qi_X6_copy qs_X6_copy qz_X6 qc_X6_copy qp_X6_copy ⟨Nat.le_of_ble_eq_true rfl, Nat.le_of_ble_eq_true rfl⟩ hl.1 (Nat.le_of_ble_eq_true rfl) dX6_become_45 ⟨Nat.le_of_ble_eq_true rfl, Nat.le_of_ble_eq_true rfl⟩ (fun H locs hR hS hz45 => ?_)
  refine lv_aload_n hx hb dX6_become_48 rfl (lv_at hl 0 rfl) ?_
  refine lv_aload_n hx hb dX6_become_49 rfl (lv_at hl 1 rfl) ?_
  refine bd_g_X6_sat C hR (by omega) qf_X6_22 dX6_become_50 ?_
  refine lv_aload_n hx hb dX6_become_53 rfl (lv_at hl 0 rfl) ?_
  refine bd_g_X6_sat C hR (by omega) qf_X6_22 dX6_become_54 ?_
  refine bd_cV0 [.ref (bd_ea E 21 w2 0), .ref (bd_ea E 21 w 0)] [] C (k_X6_copy_21 l E xm (ry_rc (ry_rc (bd_up (bd_up (bd_up ym 10 w 0 (ym 10 w2 0)) 11 w 0 ((bd_up ym 10 w 0 (ym 10 w2 0)) 11 w2 0)) 12 w 0 ((bd_up (bd_up ym 10 w 0 (ym 10 w2 0)) 11 w 0 ((bd_up ym 10 w 0 (ym 10 w2 0)) 11 w2 0)) 12 w2 0)) 19 w w2 24) 20 w w2 24) om w w w2 (by omega) (by omega) (by omega)) hR hS (bd_recv C.2 hR ⟨by decide, show w < 2 by omega, (by decide)⟩ rfl rfl) qm_X6_65 qi_X6_copy qs_X6_copy qz_X6 qc_X6_copy qp_X6_copy ⟨Nat.le_of_ble_eq_true rfl, Nat.le_of_ble_eq_true rfl⟩ hl.1 (Nat.le_of_ble_eq_true rfl) dX6_become_57 ⟨Nat.le_of_ble_eq_true rfl, Nat.le_of_ble_eq_true rfl⟩ (fun H locs hR hS hz57 => ?_)
  refine lv_aload_n hx hb dX6_become_60 rfl (lv_at hl 0 rfl) ?_
  refine lv_aload_n hx hb dX6_become_61 rfl (lv_at hl 1 rfl) ?_
  refine bd_g_X6_deputy C hR (by omega) qf_X6_25 dX6_become_62 ?_
  refine lv_aload_n hx hb dX6_become_65 rfl (lv_at hl 0 rfl) ?_
  refine bd_g_X6_deputy C hR (by omega) qf_X6_25 dX6_become_66 ?_
  refine bd_cV0 [.ref (bd_ea E 22 w2 0), .ref (bd_ea E 22 w 0)] [] C (k_X6_copy_22 l E xm (ry_rc (ry_rc (ry_rc (bd_up (bd_up (bd_up ym 10 w 0 (ym 10 w2 0)) 11 w 0 ((bd_up ym 10 w 0 (ym 10 w2 0)) 11 w2 0)) 12 w 0 ((bd_up (bd_up ym 10 w 0 (ym 10 w2 0)) 11 w 0 ((bd_up ym 10 w 0 (ym 10 w2 0)) 11 w2 0)) 12 w2 0)) 19 w w2 24) 20 w w2 24) 21 w w2 24) om w w w2 (by omega) (by omega) (by omega)) hR hS (bd_recv C.2 hR ⟨by decide, show w < 2 by omega, (by decide)⟩ rfl rfl) qm_X6_65 qi_X6_copy qs_X6_copy qz_X6 qc_X6_copy qp_X6_copy ⟨Nat.le_of_ble_eq_true rfl, Nat.le_of_ble_eq_true rfl⟩ hl.1 (Nat.le_of_ble_eq_true rfl) dX6_become_69 ⟨Nat.le_of_ble_eq_true rfl, Nat.le_of_ble_eq_true rfl⟩ (fun H locs hR hS hz69 => ?_)
  refine lv_aload_n hx hb dX6_become_72 rfl (lv_at hl 0 rfl) ?_
  refine lv_aload_n hx hb dX6_become_73 rfl (lv_at hl 1 rfl) ?_
  refine bd_g_X6_member C hR (by omega) qf_X6_28 dX6_become_74 ?_
  refine lv_aload_n hx hb dX6_become_77 rfl (lv_at hl 0 rfl) ?_
  refine bd_g_X6_member C hR (by omega) qf_X6_28 dX6_become_78 ?_
  refine bd_cV0 [.ref (bd_ea E 23 w2 0), .ref (bd_ea E 23 w 0)] [] C (k_X6_copy_23 l E xm (ry_rc (ry_rc (ry_rc (ry_rc (bd_up (bd_up (bd_up ym 10 w 0 (ym 10 w2 0)) 11 w 0 ((bd_up ym 10 w 0 (ym 10 w2 0)) 11 w2 0)) 12 w 0 ((bd_up (bd_up ym 10 w 0 (ym 10 w2 0)) 11 w 0 ((bd_up ym 10 w 0 (ym 10 w2 0)) 11 w2 0)) 12 w2 0)) 19 w w2 24) 20 w w2 24) 21 w w2 24) 22 w w2 24) om w w w2 (by omega) (by omega) (by omega)) hR hS (bd_recv C.2 hR ⟨by decide, show w < 2 by omega, (by decide)⟩ rfl rfl) qm_X6_65 qi_X6_copy qs_X6_copy qz_X6 qc_X6_copy qp_X6_copy ⟨Nat.le_of_ble_eq_true rfl, Nat.le_of_ble_eq_true rfl⟩ hl.1 (Nat.le_of_ble_eq_true rfl) dX6_become_81 ⟨Nat.le_of_ble_eq_true rfl, Nat.le_of_ble_eq_true rfl⟩ (fun H locs hR hS hz81 => ?_)
  refine lv_aload_n hx hb dX6_become_84 rfl (lv_at hl 0 rfl) ?_
  refine lv_aload_n hx hb dX6_become_85 rfl (lv_at hl 1 rfl) ?_
  refine bd_g_X6_who C hR (by omega) qf_X6_31 dX6_become_86 ?_
  refine lv_aload_n hx hb dX6_become_89 rfl (lv_at hl 0 rfl) ?_
  refine bd_g_X6_who C hR (by omega) qf_X6_31 dX6_become_90 ?_
  refine bd_cV0 [.ref (bd_ea E 24 w2 0), .ref (bd_ea E 24 w 0)] [] C (k_X6_copy_24 l E xm (ry_rc (ry_rc (ry_rc (ry_rc (ry_rc (bd_up (bd_up (bd_up ym 10 w 0 (ym 10 w2 0)) 11 w 0 ((bd_up ym 10 w 0 (ym 10 w2 0)) 11 w2 0)) 12 w 0 ((bd_up (bd_up ym 10 w 0 (ym 10 w2 0)) 11 w 0 ((bd_up ym 10 w 0 (ym 10 w2 0)) 11 w2 0)) 12 w2 0)) 19 w w2 24) 20 w w2 24) 21 w w2 24) 22 w w2 24) 23 w w2 48) om w w w2 (by omega) (by omega) (by omega)) hR hS (bd_recv C.2 hR ⟨by decide, show w < 2 by omega, (by decide)⟩ rfl rfl) qm_X6_65 qi_X6_copy qs_X6_copy qz_X6 qc_X6_copy qp_X6_copy ⟨Nat.le_of_ble_eq_true rfl, Nat.le_of_ble_eq_true rfl⟩ hl.1 (Nat.le_of_ble_eq_true rfl) dX6_become_93 ⟨Nat.le_of_ble_eq_true rfl, Nat.le_of_ble_eq_true rfl⟩ (fun H locs hR hS hz93 => ?_)
  refine lv_aload_n hx hb dX6_become_96 rfl (lv_at hl 0 rfl) ?_
  refine lv_aload_n hx hb dX6_become_97 rfl (lv_at hl 1 rfl) ?_
  refine bd_g_X6_spirit C hR (by omega) qf_X6_34 dX6_become_98 ?_
  refine lv_aload_n hx hb dX6_become_101 rfl (lv_at hl 0 rfl) ?_
  refine bd_g_X6_spirit C hR (by omega) qf_X6_34 dX6_become_102 ?_
  refine bd_cV0 [.ref (bd_ea E 25 w2 0), .ref (bd_ea E 25 w 0)] [] C (k_X6_copy_25 l E xm (ry_rc (ry_rc (ry_rc (ry_rc (ry_rc (ry_rc (bd_up (bd_up (bd_up ym 10 w 0 (ym 10 w2 0)) 11 w 0 ((bd_up ym 10 w 0 (ym 10 w2 0)) 11 w2 0)) 12 w 0 ((bd_up (bd_up ym 10 w 0 (ym 10 w2 0)) 11 w 0 ((bd_up ym 10 w 0 (ym 10 w2 0)) 11 w2 0)) 12 w2 0)) 19 w w2 24) 20 w w2 24) 21 w w2 24) 22 w w2 24) 23 w w2 48) 24 w w2 48) om w w w2 (by omega) (by omega) (by omega)) hR hS (bd_recv C.2 hR ⟨by decide, show w < 2 by omega, (by decide)⟩ rfl rfl) qm_X6_65 qi_X6_copy qs_X6_copy qz_X6 qc_X6_copy qp_X6_copy ⟨Nat.le_of_ble_eq_true rfl, Nat.le_of_ble_eq_true rfl⟩ hl.1 (Nat.le_of_ble_eq_true rfl) dX6_become_105 ⟨Nat.le_of_ble_eq_true rfl, Nat.le_of_ble_eq_true rfl⟩ (fun H locs hR hS hz105 => ?_)
  refine lv_aload_n hx hb dX6_become_108 rfl (lv_at hl 0 rfl) ?_
  refine lv_aload_n hx hb dX6_become_109 rfl (lv_at hl 1 rfl) ?_
  refine bd_g_X6_points C hR (by omega) qf_X6_37 dX6_become_110 ?_
  refine lv_aload_n hx hb dX6_become_113 rfl (lv_at hl 0 rfl) ?_
  refine bd_g_X6_points C hR (by omega) qf_X6_37 dX6_become_114 ?_
  refine bd_cV0 [.ref (bd_ea E 26 w2 0), .ref (bd_ea E 26 w 0)] [] C (k_X6_copy_26 l E xm (ry_rc (ry_rc (ry_rc (ry_rc (ry_rc (ry_rc (ry_rc (bd_up (bd_up (bd_up ym 10 w 0 (ym 10 w2 0)) 11 w 0 ((bd_up ym 10 w 0 (ym 10 w2 0)) 11 w2 0)) 12 w 0 ((bd_up (bd_up ym 10 w 0 (ym 10 w2 0)) 11 w 0 ((bd_up ym 10 w 0 (ym 10 w2 0)) 11 w2 0)) 12 w2 0)) 19 w w2 24) 20 w w2 24) 21 w w2 24) 22 w w2 24) 23 w w2 48) 24 w w2 48) 25 w w2 6) om w w w2 (by omega) (by omega) (by omega)) hR hS (bd_recv C.2 hR ⟨by decide, show w < 2 by omega, (by decide)⟩ rfl rfl) qm_X6_65 qi_X6_copy qs_X6_copy qz_X6 qc_X6_copy qp_X6_copy ⟨Nat.le_of_ble_eq_true rfl, Nat.le_of_ble_eq_true rfl⟩ hl.1 (Nat.le_of_ble_eq_true rfl) dX6_become_117 ⟨Nat.le_of_ble_eq_true rfl, Nat.le_of_ble_eq_true rfl⟩ (fun H locs hR hS hz117 => ?_)
  refine lv_aload_n hx hb dX6_become_120 rfl (lv_at hl 0 rfl) ?_
  refine lv_aload_n hx hb dX6_become_121 rfl (lv_at hl 1 rfl) ?_
  refine bd_g_X6_outs C hR (by omega) qf_X6_40 dX6_become_122 ?_
  refine lv_aload_n hx hb dX6_become_125 rfl (lv_at hl 0 rfl) ?_
  refine bd_g_X6_outs C hR (by omega) qf_X6_40 dX6_become_126 ?_
  refine bd_cV0 [.ref (bd_ea E 27 w2 0), .ref (bd_ea E 27 w 0)] [] C (k_X6_copy_27 l E xm (ry_rc (ry_rc (ry_rc (ry_rc (ry_rc (ry_rc (ry_rc (ry_rc (bd_up (bd_up (bd_up ym 10 w 0 (ym 10 w2 0)) 11 w 0 ((bd_up ym 10 w 0 (ym 10 w2 0)) 11 w2 0)) 12 w 0 ((bd_up (bd_up ym 10 w 0 (ym 10 w2 0)) 11 w 0 ((bd_up ym 10 w 0 (ym 10 w2 0)) 11 w2 0)) 12 w2 0)) 19 w w2 24) 20 w w2 24) 21 w w2 24) 22 w w2 24) 23 w w2 48) 24 w w2 48) 25 w w2 6) 26 w w2 6) om w w w2 (by omega) (by omega) (by omega)) hR hS (bd_recv C.2 hR ⟨by decide, show w < 2 by omega, (by decide)⟩ rfl rfl) qm_X6_65 qi_X6_copy qs_X6_copy qz_X6 qc_X6_copy qp_X6_copy ⟨Nat.le_of_ble_eq_true rfl, Nat.le_of_ble_eq_true rfl⟩ hl.1 (Nat.le_of_ble_eq_true rfl) dX6_become_129 ⟨Nat.le_of_ble_eq_true rfl, Nat.le_of_ble_eq_true rfl⟩ (fun H locs hR hS hz129 => ?_)
  refine lv_aload_n hx hb dX6_become_132 rfl (lv_at hl 0 rfl) ?_
  refine lv_aload_n hx hb dX6_become_133 rfl (lv_at hl 1 rfl) ?_
  refine bd_g_X6_latest C hR (by omega) qf_X6_43 dX6_become_134 ?_
  refine lv_aload_n hx hb dX6_become_137 rfl (lv_at hl 0 rfl) ?_
  refine bd_g_X6_latest C hR (by omega) qf_X6_43 dX6_become_138 ?_
  refine bd_cV0 [.ref (bd_ea E 28 w2 0), .ref (bd_ea E 28 w 0)] [] C (k_X6_copy_28 l E xm (ry_rc (ry_rc (ry_rc (ry_rc (ry_rc (ry_rc (ry_rc (ry_rc (ry_rc (bd_up (bd_up (bd_up ym 10 w 0 (ym 10 w2 0)) 11 w 0 ((bd_up ym 10 w 0 (ym 10 w2 0)) 11 w2 0)) 12 w 0 ((bd_up (bd_up ym 10 w 0 (ym 10 w2 0)) 11 w 0 ((bd_up ym 10 w 0 (ym 10 w2 0)) 11 w2 0)) 12 w2 0)) 19 w w2 24) 20 w w2 24) 21 w w2 24) 22 w w2 24) 23 w w2 48) 24 w w2 48) 25 w w2 6) 26 w w2 6) 27 w w2 6) om w w w2 (by omega) (by omega) (by omega)) hR hS (bd_recv C.2 hR ⟨by decide, show w < 2 by omega, (by decide)⟩ rfl rfl) qm_X6_65 qi_X6_copy qs_X6_copy qz_X6 qc_X6_copy qp_X6_copy ⟨Nat.le_of_ble_eq_true rfl, Nat.le_of_ble_eq_true rfl⟩ hl.1 (Nat.le_of_ble_eq_true rfl) dX6_become_141 ⟨Nat.le_of_ble_eq_true rfl, Nat.le_of_ble_eq_true rfl⟩ (fun H locs hR hS hz141 => ?_)
  exact bd_rv C hr hlk (hR.eq rfl (by first | rfl | (rfl))) hS (Nat.zero_le _) (Nat.zero_le _) dX6_become_144
set_option maxHeartbeats 4000000 in
set_option maxRecDepth 100000 in
theorem k_X6_sits (l : Launch) (E : bd_E) (xm ym : bd_M) (om : Nat → Int64) (w : Nat) (n : Nat) (nb : Nat) (z : (Nat→Nat)) (b : Nat) (v : Int32) (hw : w < 2) (hy : ry_Sh ym n nb z) (hb : b < nb) : bd_Ct l yX6_sits cX6_sits 5 (some .boolean) 0 0 0 0 E [.ref (bd_ea E 18 w 0), .int (nI b), .int v] xm ym om xm ym om (some (.int (if ry_in ym w b v (z b) = true then 1 else 0))) := by
  refine bd_open RX6 rfl (by decide) (Nat.le_of_ble_eq_true rfl) ?_
  intro p e s m args below meth c ls C hr hlk hS hR hl
  have hx := C.1.1
  have hb := C.1.2.1
  have hy24 := hy.2.1
  have hy6 := hy.2.2.2.1
  have z8 := (hy.2.2.2.2.1 b (by omega)).2
  have hl : lv_has ls 5 [(0, .ref (bd_ea E 18 w 0)), (1, .int (nI b)), (2, .int v)] := hl
  refine lv_iconst (v := 0) hx hb dX6_sits_0 (by decide) ?_
  refine lv_istore_n (lv' := [(3, .int 0), (0, .ref (bd_ea E 18 w 0)), (1, .int (nI b)), (2, .int v)]) hx hb dX6_sits_1 rfl hl (by decide) rfl (fun ls hl => ?_)
  refine lv_bipush (v := 8) hx hb dX6_sits_2 (by decide) ?_
  refine lv_iload_n hx hb dX6_sits_4 rfl (lv_at hl 2 rfl) ?_
  refine lv_imul hx hb dX6_sits_5 ?_
  refine bd_ti (j := 8 * b) (pk_mul 8 b) ?_
  refine lv_istore (lv' := [(4, .int (nI (8 * b))), (3, .int 0), (0, .ref (bd_ea E 18 w 0)), (1, .int (nI b)), (2, .int v)]) hx hb dX6_sits_6 hl (by decide) rfl (fun ls hl => ?_)
  have lp1 : ∀ (t1 j : Nat), j ≤ z b → (z b) - j < t1 → ∀ (H : Heap) (locs : List Loc), bd_Rep E xm ym om H → va_S (bd_A E) s.heap H locs → ∀ (ls : Array Slot), lv_has ls 5 [(4, .int (nI (8 * b + j))), (3, .int (if ry_in ym w b v j = true then 1 else 0)), (0, .ref (bd_ea E 18 w 0)), (1, .int (nI b)), (2, .int v)] → W p l e { frames := 0, cells := 0, slots := 0, locals := 0 } s m args below meth c H locs 0 0 (MQ below (bd_Q E xm ym om (some (.int (if ry_in ym w b v (z b) = true then 1 else 0)))) args s 0 0 (bd_A E)) (F0 m 8 ls []) := by
    intro t1
    induction t1 with
    | zero => intro j h1 h2; exact absurd h2 (Nat.not_lt_zero _)
    | succ t1 ih1 =>
      intro j hj1 hj2 H locs hR hS ls hl
      refine lv_iload hx hb dX6_sits_8 (lv_at hl 0 rfl) ?_
      refine lv_bipush (v := 8) hx hb dX6_sits_10 (by decide) ?_
      refine lv_iload_n hx hb dX6_sits_12 rfl (lv_at hl 3 rfl) ?_
      refine lv_imul hx hb dX6_sits_13 ?_
      refine bd_ti (j := 8 * b) (pk_mul 8 b) ?_
      refine lv_aload_n hx hb dX6_sits_14 rfl (lv_at hl 2 rfl) ?_
      refine bd_g_X6_this_0 C hR (by omega) qf_X6_3 dX6_sits_15 ?_
      refine bd_gN_X7_seats C hR  (List.mem_of_getElem? (i := 14) rfl) dX6_sits_18 ?_
      refine lv_iload_n hx hb dX6_sits_21 rfl (lv_at hl 3 rfl) ?_
      refine bd_ld_14 C hR  (j := b) (by omega) dX6_sits_22 ?_
      have zz22 := ((show ry_Sh ym n nb z from hy).2.2.2.2.1 b (by omega)).2
      rw [show ym 14 0 b = nI (z b) from ((show ry_Sh ym n nb z from hy).2.2.2.2.1 b (by omega)).1]
      refine lv_iadd hx hb dX6_sits_23 ?_
      refine bd_ti (j := (8 * b) + (z b)) (nI_add (8 * b) (z b)) ?_
      refine lv_icmp_ge (tgt := 52) hx hb dX6_sits_24 (by decide) (fun c24 => ?_) (fun c24 => ?_)
      · skip
        have nc24 : ((8 * b) + (z b)) ≤ (8 * b + j) := (nI_leI (a := ((8 * b) + (z b))) (b := (8 * b + j)) (by omega) (by omega)).mp c24
        obtain rfl : z b = j := by omega
        refine lv_iload_n hx hb dX6_sits_52 rfl (lv_at hl 1 rfl) ?_
        exact bd_rz C hr hlk (hR.eq rfl rfl) hS (Nat.zero_le _) (Nat.zero_le _) dX6_sits_53 (by split <;> rfl) rfl
      · skip
        have nc24 : ¬ ((8 * b) + (z b)) ≤ (8 * b + j) := fun q9 => c24 ((nI_leI (a := ((8 * b) + (z b))) (b := (8 * b + j)) (by omega) (by omega)).mpr q9)
        refine lv_iload_n hx hb dX6_sits_27 rfl (lv_at hl 1 rfl) ?_
        refine lv_aload_n hx hb dX6_sits_28 rfl (lv_at hl 2 rfl) ?_
        refine bd_g_X6_who C hR (by omega) qf_X6_31 dX6_sits_29 ?_
        refine lv_iload hx hb dX6_sits_32 (lv_at hl 0 rfl) ?_
        refine bd_ld_24 C hR (by omega) (j := (8 * b + j)) (by omega) dX6_sits_34 ?_
        refine lv_iload_n hx hb dX6_sits_35 rfl (lv_at hl 4 rfl) ?_
        refine lv_icmp_ne (tgt := 43) hx hb dX6_sits_36 (by decide) (fun c36 => ?_) (fun c36 => ?_)
        · skip
          refine lv_iconst (v := 0) hx hb dX6_sits_43 (by decide) ?_
          refine lv_ior hx hb dX6_sits_44 ?_
          refine lv_istore_n (lv' := [(3, .int ((if ry_in ym w b v j = true then 1 else 0) ||| 0)), (4, .int (nI (8 * b + j))), (0, .ref (bd_ea E 18 w 0)), (1, .int (nI b)), (2, .int v)]) hx hb dX6_sits_45 rfl hl (by decide) rfl (fun ls hl => ?_)
          refine lv_iinc (v := nI ((8 * b + j) + 1)) (lv' := [(4, .int (nI ((8 * b + j) + 1))), (3, .int ((if ry_in ym w b v j = true then 1 else 0) ||| 0)), (0, .ref (bd_ea E 18 w 0)), (1, .int (nI b)), (2, .int v)]) hx hb dX6_sits_46 hl (k := 1) rfl (nI_1 (8 * b + j)) (by decide) rfl (fun ls hl => ?_)
          refine lv_goto (tgt := 8) hx hb dX6_sits_49 (by decide) ?_
          exact ih1 (j + 1) (by omega) (by omega) _ _ (hR.eq rfl rfl) hS _ (by rw [show (nI (8 * b + (j + 1)) : Int32) = nI ((8 * b + j) + 1) from (by first | (simp (config := { decide := true }) only [eq_false c24, eq_false nc24, eq_false c36, ↓reduceIte, not_true_eq_false, not_false_eq_true, and_self, and_true, true_and, and_false, false_and]; done) | rfl)]; rw [show (if ry_in ym w b v (j + 1) = true then 1 else 0 : Int32) = (if ry_in ym w b v j = true then 1 else 0) ||| 0 from (by rw [ry_in]; first | exact ry_or1 c36 | exact ry_or0 c36)]; exact lv_sub hl [0, 1, 2, 3, 4] rfl)
        · skip
          refine lv_iconst (v := 1) hx hb dX6_sits_39 (by decide) ?_
          refine lv_goto (tgt := 44) hx hb dX6_sits_40 (by decide) ?_
          refine lv_ior hx hb dX6_sits_44 ?_
          refine lv_istore_n (lv' := [(3, .int ((if ry_in ym w b v j = true then 1 else 0) ||| 1)), (4, .int (nI (8 * b + j))), (0, .ref (bd_ea E 18 w 0)), (1, .int (nI b)), (2, .int v)]) hx hb dX6_sits_45 rfl hl (by decide) rfl (fun ls hl => ?_)
          refine lv_iinc (v := nI ((8 * b + j) + 1)) (lv' := [(4, .int (nI ((8 * b + j) + 1))), (3, .int ((if ry_in ym w b v j = true then 1 else 0) ||| 1)), (0, .ref (bd_ea E 18 w 0)), (1, .int (nI b)), (2, .int v)]) hx hb dX6_sits_46 hl (k := 1) rfl (nI_1 (8 * b + j)) (by decide) rfl (fun ls hl => ?_)
          refine lv_goto (tgt := 8) hx hb dX6_sits_49 (by decide) ?_
          exact ih1 (j + 1) (by omega) (by omega) _ _ (hR.eq rfl rfl) hS _ (by rw [show (nI (8 * b + (j + 1)) : Int32) = nI ((8 * b + j) + 1) from (by first | (simp (config := { decide := true }) only [eq_false c24, eq_false nc24, eq_true c36, ↓reduceIte, not_true_eq_false, not_false_eq_true, and_self, and_true, true_and, and_false, false_and]; done) | rfl)]; rw [show (if ry_in ym w b v (j + 1) = true then 1 else 0 : Int32) = (if ry_in ym w b v j = true then 1 else 0) ||| 1 from (by rw [ry_in]; first | exact ry_or1 c36 | exact ry_or0 c36)]; exact lv_sub hl [0, 1, 2, 3, 4] rfl)
  exact lp1 ((z b) + 1) 0 (by omega) (by omega) _ _ (hR.eq rfl rfl) hS _ (by rw [show (nI (8 * b + 0) : Int32) = nI (8 * b) from by rfl]; rw [show (if ry_in ym w b v 0 = true then 1 else 0 : Int32) = 0 from by rfl]; exact lv_sub hl [0, 1, 2, 3, 4] rfl)
set_option maxHeartbeats 4000000 in
set_option maxRecDepth 100000 in
theorem k_X6_find (l : Launch) (E : bd_E) (xm ym : bd_M) (om : Nat → Int64) (w : Nat) (n : Nat) (nb : Nat) (z : (Nat→Nat)) (b : Nat) (k : Nat) (hw : w < 2) (hy : ry_Sh ym n nb z) (hb : b < nb) (hk : k < 48) (hmk : ry_mv n (ym 23 w k)) : bd_Ct l yX6_find cX6_find 9 (some .int) 1 24 0 0 E [.ref (bd_ea E 18 w 0), .int (nI b), .int (nI k)] xm ym om xm ym om (some (.int (ry_who ym w n b (z b) k))) := by
  refine bd_open RX6 rfl (by decide) (Nat.le_of_ble_eq_true rfl) ?_
  intro p e s m args below meth c ls C hr hlk hS hR hl
  have hx := C.1.1
  have hb := C.1.2.1
  have hy24 := hy.2.1
  have hy6 := hy.2.2.2.1
  have z8 := (hy.2.2.2.2.1 b (by omega)).2
  obtain ⟨hW1, hW2⟩ := hy.2.2.2.2.2.1 k hk
  obtain ⟨lm, hlm⟩ : ∃ q9, q9 = ry_lim ym w k := ⟨_, rfl⟩
  obtain ⟨iw, hW⟩ : ∃ q9, q9 = (ym 15 0 k).toNatClampNeg := ⟨_, rfl⟩
  have hW4 : iw < 4 := by rw [hW]; exact hW2
  have hl : lv_has ls 9 [(0, .ref (bd_ea E 18 w 0)), (1, .int (nI b)), (2, .int (nI k))] := hl
  refine lv_aload_n hx hb dX6_find_0 rfl (lv_at hl 0 rfl) ?_
  refine bd_g_X6_this_0 C hR (by omega) qf_X6_3 dX6_find_1 ?_
  refine bd_gN_X7_instrument C hR  (List.mem_of_getElem? (i := 15) rfl) dX6_find_4 ?_
  refine lv_iload_n hx hb dX6_find_7 rfl (lv_at hl 2 rfl) ?_
  refine bd_ld_15 C hR  (j := k) (by omega) dX6_find_8 ?_
  refine lv_istore_n (lv' := [(3, .int (ym 15 0 k)), (0, .ref (bd_ea E 18 w 0)), (1, .int (nI b)), (2, .int (nI k))]) hx hb dX6_find_9 rfl hl (by decide) rfl (fun ls hl => ?_)
  refine lv_aload_n hx hb dX6_find_10 rfl (lv_at hl 1 rfl) ?_
  refine bd_g_X6_member C hR (by omega) qf_X6_28 dX6_find_11 ?_
  refine lv_iload_n hx hb dX6_find_14 rfl (lv_at hl 3 rfl) ?_
  refine bd_ld_23 C hR (by omega) (j := k) (by omega) dX6_find_15 ?_
  refine lv_iconst (v := (-1)) hx hb dX6_find_16 (by decide) ?_
  refine lv_icmp_ne (tgt := 24) hx hb dX6_find_17 (by decide) (fun c17 => ?_) (fun c17 => ?_)
  · skip
    obtain ⟨hv1, hv2⟩ := hmk.resolve_left c17
    refine lv_aload_n hx hb dX6_find_24 rfl (lv_at hl 1 rfl) ?_
    refine bd_g_X6_this_0 C hR (by omega) qf_X6_3 dX6_find_25 ?_
    refine bd_gN_X7_skill C hR  (List.mem_of_getElem? (i := 16) rfl) dX6_find_28 ?_
    refine lv_iconst (v := 4) hx hb dX6_find_31 (by decide) ?_
    refine lv_aload_n hx hb dX6_find_32 rfl (lv_at hl 1 rfl) ?_
    refine bd_g_X6_member C hR (by omega) qf_X6_28 dX6_find_33 ?_
    refine lv_iload_n hx hb dX6_find_36 rfl (lv_at hl 3 rfl) ?_
    refine bd_ld_23 C hR (by omega) (j := k) (by omega) dX6_find_37 ?_
    refine lv_imul hx hb dX6_find_38 ?_
    refine lv_iload_n hx hb dX6_find_39 rfl (lv_at hl 0 rfl) ?_
    refine lv_iadd hx hb dX6_find_40 ?_
    refine bd_ti (j := 4 * (ym 23 w k).toNatClampNeg + iw) (by rw [bd_ix4 hv1 hW1, ← hW]) ?_
    refine bd_ld_13 C hR  (j := (4 * (ym 23 w k).toNatClampNeg + iw)) (by omega) dX6_find_41 ?_
    refine lv_iconst (v := 1) hx hb dX6_find_42 (by decide) ?_
    refine lv_iadd hx hb dX6_find_43 ?_
    rw [show ((ym 13 0 (4 * (ym 23 w k).toNatClampNeg + iw)) + 1 : Int32) = lm by rw [hlm, ry_lim, if_neg c17]; rw [← hW]]
    refine lv_istore (lv' := [(4, .int lm), (3, .int (ym 15 0 k)), (0, .ref (bd_ea E 18 w 0)), (1, .int (nI b)), (2, .int (nI k))]) hx hb dX6_find_44 hl (by decide) rfl (fun ls hl => ?_)
    refine lv_iconst (v := (-1)) hx hb dX6_find_46 (by decide) ?_
    refine lv_istore (lv' := [(5, .int (-1)), (4, .int lm), (3, .int (ym 15 0 k)), (0, .ref (bd_ea E 18 w 0)), (1, .int (nI b)), (2, .int (nI k))]) hx hb dX6_find_47 hl (by decide) rfl (fun ls hl => ?_)
    refine lv_iconst (v := 0) hx hb dX6_find_49 (by decide) ?_
    refine lv_istore (lv' := [(6, .int 0), (5, .int (-1)), (4, .int lm), (3, .int (ym 15 0 k)), (0, .ref (bd_ea E 18 w 0)), (1, .int (nI b)), (2, .int (nI k))]) hx hb dX6_find_50 hl (by decide) rfl (fun ls hl => ?_)
    have lp1 : ∀ (t1 j : Nat), j ≤ n → n - j < t1 → ∀ (H : Heap) (locs : List Loc), bd_Rep E xm ym om H → va_S (bd_A E) s.heap H locs → ∀ (ls : Array Slot), lv_has ls 9 [(6, .int (nI j)), (5, .int (ry_fi ym w b (z b) iw lm j)), (4, .int lm), (3, .int (ym 15 0 k)), (0, .ref (bd_ea E 18 w 0)), (1, .int (nI b)), (2, .int (nI k))] → W p l e { frames := 1, cells := 0, slots := 0, locals := 24 } s m args below meth c H locs 0 0 (MQ below (bd_Q E xm ym om (some (.int (ry_who ym w n b (z b) k)))) args s 0 0 (bd_A E)) (F0 m 52 ls []) := by
      intro t1
      induction t1 with
      | zero => intro j h1 h2; exact absurd h2 (Nat.not_lt_zero _)
      | succ t1 ih1 =>
        intro j hj1 hj2 H locs hR hS ls hl
        have hown := hy.2.2.2.2.2.2 (4 * j + iw)
        refine lv_iload hx hb dX6_find_52 (lv_at hl 0 rfl) ?_
        refine lv_aload_n hx hb dX6_find_54 rfl (lv_at hl 4 rfl) ?_
        refine bd_g_X6_this_0 C hR (by omega) qf_X6_3 dX6_find_55 ?_
        refine bd_gN_X7_players C hR  (List.mem_of_getElem? (i := 17) rfl) dX6_find_58 ?_
        rw [show ym 1 0 0 = nI n from (show ry_Sh ym n nb z from hy).1]
        refine lv_icmp_ge (tgt := 188) hx hb dX6_find_61 (by decide) (fun c61 => ?_) (fun c61 => ?_)
        · skip
          have nc61 : n ≤ j := (nI_leI (a := n) (b := j) (by omega) (by omega)).mp c61
          obtain rfl : n = j := by omega
          refine lv_iload hx hb dX6_find_188 (lv_at hl 1 rfl) ?_
          exact bd_ri C hr hlk (hR.eq rfl rfl) hS (Nat.zero_le _) (Nat.zero_le _) dX6_find_190 (by first | rfl | (rw [ry_who, hlm, hW]))
        · skip
          have nc61 : ¬ n ≤ j := fun q9 => c61 ((nI_leI (a := n) (b := j) (by omega) (by omega)).mpr q9)
          refine lv_aload_n hx hb dX6_find_64 rfl (lv_at hl 4 rfl) ?_
          refine bd_g_X6_this_0 C hR (by omega) qf_X6_3 dX6_find_65 ?_
          refine bd_gN_X7_skill C hR  (List.mem_of_getElem? (i := 16) rfl) dX6_find_68 ?_
          refine lv_iconst (v := 4) hx hb dX6_find_71 (by decide) ?_
          refine lv_iload hx hb dX6_find_72 (lv_at hl 0 rfl) ?_
          refine lv_imul hx hb dX6_find_74 ?_
          refine bd_ti (j := 4 * j) (pk_mul 4 j) ?_
          refine lv_iload_n hx hb dX6_find_75 rfl (lv_at hl 3 rfl) ?_
          refine lv_iadd hx hb dX6_find_76 ?_
          refine bd_ti (j := 4 * j + iw) (by rw [bd_ixn hW1, ← hW]) ?_
          refine bd_ld_13 C hR  (j := (4 * j + iw)) (by omega) dX6_find_77 ?_
          refine lv_istore (lv' := [(7, .int (ym 13 0 (4 * j + iw))), (6, .int (nI j)), (5, .int (ry_fi ym w b (z b) iw lm j)), (4, .int lm), (3, .int (ym 15 0 k)), (0, .ref (bd_ea E 18 w 0)), (1, .int (nI b)), (2, .int (nI k))]) hx hb dX6_find_78 hl (by decide) rfl (fun ls hl => ?_)
          refine lv_aload_n hx hb dX6_find_80 rfl (lv_at hl 5 rfl) ?_
          refine bd_g_X6_absent C hR (by omega) qf_X6_19 dX6_find_81 ?_
          refine lv_iload hx hb dX6_find_84 (lv_at hl 1 rfl) ?_
          refine bd_ld_20 C hR (by omega) (j := j) (by omega) dX6_find_86 ?_
          refine lv_if_gt (tgt := 182) hx hb dX6_find_87 (by decide) (fun c87 => ?_) (fun c87 => ?_)
          · skip
            refine lv_iinc (v := nI (j + 1)) (lv' := [(6, .int (nI (j + 1))), (7, .int (ym 13 0 (4 * j + iw))), (5, .int (ry_fi ym w b (z b) iw lm j)), (4, .int lm), (3, .int (ym 15 0 k)), (0, .ref (bd_ea E 18 w 0)), (1, .int (nI b)), (2, .int (nI k))]) hx hb dX6_find_182 hl (k := 1) rfl (nI_1 j) (by decide) rfl (fun ls hl => ?_)
            refine lv_goto (tgt := 52) hx hb dX6_find_185 (by decide) ?_
            exact ih1 (j + 1) (by omega) (by omega) _ _ (hR.eq rfl rfl) hS _ (by rw [show (ry_fi ym w b (z b) iw lm (j + 1) : Int32) = ry_fi ym w b (z b) iw lm j from (by first | (simp (config := { decide := true }) only [ry_fi, ry_th, eq_false c17, eq_false c61, eq_false nc61, eq_true c87, ↓reduceIte, not_true_eq_false, not_false_eq_true, and_self, and_true, true_and, and_false, false_and]; done) | rfl)]; exact lv_sub hl [0, 2, 3, 4, 5, 6, 7] rfl)
          · skip
            refine lv_aload_n hx hb dX6_find_90 rfl (lv_at hl 5 rfl) ?_
            refine bd_g_X6_times C hR (by omega) qf_X6_46 dX6_find_91 ?_
            refine lv_iload hx hb dX6_find_94 (lv_at hl 1 rfl) ?_
            refine bd_ld_29 C hR (by omega) (j := j) (by omega) dX6_find_96 ?_
            refine lv_iconst (v := 1) hx hb dX6_find_97 (by decide) ?_
            refine lv_icmp_gt (tgt := 182) hx hb dX6_find_98 (by decide) (fun c98 => ?_) (fun c98 => ?_)
            · skip
              refine lv_iinc (v := nI (j + 1)) (lv' := [(6, .int (nI (j + 1))), (7, .int (ym 13 0 (4 * j + iw))), (5, .int (ry_fi ym w b (z b) iw lm j)), (4, .int lm), (3, .int (ym 15 0 k)), (0, .ref (bd_ea E 18 w 0)), (1, .int (nI b)), (2, .int (nI k))]) hx hb dX6_find_182 hl (k := 1) rfl (nI_1 j) (by decide) rfl (fun ls hl => ?_)
              refine lv_goto (tgt := 52) hx hb dX6_find_185 (by decide) ?_
              exact ih1 (j + 1) (by omega) (by omega) _ _ (hR.eq rfl rfl) hS _ (by rw [show (ry_fi ym w b (z b) iw lm (j + 1) : Int32) = ry_fi ym w b (z b) iw lm j from (by first | (simp (config := { decide := true }) only [ry_fi, ry_th, eq_false c17, eq_false c61, eq_false nc61, eq_false c87, eq_true c98, ↓reduceIte, not_true_eq_false, not_false_eq_true, and_self, and_true, true_and, and_false, false_and]; done) | rfl)]; exact lv_sub hl [0, 2, 3, 4, 5, 6, 7] rfl)
            · skip
              refine lv_iload hx hb dX6_find_101 (lv_at hl 0 rfl) ?_
              refine lv_iload hx hb dX6_find_103 (lv_at hl 3 rfl) ?_
              refine lv_icmp_gt (tgt := 182) hx hb dX6_find_105 (by decide) (fun c105 => ?_) (fun c105 => ?_)
              · skip
                refine lv_iinc (v := nI (j + 1)) (lv' := [(6, .int (nI (j + 1))), (7, .int (ym 13 0 (4 * j + iw))), (5, .int (ry_fi ym w b (z b) iw lm j)), (4, .int lm), (3, .int (ym 15 0 k)), (0, .ref (bd_ea E 18 w 0)), (1, .int (nI b)), (2, .int (nI k))]) hx hb dX6_find_182 hl (k := 1) rfl (nI_1 j) (by decide) rfl (fun ls hl => ?_)
                refine lv_goto (tgt := 52) hx hb dX6_find_185 (by decide) ?_
                exact ih1 (j + 1) (by omega) (by omega) _ _ (hR.eq rfl rfl) hS _ (by rw [show (ry_fi ym w b (z b) iw lm (j + 1) : Int32) = ry_fi ym w b (z b) iw lm j from (by first | (simp (config := { decide := true }) only [ry_fi, ry_th, eq_false c17, eq_false c61, eq_false nc61, eq_false c87, eq_false c98, eq_true c105, ↓reduceIte, not_true_eq_false, not_false_eq_true, and_self, and_true, true_and, and_false, false_and]; done) | rfl)]; exact lv_sub hl [0, 2, 3, 4, 5, 6, 7] rfl)
              · skip
                refine lv_aload_n hx hb dX6_find_108 rfl (lv_at hl 5 rfl) ?_
                refine lv_iload_n hx hb dX6_find_109 rfl (lv_at hl 6 rfl) ?_
                refine lv_iload hx hb dX6_find_110 (lv_at hl 1 rfl) ?_
                refine bd_cV1 [.int (nI b), .int (nI j)] [] C (k_X6_sits l E xm ym om w n nb z b (nI j) (by omega) hy (by omega)) hR hS (bd_recv C.2 hR ⟨by decide, show w < 2 by omega, (by decide)⟩ rfl rfl) qm_X6_81 qi_X6_sits qs_X6_sits qz_X6 qc_X6_sits qp_X6_sits ⟨Nat.le_of_ble_eq_true rfl, Nat.le_of_ble_eq_true rfl⟩ hl.1 (Nat.le_of_ble_eq_true rfl) dX6_find_112 ⟨Nat.le_of_ble_eq_true rfl, Nat.le_of_ble_eq_true rfl⟩ (fun H locs hR hS hz112 => ?_)
                refine bd_ifeq (P := ry_in ym w b (nI j) (z b) = true) (tgt := 121) C dX6_find_115 (by decide) (fun c115 => ?_) (fun c115 => ?_)
                · skip
                  refine lv_iload hx hb dX6_find_121 (lv_at hl 2 rfl) ?_
                  refine lv_iconst (v := (-1)) hx hb dX6_find_123 (by decide) ?_
                  refine lv_icmp_ne (tgt := 131) hx hb dX6_find_124 (by decide) (fun c124 => ?_) (fun c124 => ?_)
                  · skip
                    obtain ⟨hB1, hB2⟩ := (ry_fi_mv (y := ym) (w := w) (b := b) (zb := z b) (W := iw) (lim := lm) hy24 j (by omega)).resolve_left c124
                    refine lv_aload_n hx hb dX6_find_131 rfl (lv_at hl 5 rfl) ?_
                    refine bd_g_X6_this_0 C hR (by omega) qf_X6_3 dX6_find_132 ?_
                    refine bd_gN_X7_skill C hR  (List.mem_of_getElem? (i := 16) rfl) dX6_find_135 ?_
                    refine lv_iconst (v := 4) hx hb dX6_find_138 (by decide) ?_
                    refine lv_iload hx hb dX6_find_139 (lv_at hl 2 rfl) ?_
                    refine lv_imul hx hb dX6_find_141 ?_
                    refine lv_iload_n hx hb dX6_find_142 rfl (lv_at hl 4 rfl) ?_
                    refine lv_iadd hx hb dX6_find_143 ?_
                    refine bd_ti (j := 4 * (ry_fi ym w b (z b) iw lm j).toNatClampNeg + iw) (by rw [bd_ix4 hB1 hW1, ← hW]) ?_
                    refine bd_ld_13 C hR  (j := (4 * (ry_fi ym w b (z b) iw lm j).toNatClampNeg + iw)) (by omega) dX6_find_144 ?_
                    refine lv_istore (lv' := [(8, .int (ym 13 0 (4 * (ry_fi ym w b (z b) iw lm j).toNatClampNeg + iw))), (7, .int (ym 13 0 (4 * j + iw))), (6, .int (nI j)), (5, .int (ry_fi ym w b (z b) iw lm j)), (4, .int lm), (3, .int (ym 15 0 k)), (0, .ref (bd_ea E 18 w 0)), (1, .int (nI b)), (2, .int (nI k))]) hx hb dX6_find_145 hl (by decide) rfl (fun ls hl => ?_)
                    refine lv_iload hx hb dX6_find_147 (lv_at hl 1 rfl) ?_
                    refine lv_iload hx hb dX6_find_149 (lv_at hl 0 rfl) ?_
                    refine lv_icmp_gt (tgt := 178) hx hb dX6_find_151 (by decide) (fun c151 => ?_) (fun c151 => ?_)
                    · skip
                      refine lv_iload hx hb dX6_find_178 (lv_at hl 2 rfl) ?_
                      refine lv_istore (lv' := [(5, .int (nI j)), (8, .int (ym 13 0 (4 * (ry_fi ym w b (z b) iw lm j).toNatClampNeg + iw))), (7, .int (ym 13 0 (4 * j + iw))), (6, .int (nI j)), (4, .int lm), (3, .int (ym 15 0 k)), (0, .ref (bd_ea E 18 w 0)), (1, .int (nI b)), (2, .int (nI k))]) hx hb dX6_find_180 hl (by decide) rfl (fun ls hl => ?_)
                      refine lv_iinc (v := nI (j + 1)) (lv' := [(6, .int (nI (j + 1))), (5, .int (nI j)), (8, .int (ym 13 0 (4 * (ry_fi ym w b (z b) iw lm j).toNatClampNeg + iw))), (7, .int (ym 13 0 (4 * j + iw))), (4, .int lm), (3, .int (ym 15 0 k)), (0, .ref (bd_ea E 18 w 0)), (1, .int (nI b)), (2, .int (nI k))]) hx hb dX6_find_182 hl (k := 3) rfl (nI_1 j) (by decide) rfl (fun ls hl => ?_)
                      refine lv_goto (tgt := 52) hx hb dX6_find_185 (by decide) ?_
                      exact ih1 (j + 1) (by omega) (by omega) _ _ (hR.eq rfl rfl) hS _ (by rw [show (ry_fi ym w b (z b) iw lm (j + 1) : Int32) = nI j from (by first | (simp (config := { decide := true }) only [ry_fi, ry_th, eq_false c17, eq_false c61, eq_false nc61, eq_false c87, eq_false c98, eq_false c105, eq_false c115, eq_false c124, eq_true c151, ↓reduceIte, not_true_eq_false, not_false_eq_true, and_self, and_true, true_and, and_false, false_and]; done) | rfl)]; exact lv_sub hl [0, 1, 4, 5, 6, 7, 8] rfl)
                    · skip
                      refine lv_iload hx hb dX6_find_154 (lv_at hl 1 rfl) ?_
                      refine lv_iload hx hb dX6_find_156 (lv_at hl 0 rfl) ?_
                      refine lv_icmp_ne (tgt := 182) hx hb dX6_find_158 (by decide) (fun c158 => ?_) (fun c158 => ?_)
                      · skip
                        refine lv_iinc (v := nI (j + 1)) (lv' := [(6, .int (nI (j + 1))), (8, .int (ym 13 0 (4 * (ry_fi ym w b (z b) iw lm j).toNatClampNeg + iw))), (7, .int (ym 13 0 (4 * j + iw))), (5, .int (ry_fi ym w b (z b) iw lm j)), (4, .int lm), (3, .int (ym 15 0 k)), (0, .ref (bd_ea E 18 w 0)), (1, .int (nI b)), (2, .int (nI k))]) hx hb dX6_find_182 hl (k := 2) rfl (nI_1 j) (by decide) rfl (fun ls hl => ?_)
                        refine lv_goto (tgt := 52) hx hb dX6_find_185 (by decide) ?_
                        exact ih1 (j + 1) (by omega) (by omega) _ _ (hR.eq rfl rfl) hS _ (by rw [show (ry_fi ym w b (z b) iw lm (j + 1) : Int32) = ry_fi ym w b (z b) iw lm j from (by first | (simp (config := { decide := true }) only [ry_fi, ry_th, eq_false c17, eq_false c61, eq_false nc61, eq_false c87, eq_false c98, eq_false c105, eq_false c115, eq_false c124, eq_false c151, eq_false c158, ↓reduceIte, not_true_eq_false, not_false_eq_true, and_self, and_true, true_and, and_false, false_and]; done) | rfl)]; exact lv_sub hl [0, 3, 4, 5, 6, 7, 8] rfl)
                      · skip
                        refine lv_aload_n hx hb dX6_find_161 rfl (lv_at hl 6 rfl) ?_
                        refine bd_g_X6_tired C hR (by omega) qf_X6_15 dX6_find_162 ?_
                        refine lv_iload hx hb dX6_find_165 (lv_at hl 2 rfl) ?_
                        refine bd_ld_19 C hR (by omega) (j := j) (by omega) dX6_find_167 ?_
                        refine lv_aload_n hx hb dX6_find_168 rfl (lv_at hl 6 rfl) ?_
                        refine bd_g_X6_tired C hR (by omega) qf_X6_15 dX6_find_169 ?_
                        refine lv_iload hx hb dX6_find_172 (lv_at hl 3 rfl) ?_
                        refine bd_ti (j := (ry_fi ym w b (z b) iw lm j).toNatClampNeg) (bd_tn hB1) ?_
                        refine bd_ld_19 C hR (by omega) (j := ((ry_fi ym w b (z b) iw lm j).toNatClampNeg)) (by omega) dX6_find_174 ?_
                        refine lv_icmp_ge (tgt := 182) hx hb dX6_find_175 (by decide) (fun c175 => ?_) (fun c175 => ?_)
                        · skip
                          refine lv_iinc (v := nI (j + 1)) (lv' := [(6, .int (nI (j + 1))), (8, .int (ym 13 0 (4 * (ry_fi ym w b (z b) iw lm j).toNatClampNeg + iw))), (7, .int (ym 13 0 (4 * j + iw))), (5, .int (ry_fi ym w b (z b) iw lm j)), (4, .int lm), (3, .int (ym 15 0 k)), (0, .ref (bd_ea E 18 w 0)), (1, .int (nI b)), (2, .int (nI k))]) hx hb dX6_find_182 hl (k := 2) rfl (nI_1 j) (by decide) rfl (fun ls hl => ?_)
                          refine lv_goto (tgt := 52) hx hb dX6_find_185 (by decide) ?_
                          exact ih1 (j + 1) (by omega) (by omega) _ _ (hR.eq rfl rfl) hS _ (by rw [show (ry_fi ym w b (z b) iw lm (j + 1) : Int32) = ry_fi ym w b (z b) iw lm j from (by first | (simp (config := { decide := true }) only [ry_fi, ry_th, eq_false c17, eq_false c61, eq_false nc61, eq_false c87, eq_false c98, eq_false c105, eq_false c115, eq_false c124, eq_false c151, eq_true c158, eq_true c175, ↓reduceIte, not_true_eq_false, not_false_eq_true, and_self, and_true, true_and, and_false, false_and]; done) | rfl)]; exact lv_sub hl [0, 3, 4, 5, 6, 7, 8] rfl)
                        · skip
                          refine lv_iload hx hb dX6_find_178 (lv_at hl 2 rfl) ?_
                          refine lv_istore (lv' := [(5, .int (nI j)), (8, .int (ym 13 0 (4 * (ry_fi ym w b (z b) iw lm j).toNatClampNeg + iw))), (7, .int (ym 13 0 (4 * j + iw))), (6, .int (nI j)), (4, .int lm), (3, .int (ym 15 0 k)), (0, .ref (bd_ea E 18 w 0)), (1, .int (nI b)), (2, .int (nI k))]) hx hb dX6_find_180 hl (by decide) rfl (fun ls hl => ?_)
                          refine lv_iinc (v := nI (j + 1)) (lv' := [(6, .int (nI (j + 1))), (5, .int (nI j)), (8, .int (ym 13 0 (4 * (ry_fi ym w b (z b) iw lm j).toNatClampNeg + iw))), (7, .int (ym 13 0 (4 * j + iw))), (4, .int lm), (3, .int (ym 15 0 k)), (0, .ref (bd_ea E 18 w 0)), (1, .int (nI b)), (2, .int (nI k))]) hx hb dX6_find_182 hl (k := 3) rfl (nI_1 j) (by decide) rfl (fun ls hl => ?_)
                          refine lv_goto (tgt := 52) hx hb dX6_find_185 (by decide) ?_
                          exact ih1 (j + 1) (by omega) (by omega) _ _ (hR.eq rfl rfl) hS _ (by rw [show (ry_fi ym w b (z b) iw lm (j + 1) : Int32) = nI j from (by first | (simp (config := { decide := true }) only [ry_fi, ry_th, eq_false c17, eq_false c61, eq_false nc61, eq_false c87, eq_false c98, eq_false c105, eq_false c115, eq_false c124, eq_false c151, eq_true c158, eq_false c175, ↓reduceIte, not_true_eq_false, not_false_eq_true, and_self, and_true, true_and, and_false, false_and]; done) | rfl)]; exact lv_sub hl [0, 1, 4, 5, 6, 7, 8] rfl)
                  · skip
                    refine lv_iconst (v := (-1)) hx hb dX6_find_127 (by decide) ?_
                    refine lv_goto (tgt := 145) hx hb dX6_find_128 (by decide) ?_
                    refine lv_istore (lv' := [(8, .int (-1)), (7, .int (ym 13 0 (4 * j + iw))), (6, .int (nI j)), (5, .int (ry_fi ym w b (z b) iw lm j)), (4, .int lm), (3, .int (ym 15 0 k)), (0, .ref (bd_ea E 18 w 0)), (1, .int (nI b)), (2, .int (nI k))]) hx hb dX6_find_145 hl (by decide) rfl (fun ls hl => ?_)
                    refine lv_iload hx hb dX6_find_147 (lv_at hl 1 rfl) ?_
                    refine lv_iload hx hb dX6_find_149 (lv_at hl 0 rfl) ?_
                    refine lv_icmp_gt (tgt := 178) hx hb dX6_find_151 (by decide) (fun c151 => ?_) (fun c151 => ?_)
                    · skip
                      refine lv_iload hx hb dX6_find_178 (lv_at hl 2 rfl) ?_
                      refine lv_istore (lv' := [(5, .int (nI j)), (8, .int (-1)), (7, .int (ym 13 0 (4 * j + iw))), (6, .int (nI j)), (4, .int lm), (3, .int (ym 15 0 k)), (0, .ref (bd_ea E 18 w 0)), (1, .int (nI b)), (2, .int (nI k))]) hx hb dX6_find_180 hl (by decide) rfl (fun ls hl => ?_)
                      refine lv_iinc (v := nI (j + 1)) (lv' := [(6, .int (nI (j + 1))), (5, .int (nI j)), (8, .int (-1)), (7, .int (ym 13 0 (4 * j + iw))), (4, .int lm), (3, .int (ym 15 0 k)), (0, .ref (bd_ea E 18 w 0)), (1, .int (nI b)), (2, .int (nI k))]) hx hb dX6_find_182 hl (k := 3) rfl (nI_1 j) (by decide) rfl (fun ls hl => ?_)
                      refine lv_goto (tgt := 52) hx hb dX6_find_185 (by decide) ?_
                      exact ih1 (j + 1) (by omega) (by omega) _ _ (hR.eq rfl rfl) hS _ (by rw [show (ry_fi ym w b (z b) iw lm (j + 1) : Int32) = nI j from (by first | (simp (config := { decide := true }) only [ry_fi, ry_th, eq_false c17, eq_false c61, eq_false nc61, eq_false c87, eq_false c98, eq_false c105, eq_false c115, eq_true c124, eq_true c151, ↓reduceIte, not_true_eq_false, not_false_eq_true, and_self, and_true, true_and, and_false, false_and]; done) | rfl)]; exact lv_sub hl [0, 1, 4, 5, 6, 7, 8] rfl)
                    · exact absurd (bd_m1lt (hown (by omega))) c151
                · skip
                  refine lv_goto (tgt := 182) hx hb dX6_find_118 (by decide) ?_
                  refine lv_iinc (v := nI (j + 1)) (lv' := [(6, .int (nI (j + 1))), (7, .int (ym 13 0 (4 * j + iw))), (5, .int (ry_fi ym w b (z b) iw lm j)), (4, .int lm), (3, .int (ym 15 0 k)), (0, .ref (bd_ea E 18 w 0)), (1, .int (nI b)), (2, .int (nI k))]) hx hb dX6_find_182 hl (k := 1) rfl (nI_1 j) (by decide) rfl (fun ls hl => ?_)
                  refine lv_goto (tgt := 52) hx hb dX6_find_185 (by decide) ?_
                  exact ih1 (j + 1) (by omega) (by omega) _ _ (hR.eq rfl rfl) hS _ (by rw [show (ry_fi ym w b (z b) iw lm (j + 1) : Int32) = ry_fi ym w b (z b) iw lm j from (by first | (simp (config := { decide := true }) only [ry_fi, ry_th, eq_false c17, eq_false c61, eq_false nc61, eq_false c87, eq_false c98, eq_false c105, eq_true c115, ↓reduceIte, not_true_eq_false, not_false_eq_true, and_self, and_true, true_and, and_false, false_and]; done) | rfl)]; exact lv_sub hl [0, 2, 3, 4, 5, 6, 7] rfl)
    exact lp1 (n + 1) 0 (by omega) (by omega) _ _ (hR.eq rfl rfl) hS _ (by first | exact lv_sub hl [0, 1, 2, 3, 4, 5, 6] rfl | (rw [show (nI 0 : Int32) = 0 from by first | rfl | decide | simp [nI_0]]; rw [show (ry_fi ym w b (z b) iw lm 0 : Int32) = (-1) from by first | rfl | decide | simp [nI_0]]; exact lv_sub hl [0, 1, 2, 3, 4, 5, 6] rfl))
  · skip
    refine lv_iconst (v := 5) hx hb dX6_find_20 (by decide) ?_
    refine lv_goto (tgt := 44) hx hb dX6_find_21 (by decide) ?_
    rw [show (5 : Int32) = lm by rw [hlm, ry_lim, if_pos c17]]
    refine lv_istore (lv' := [(4, .int lm), (3, .int (ym 15 0 k)), (0, .ref (bd_ea E 18 w 0)), (1, .int (nI b)), (2, .int (nI k))]) hx hb dX6_find_44 hl (by decide) rfl (fun ls hl => ?_)
    refine lv_iconst (v := (-1)) hx hb dX6_find_46 (by decide) ?_
    refine lv_istore (lv' := [(5, .int (-1)), (4, .int lm), (3, .int (ym 15 0 k)), (0, .ref (bd_ea E 18 w 0)), (1, .int (nI b)), (2, .int (nI k))]) hx hb dX6_find_47 hl (by decide) rfl (fun ls hl => ?_)
    refine lv_iconst (v := 0) hx hb dX6_find_49 (by decide) ?_
    refine lv_istore (lv' := [(6, .int 0), (5, .int (-1)), (4, .int lm), (3, .int (ym 15 0 k)), (0, .ref (bd_ea E 18 w 0)), (1, .int (nI b)), (2, .int (nI k))]) hx hb dX6_find_50 hl (by decide) rfl (fun ls hl => ?_)
    have lp2 : ∀ (t2 j : Nat), j ≤ n → n - j < t2 → ∀ (H : Heap) (locs : List Loc), bd_Rep E xm ym om H → va_S (bd_A E) s.heap H locs → ∀ (ls : Array Slot), lv_has ls 9 [(6, .int (nI j)), (5, .int (ry_fi ym w b (z b) iw lm j)), (4, .int lm), (3, .int (ym 15 0 k)), (0, .ref (bd_ea E 18 w 0)), (1, .int (nI b)), (2, .int (nI k))] → W p l e { frames := 1, cells := 0, slots := 0, locals := 24 } s m args below meth c H locs 0 0 (MQ below (bd_Q E xm ym om (some (.int (ry_who ym w n b (z b) k)))) args s 0 0 (bd_A E)) (F0 m 52 ls []) := by
      intro t2
      induction t2 with
      | zero => intro j h1 h2; exact absurd h2 (Nat.not_lt_zero _)
      | succ t2 ih2 =>
        intro j hj1 hj2 H locs hR hS ls hl
        have hown := hy.2.2.2.2.2.2 (4 * j + iw)
        refine lv_iload hx hb dX6_find_52 (lv_at hl 0 rfl) ?_
        refine lv_aload_n hx hb dX6_find_54 rfl (lv_at hl 4 rfl) ?_
        refine bd_g_X6_this_0 C hR (by omega) qf_X6_3 dX6_find_55 ?_
        refine bd_gN_X7_players C hR  (List.mem_of_getElem? (i := 17) rfl) dX6_find_58 ?_
        rw [show ym 1 0 0 = nI n from (show ry_Sh ym n nb z from hy).1]
        refine lv_icmp_ge (tgt := 188) hx hb dX6_find_61 (by decide) (fun c61 => ?_) (fun c61 => ?_)
        · skip
          have nc61 : n ≤ j := (nI_leI (a := n) (b := j) (by omega) (by omega)).mp c61
          obtain rfl : n = j := by omega
          refine lv_iload hx hb dX6_find_188 (lv_at hl 1 rfl) ?_
          exact bd_ri C hr hlk (hR.eq rfl rfl) hS (Nat.zero_le _) (Nat.zero_le _) dX6_find_190 (by first | rfl | (rw [ry_who, hlm, hW]))
        · skip
          have nc61 : ¬ n ≤ j := fun q9 => c61 ((nI_leI (a := n) (b := j) (by omega) (by omega)).mpr q9)
          refine lv_aload_n hx hb dX6_find_64 rfl (lv_at hl 4 rfl) ?_
          refine bd_g_X6_this_0 C hR (by omega) qf_X6_3 dX6_find_65 ?_
          refine bd_gN_X7_skill C hR  (List.mem_of_getElem? (i := 16) rfl) dX6_find_68 ?_
          refine lv_iconst (v := 4) hx hb dX6_find_71 (by decide) ?_
          refine lv_iload hx hb dX6_find_72 (lv_at hl 0 rfl) ?_
          refine lv_imul hx hb dX6_find_74 ?_
          refine bd_ti (j := 4 * j) (pk_mul 4 j) ?_
          refine lv_iload_n hx hb dX6_find_75 rfl (lv_at hl 3 rfl) ?_
          refine lv_iadd hx hb dX6_find_76 ?_
          refine bd_ti (j := 4 * j + iw) (by rw [bd_ixn hW1, ← hW]) ?_
          refine bd_ld_13 C hR  (j := (4 * j + iw)) (by omega) dX6_find_77 ?_
          refine lv_istore (lv' := [(7, .int (ym 13 0 (4 * j + iw))), (6, .int (nI j)), (5, .int (ry_fi ym w b (z b) iw lm j)), (4, .int lm), (3, .int (ym 15 0 k)), (0, .ref (bd_ea E 18 w 0)), (1, .int (nI b)), (2, .int (nI k))]) hx hb dX6_find_78 hl (by decide) rfl (fun ls hl => ?_)
          refine lv_aload_n hx hb dX6_find_80 rfl (lv_at hl 5 rfl) ?_
          refine bd_g_X6_absent C hR (by omega) qf_X6_19 dX6_find_81 ?_
          refine lv_iload hx hb dX6_find_84 (lv_at hl 1 rfl) ?_
          refine bd_ld_20 C hR (by omega) (j := j) (by omega) dX6_find_86 ?_
          refine lv_if_gt (tgt := 182) hx hb dX6_find_87 (by decide) (fun c87 => ?_) (fun c87 => ?_)
          · skip
            refine lv_iinc (v := nI (j + 1)) (lv' := [(6, .int (nI (j + 1))), (7, .int (ym 13 0 (4 * j + iw))), (5, .int (ry_fi ym w b (z b) iw lm j)), (4, .int lm), (3, .int (ym 15 0 k)), (0, .ref (bd_ea E 18 w 0)), (1, .int (nI b)), (2, .int (nI k))]) hx hb dX6_find_182 hl (k := 1) rfl (nI_1 j) (by decide) rfl (fun ls hl => ?_)
            refine lv_goto (tgt := 52) hx hb dX6_find_185 (by decide) ?_
            exact ih2 (j + 1) (by omega) (by omega) _ _ (hR.eq rfl rfl) hS _ (by rw [show (ry_fi ym w b (z b) iw lm (j + 1) : Int32) = ry_fi ym w b (z b) iw lm j from (by first | (simp (config := { decide := true }) only [ry_fi, ry_th, eq_true c17, eq_false c61, eq_false nc61, eq_true c87, ↓reduceIte, not_true_eq_false, not_false_eq_true, and_self, and_true, true_and, and_false, false_and]; done) | rfl)]; exact lv_sub hl [0, 2, 3, 4, 5, 6, 7] rfl)
          · skip
            refine lv_aload_n hx hb dX6_find_90 rfl (lv_at hl 5 rfl) ?_
            refine bd_g_X6_times C hR (by omega) qf_X6_46 dX6_find_91 ?_
            refine lv_iload hx hb dX6_find_94 (lv_at hl 1 rfl) ?_
            refine bd_ld_29 C hR (by omega) (j := j) (by omega) dX6_find_96 ?_
            refine lv_iconst (v := 1) hx hb dX6_find_97 (by decide) ?_
            refine lv_icmp_gt (tgt := 182) hx hb dX6_find_98 (by decide) (fun c98 => ?_) (fun c98 => ?_)
            · skip
              refine lv_iinc (v := nI (j + 1)) (lv' := [(6, .int (nI (j + 1))), (7, .int (ym 13 0 (4 * j + iw))), (5, .int (ry_fi ym w b (z b) iw lm j)), (4, .int lm), (3, .int (ym 15 0 k)), (0, .ref (bd_ea E 18 w 0)), (1, .int (nI b)), (2, .int (nI k))]) hx hb dX6_find_182 hl (k := 1) rfl (nI_1 j) (by decide) rfl (fun ls hl => ?_)
              refine lv_goto (tgt := 52) hx hb dX6_find_185 (by decide) ?_
              exact ih2 (j + 1) (by omega) (by omega) _ _ (hR.eq rfl rfl) hS _ (by rw [show (ry_fi ym w b (z b) iw lm (j + 1) : Int32) = ry_fi ym w b (z b) iw lm j from (by first | (simp (config := { decide := true }) only [ry_fi, ry_th, eq_true c17, eq_false c61, eq_false nc61, eq_false c87, eq_true c98, ↓reduceIte, not_true_eq_false, not_false_eq_true, and_self, and_true, true_and, and_false, false_and]; done) | rfl)]; exact lv_sub hl [0, 2, 3, 4, 5, 6, 7] rfl)
            · skip
              refine lv_iload hx hb dX6_find_101 (lv_at hl 0 rfl) ?_
              refine lv_iload hx hb dX6_find_103 (lv_at hl 3 rfl) ?_
              refine lv_icmp_gt (tgt := 182) hx hb dX6_find_105 (by decide) (fun c105 => ?_) (fun c105 => ?_)
              · skip
                refine lv_iinc (v := nI (j + 1)) (lv' := [(6, .int (nI (j + 1))), (7, .int (ym 13 0 (4 * j + iw))), (5, .int (ry_fi ym w b (z b) iw lm j)), (4, .int lm), (3, .int (ym 15 0 k)), (0, .ref (bd_ea E 18 w 0)), (1, .int (nI b)), (2, .int (nI k))]) hx hb dX6_find_182 hl (k := 1) rfl (nI_1 j) (by decide) rfl (fun ls hl => ?_)
                refine lv_goto (tgt := 52) hx hb dX6_find_185 (by decide) ?_
                exact ih2 (j + 1) (by omega) (by omega) _ _ (hR.eq rfl rfl) hS _ (by rw [show (ry_fi ym w b (z b) iw lm (j + 1) : Int32) = ry_fi ym w b (z b) iw lm j from (by first | (simp (config := { decide := true }) only [ry_fi, ry_th, eq_true c17, eq_false c61, eq_false nc61, eq_false c87, eq_false c98, eq_true c105, ↓reduceIte, not_true_eq_false, not_false_eq_true, and_self, and_true, true_and, and_false, false_and]; done) | rfl)]; exact lv_sub hl [0, 2, 3, 4, 5, 6, 7] rfl)
              · skip
                refine lv_aload_n hx hb dX6_find_108 rfl (lv_at hl 5 rfl) ?_
                refine lv_iload_n hx hb dX6_find_109 rfl (lv_at hl 6 rfl) ?_
                refine lv_iload hx hb dX6_find_110 (lv_at hl 1 rfl) ?_
                refine bd_cV1 [.int (nI b), .int (nI j)] [] C (k_X6_sits l E xm ym om w n nb z b (nI j) (by omega) hy (by omega)) hR hS (bd_recv C.2 hR ⟨by decide, show w < 2 by omega, (by decide)⟩ rfl rfl) qm_X6_81 qi_X6_sits qs_X6_sits qz_X6 qc_X6_sits qp_X6_sits ⟨Nat.le_of_ble_eq_true rfl, Nat.le_of_ble_eq_true rfl⟩ hl.1 (Nat.le_of_ble_eq_true rfl) dX6_find_112 ⟨Nat.le_of_ble_eq_true rfl, Nat.le_of_ble_eq_true rfl⟩ (fun H locs hR hS hz112 => ?_)
                refine bd_ifeq (P := ry_in ym w b (nI j) (z b) = true) (tgt := 121) C dX6_find_115 (by decide) (fun c115 => ?_) (fun c115 => ?_)
                · skip
                  refine lv_iload hx hb dX6_find_121 (lv_at hl 2 rfl) ?_
                  refine lv_iconst (v := (-1)) hx hb dX6_find_123 (by decide) ?_
                  refine lv_icmp_ne (tgt := 131) hx hb dX6_find_124 (by decide) (fun c124 => ?_) (fun c124 => ?_)
                  · skip
                    obtain ⟨hB1, hB2⟩ := (ry_fi_mv (y := ym) (w := w) (b := b) (zb := z b) (W := iw) (lim := lm) hy24 j (by omega)).resolve_left c124
                    refine lv_aload_n hx hb dX6_find_131 rfl (lv_at hl 5 rfl) ?_
                    refine bd_g_X6_this_0 C hR (by omega) qf_X6_3 dX6_find_132 ?_
                    refine bd_gN_X7_skill C hR  (List.mem_of_getElem? (i := 16) rfl) dX6_find_135 ?_
                    refine lv_iconst (v := 4) hx hb dX6_find_138 (by decide) ?_
                    refine lv_iload hx hb dX6_find_139 (lv_at hl 2 rfl) ?_
                    refine lv_imul hx hb dX6_find_141 ?_
                    refine lv_iload_n hx hb dX6_find_142 rfl (lv_at hl 4 rfl) ?_
                    refine lv_iadd hx hb dX6_find_143 ?_
                    refine bd_ti (j := 4 * (ry_fi ym w b (z b) iw lm j).toNatClampNeg + iw) (by rw [bd_ix4 hB1 hW1, ← hW]) ?_
                    refine bd_ld_13 C hR  (j := (4 * (ry_fi ym w b (z b) iw lm j).toNatClampNeg + iw)) (by omega) dX6_find_144 ?_
                    refine lv_istore (lv' := [(8, .int (ym 13 0 (4 * (ry_fi ym w b (z b) iw lm j).toNatClampNeg + iw))), (7, .int (ym 13 0 (4 * j + iw))), (6, .int (nI j)), (5, .int (ry_fi ym w b (z b) iw lm j)), (4, .int lm), (3, .int (ym 15 0 k)), (0, .ref (bd_ea E 18 w 0)), (1, .int (nI b)), (2, .int (nI k))]) hx hb dX6_find_145 hl (by decide) rfl (fun ls hl => ?_)
                    refine lv_iload hx hb dX6_find_147 (lv_at hl 1 rfl) ?_
                    refine lv_iload hx hb dX6_find_149 (lv_at hl 0 rfl) ?_
                    refine lv_icmp_gt (tgt := 178) hx hb dX6_find_151 (by decide) (fun c151 => ?_) (fun c151 => ?_)
                    · skip
                      refine lv_iload hx hb dX6_find_178 (lv_at hl 2 rfl) ?_
                      refine lv_istore (lv' := [(5, .int (nI j)), (8, .int (ym 13 0 (4 * (ry_fi ym w b (z b) iw lm j).toNatClampNeg + iw))), (7, .int (ym 13 0 (4 * j + iw))), (6, .int (nI j)), (4, .int lm), (3, .int (ym 15 0 k)), (0, .ref (bd_ea E 18 w 0)), (1, .int (nI b)), (2, .int (nI k))]) hx hb dX6_find_180 hl (by decide) rfl (fun ls hl => ?_)
                      refine lv_iinc (v := nI (j + 1)) (lv' := [(6, .int (nI (j + 1))), (5, .int (nI j)), (8, .int (ym 13 0 (4 * (ry_fi ym w b (z b) iw lm j).toNatClampNeg + iw))), (7, .int (ym 13 0 (4 * j + iw))), (4, .int lm), (3, .int (ym 15 0 k)), (0, .ref (bd_ea E 18 w 0)), (1, .int (nI b)), (2, .int (nI k))]) hx hb dX6_find_182 hl (k := 3) rfl (nI_1 j) (by decide) rfl (fun ls hl => ?_)
                      refine lv_goto (tgt := 52) hx hb dX6_find_185 (by decide) ?_
                      exact ih2 (j + 1) (by omega) (by omega) _ _ (hR.eq rfl rfl) hS _ (by rw [show (ry_fi ym w b (z b) iw lm (j + 1) : Int32) = nI j from (by first | (simp (config := { decide := true }) only [ry_fi, ry_th, eq_true c17, eq_false c61, eq_false nc61, eq_false c87, eq_false c98, eq_false c105, eq_false c115, eq_false c124, eq_true c151, ↓reduceIte, not_true_eq_false, not_false_eq_true, and_self, and_true, true_and, and_false, false_and]; done) | rfl)]; exact lv_sub hl [0, 1, 4, 5, 6, 7, 8] rfl)
                    · skip
                      refine lv_iload hx hb dX6_find_154 (lv_at hl 1 rfl) ?_
                      refine lv_iload hx hb dX6_find_156 (lv_at hl 0 rfl) ?_
                      refine lv_icmp_ne (tgt := 182) hx hb dX6_find_158 (by decide) (fun c158 => ?_) (fun c158 => ?_)
                      · skip
                        refine lv_iinc (v := nI (j + 1)) (lv' := [(6, .int (nI (j + 1))), (8, .int (ym 13 0 (4 * (ry_fi ym w b (z b) iw lm j).toNatClampNeg + iw))), (7, .int (ym 13 0 (4 * j + iw))), (5, .int (ry_fi ym w b (z b) iw lm j)), (4, .int lm), (3, .int (ym 15 0 k)), (0, .ref (bd_ea E 18 w 0)), (1, .int (nI b)), (2, .int (nI k))]) hx hb dX6_find_182 hl (k := 2) rfl (nI_1 j) (by decide) rfl (fun ls hl => ?_)
                        refine lv_goto (tgt := 52) hx hb dX6_find_185 (by decide) ?_
                        exact ih2 (j + 1) (by omega) (by omega) _ _ (hR.eq rfl rfl) hS _ (by rw [show (ry_fi ym w b (z b) iw lm (j + 1) : Int32) = ry_fi ym w b (z b) iw lm j from (by first | (simp (config := { decide := true }) only [ry_fi, ry_th, eq_true c17, eq_false c61, eq_false nc61, eq_false c87, eq_false c98, eq_false c105, eq_false c115, eq_false c124, eq_false c151, eq_false c158, ↓reduceIte, not_true_eq_false, not_false_eq_true, and_self, and_true, true_and, and_false, false_and]; done) | rfl)]; exact lv_sub hl [0, 3, 4, 5, 6, 7, 8] rfl)
                      · skip
                        refine lv_aload_n hx hb dX6_find_161 rfl (lv_at hl 6 rfl) ?_
                        refine bd_g_X6_tired C hR (by omega) qf_X6_15 dX6_find_162 ?_
                        refine lv_iload hx hb dX6_find_165 (lv_at hl 2 rfl) ?_
                        refine bd_ld_19 C hR (by omega) (j := j) (by omega) dX6_find_167 ?_
                        refine lv_aload_n hx hb dX6_find_168 rfl (lv_at hl 6 rfl) ?_
                        refine bd_g_X6_tired C hR (by omega) qf_X6_15 dX6_find_169 ?_
                        refine lv_iload hx hb dX6_find_172 (lv_at hl 3 rfl) ?_
                        refine bd_ti (j := (ry_fi ym w b (z b) iw lm j).toNatClampNeg) (bd_tn hB1) ?_
                        refine bd_ld_19 C hR (by omega) (j := ((ry_fi ym w b (z b) iw lm j).toNatClampNeg)) (by omega) dX6_find_174 ?_
                        refine lv_icmp_ge (tgt := 182) hx hb dX6_find_175 (by decide) (fun c175 => ?_) (fun c175 => ?_)
                        · skip
                          refine lv_iinc (v := nI (j + 1)) (lv' := [(6, .int (nI (j + 1))), (8, .int (ym 13 0 (4 * (ry_fi ym w b (z b) iw lm j).toNatClampNeg + iw))), (7, .int (ym 13 0 (4 * j + iw))), (5, .int (ry_fi ym w b (z b) iw lm j)), (4, .int lm), (3, .int (ym 15 0 k)), (0, .ref (bd_ea E 18 w 0)), (1, .int (nI b)), (2, .int (nI k))]) hx hb dX6_find_182 hl (k := 2) rfl (nI_1 j) (by decide) rfl (fun ls hl => ?_)
                          refine lv_goto (tgt := 52) hx hb dX6_find_185 (by decide) ?_
                          exact ih2 (j + 1) (by omega) (by omega) _ _ (hR.eq rfl rfl) hS _ (by rw [show (ry_fi ym w b (z b) iw lm (j + 1) : Int32) = ry_fi ym w b (z b) iw lm j from (by first | (simp (config := { decide := true }) only [ry_fi, ry_th, eq_true c17, eq_false c61, eq_false nc61, eq_false c87, eq_false c98, eq_false c105, eq_false c115, eq_false c124, eq_false c151, eq_true c158, eq_true c175, ↓reduceIte, not_true_eq_false, not_false_eq_true, and_self, and_true, true_and, and_false, false_and]; done) | rfl)]; exact lv_sub hl [0, 3, 4, 5, 6, 7, 8] rfl)
                        · skip
                          refine lv_iload hx hb dX6_find_178 (lv_at hl 2 rfl) ?_
                          refine lv_istore (lv' := [(5, .int (nI j)), (8, .int (ym 13 0 (4 * (ry_fi ym w b (z b) iw lm j).toNatClampNeg + iw))), (7, .int (ym 13 0 (4 * j + iw))), (6, .int (nI j)), (4, .int lm), (3, .int (ym 15 0 k)), (0, .ref (bd_ea E 18 w 0)), (1, .int (nI b)), (2, .int (nI k))]) hx hb dX6_find_180 hl (by decide) rfl (fun ls hl => ?_)
                          refine lv_iinc (v := nI (j + 1)) (lv' := [(6, .int (nI (j + 1))), (5, .int (nI j)), (8, .int (ym 13 0 (4 * (ry_fi ym w b (z b) iw lm j).toNatClampNeg + iw))), (7, .int (ym 13 0 (4 * j + iw))), (4, .int lm), (3, .int (ym 15 0 k)), (0, .ref (bd_ea E 18 w 0)), (1, .int (nI b)), (2, .int (nI k))]) hx hb dX6_find_182 hl (k := 3) rfl (nI_1 j) (by decide) rfl (fun ls hl => ?_)
                          refine lv_goto (tgt := 52) hx hb dX6_find_185 (by decide) ?_
                          exact ih2 (j + 1) (by omega) (by omega) _ _ (hR.eq rfl rfl) hS _ (by rw [show (ry_fi ym w b (z b) iw lm (j + 1) : Int32) = nI j from (by first | (simp (config := { decide := true }) only [ry_fi, ry_th, eq_true c17, eq_false c61, eq_false nc61, eq_false c87, eq_false c98, eq_false c105, eq_false c115, eq_false c124, eq_false c151, eq_true c158, eq_false c175, ↓reduceIte, not_true_eq_false, not_false_eq_true, and_self, and_true, true_and, and_false, false_and]; done) | rfl)]; exact lv_sub hl [0, 1, 4, 5, 6, 7, 8] rfl)
                  · skip
                    refine lv_iconst (v := (-1)) hx hb dX6_find_127 (by decide) ?_
                    refine lv_goto (tgt := 145) hx hb dX6_find_128 (by decide) ?_
                    refine lv_istore (lv' := [(8, .int (-1)), (7, .int (ym 13 0 (4 * j + iw))), (6, .int (nI j)), (5, .int (ry_fi ym w b (z b) iw lm j)), (4, .int lm), (3, .int (ym 15 0 k)), (0, .ref (bd_ea E 18 w 0)), (1, .int (nI b)), (2, .int (nI k))]) hx hb dX6_find_145 hl (by decide) rfl (fun ls hl => ?_)
                    refine lv_iload hx hb dX6_find_147 (lv_at hl 1 rfl) ?_
                    refine lv_iload hx hb dX6_find_149 (lv_at hl 0 rfl) ?_
                    refine lv_icmp_gt (tgt := 178) hx hb dX6_find_151 (by decide) (fun c151 => ?_) (fun c151 => ?_)
                    · skip
                      refine lv_iload hx hb dX6_find_178 (lv_at hl 2 rfl) ?_
                      refine lv_istore (lv' := [(5, .int (nI j)), (8, .int (-1)), (7, .int (ym 13 0 (4 * j + iw))), (6, .int (nI j)), (4, .int lm), (3, .int (ym 15 0 k)), (0, .ref (bd_ea E 18 w 0)), (1, .int (nI b)), (2, .int (nI k))]) hx hb dX6_find_180 hl (by decide) rfl (fun ls hl => ?_)
                      refine lv_iinc (v := nI (j + 1)) (lv' := [(6, .int (nI (j + 1))), (5, .int (nI j)), (8, .int (-1)), (7, .int (ym 13 0 (4 * j + iw))), (4, .int lm), (3, .int (ym 15 0 k)), (0, .ref (bd_ea E 18 w 0)), (1, .int (nI b)), (2, .int (nI k))]) hx hb dX6_find_182 hl (k := 3) rfl (nI_1 j) (by decide) rfl (fun ls hl => ?_)
                      refine lv_goto (tgt := 52) hx hb dX6_find_185 (by decide) ?_
                      exact ih2 (j + 1) (by omega) (by omega) _ _ (hR.eq rfl rfl) hS _ (by rw [show (ry_fi ym w b (z b) iw lm (j + 1) : Int32) = nI j from (by first | (simp (config := { decide := true }) only [ry_fi, ry_th, eq_true c17, eq_false c61, eq_false nc61, eq_false c87, eq_false c98, eq_false c105, eq_false c115, eq_true c124, eq_true c151, ↓reduceIte, not_true_eq_false, not_false_eq_true, and_self, and_true, true_and, and_false, false_and]; done) | rfl)]; exact lv_sub hl [0, 1, 4, 5, 6, 7, 8] rfl)
                    · exact absurd (bd_m1lt (hown (by omega))) c151
                · skip
                  refine lv_goto (tgt := 182) hx hb dX6_find_118 (by decide) ?_
                  refine lv_iinc (v := nI (j + 1)) (lv' := [(6, .int (nI (j + 1))), (7, .int (ym 13 0 (4 * j + iw))), (5, .int (ry_fi ym w b (z b) iw lm j)), (4, .int lm), (3, .int (ym 15 0 k)), (0, .ref (bd_ea E 18 w 0)), (1, .int (nI b)), (2, .int (nI k))]) hx hb dX6_find_182 hl (k := 1) rfl (nI_1 j) (by decide) rfl (fun ls hl => ?_)
                  refine lv_goto (tgt := 52) hx hb dX6_find_185 (by decide) ?_
                  exact ih2 (j + 1) (by omega) (by omega) _ _ (hR.eq rfl rfl) hS _ (by rw [show (ry_fi ym w b (z b) iw lm (j + 1) : Int32) = ry_fi ym w b (z b) iw lm j from (by first | (simp (config := { decide := true }) only [ry_fi, ry_th, eq_true c17, eq_false c61, eq_false nc61, eq_false c87, eq_false c98, eq_false c105, eq_true c115, ↓reduceIte, not_true_eq_false, not_false_eq_true, and_self, and_true, true_and, and_false, false_and]; done) | rfl)]; exact lv_sub hl [0, 2, 3, 4, 5, 6, 7] rfl)
    exact lp2 (n + 1) 0 (by omega) (by omega) _ _ (hR.eq rfl rfl) hS _ (by first | exact lv_sub hl [0, 1, 2, 3, 4, 5, 6] rfl | (rw [show (nI 0 : Int32) = 0 from by first | rfl | decide | simp [nI_0]]; rw [show (ry_fi ym w b (z b) iw lm 0 : Int32) = (-1) from by first | rfl | decide | simp [nI_0]]; exact lv_sub hl [0, 1, 2, 3, 4, 5, 6] rfl))
set_option maxHeartbeats 4000000 in
set_option maxRecDepth 100000 in
theorem k_X6_seatOf (l : Launch) (E : bd_E) (xm ym : bd_M) (om : Nat → Int64) (w : Nat) (n : Nat) (nb : Nat) (z : (Nat→Nat)) (v : Int32) (hw : w < 2) (hy : ry_Sh ym n nb z) : bd_Ct l yX6_seatOf cX6_seatOf 3 (some .int) 0 0 0 0 E [.ref (bd_ea E 18 w 0), .int v] xm ym om xm ym om (some (.int (ry_so ym w nb z v 48 0))) := by
  refine bd_open RX6 rfl (by decide) (Nat.le_of_ble_eq_true rfl) ?_
  intro p e s m args below meth c ls C hr hlk hS hR hl
  have hx := C.1.1
  have hb := C.1.2.1
  have hy24 := hy.2.1
  have hy6 := hy.2.2.2.1
  have hl : lv_has ls 3 [(0, .ref (bd_ea E 18 w 0)), (1, .int v)] := hl
  refine lv_iconst (v := 0) hx hb dX6_seatOf_0 (by decide) ?_
  refine lv_istore_n (lv' := [(2, .int 0), (0, .ref (bd_ea E 18 w 0)), (1, .int v)]) hx hb dX6_seatOf_1 rfl hl (by decide) rfl (fun ls hl => ?_)
  have lp1 : ∀ (t1 j : Nat), j ≤ 48 → 48 - j < t1 → (ry_so ym w nb z v (48 - j) j = ry_so ym w nb z v 48 0) → ∀ (H : Heap) (locs : List Loc), bd_Rep E xm ym om H → va_S (bd_A E) s.heap H locs → ∀ (ls : Array Slot), lv_has ls 3 [(2, .int (nI j)), (0, .ref (bd_ea E 18 w 0)), (1, .int v)] → W p l e { frames := 0, cells := 0, slots := 0, locals := 0 } s m args below meth c H locs 0 0 (MQ below (bd_Q E xm ym om (some (.int (ry_so ym w nb z v 48 0)))) args s 0 0 (bd_A E)) (F0 m 2 ls []) := by
    intro t1
    induction t1 with
    | zero => intro j h1 h2; exact absurd h2 (Nat.not_lt_zero _)
    | succ t1 ih1 =>
      intro j hj1 hj2 hi H locs hR hS ls hl
      refine lv_iload_n hx hb dX6_seatOf_2 rfl (lv_at hl 0 rfl) ?_
      refine lv_bipush (v := 48) hx hb dX6_seatOf_3 (by decide) ?_
      refine lv_icmp_ge (tgt := 59) hx hb dX6_seatOf_5 (by decide) (fun c5 => ?_) (fun c5 => ?_)
      · skip
        have nc5 : 48 ≤ j := (nI_leI (a := 48) (b := j) (by omega) (by omega)).mp c5
        obtain rfl : 48 = j := by omega
        refine lv_iconst (v := (-1)) hx hb dX6_seatOf_59 (by decide) ?_
        exact bd_ri C hr hlk (hR.eq rfl rfl) hS (Nat.zero_le _) (Nat.zero_le _) dX6_seatOf_60 (by first | rfl | (exact hi))
      · skip
        have nc5 : ¬ 48 ≤ j := fun q9 => c5 ((nI_leI (a := 48) (b := j) (by omega) (by omega)).mpr q9)
        refine lv_iload_n hx hb dX6_seatOf_8 rfl (lv_at hl 0 rfl) ?_
        refine lv_bipush (v := 8) hx hb dX6_seatOf_9 (by decide) ?_
        refine lv_idiv hx hb dX6_seatOf_11 (by decide) ?_
        refine bd_ti (j := j / 8) (pk_div (a := j) (d := 8) (by omega) (by omega) (by omega)) ?_
        refine lv_aload_n hx hb dX6_seatOf_12 rfl (lv_at hl 1 rfl) ?_
        refine bd_g_X6_this_0 C hR (by omega) qf_X6_3 dX6_seatOf_13 ?_
        refine bd_gN_X7_bands C hR  (List.mem_of_getElem? (i := 13) rfl) dX6_seatOf_16 ?_
        rw [show ym 2 0 0 = nI nb from (show ry_Sh ym n nb z from hy).2.2.1]
        refine lv_icmp_ge (tgt := 53) hx hb dX6_seatOf_19 (by decide) (fun c19 => ?_) (fun c19 => ?_)
        · skip
          have nc19 : nb ≤ (j / 8) := (nI_leI (a := nb) (b := (j / 8)) (by omega) (by omega)).mp c19
          refine lv_iinc (v := nI (j + 1)) (lv' := [(2, .int (nI (j + 1))), (0, .ref (bd_ea E 18 w 0)), (1, .int v)]) hx hb dX6_seatOf_53 hl (k := 0) rfl (nI_1 j) (by decide) rfl (fun ls hl => ?_)
          refine lv_goto (tgt := 2) hx hb dX6_seatOf_56 (by decide) ?_
          exact ih1 (j + 1) (by omega) (by omega) (by rw [show 48 - j = (48 - (j + 1)) + 1 by omega, ry_so, if_pos nc19] at hi; exact hi) _ _ (hR.eq rfl rfl) hS _ (lv_sub hl [0, 1, 2] rfl)
        · skip
          have nc19 : ¬ nb ≤ (j / 8) := fun q9 => c19 ((nI_leI (a := nb) (b := (j / 8)) (by omega) (by omega)).mpr q9)
          refine lv_iload_n hx hb dX6_seatOf_22 rfl (lv_at hl 0 rfl) ?_
          refine lv_bipush (v := 8) hx hb dX6_seatOf_23 (by decide) ?_
          refine lv_irem hx hb dX6_seatOf_25 (by decide) ?_
          refine bd_ti (j := j % 8) (pk_rem (a := j) (d := 8) (by omega) (by omega) (by omega)) ?_
          refine lv_aload_n hx hb dX6_seatOf_26 rfl (lv_at hl 1 rfl) ?_
          refine bd_g_X6_this_0 C hR (by omega) qf_X6_3 dX6_seatOf_27 ?_
          refine bd_gN_X7_seats C hR  (List.mem_of_getElem? (i := 14) rfl) dX6_seatOf_30 ?_
          refine lv_iload_n hx hb dX6_seatOf_33 rfl (lv_at hl 0 rfl) ?_
          refine lv_bipush (v := 8) hx hb dX6_seatOf_34 (by decide) ?_
          refine lv_idiv hx hb dX6_seatOf_36 (by decide) ?_
          refine bd_ti (j := j / 8) (pk_div (a := j) (d := 8) (by omega) (by omega) (by omega)) ?_
          refine bd_ld_14 C hR  (j := (j / 8)) (by omega) dX6_seatOf_37 ?_
          have zz37 := ((show ry_Sh ym n nb z from hy).2.2.2.2.1 (j / 8) (by omega)).2
          rw [show ym 14 0 (j / 8) = nI (z (j / 8)) from ((show ry_Sh ym n nb z from hy).2.2.2.2.1 (j / 8) (by omega)).1]
          refine lv_icmp_ge (tgt := 53) hx hb dX6_seatOf_38 (by decide) (fun c38 => ?_) (fun c38 => ?_)
          · skip
            have nc38 : (z (j / 8)) ≤ (j % 8) := (nI_leI (a := (z (j / 8))) (b := (j % 8)) (by omega) (by omega)).mp c38
            refine lv_iinc (v := nI (j + 1)) (lv' := [(2, .int (nI (j + 1))), (0, .ref (bd_ea E 18 w 0)), (1, .int v)]) hx hb dX6_seatOf_53 hl (k := 0) rfl (nI_1 j) (by decide) rfl (fun ls hl => ?_)
            refine lv_goto (tgt := 2) hx hb dX6_seatOf_56 (by decide) ?_
            exact ih1 (j + 1) (by omega) (by omega) (by rw [show 48 - j = (48 - (j + 1)) + 1 by omega, ry_so, if_neg nc19, if_pos nc38] at hi; exact hi) _ _ (hR.eq rfl rfl) hS _ (lv_sub hl [0, 1, 2] rfl)
          · skip
            have nc38 : ¬ (z (j / 8)) ≤ (j % 8) := fun q9 => c38 ((nI_leI (a := (z (j / 8))) (b := (j % 8)) (by omega) (by omega)).mpr q9)
            refine lv_aload_n hx hb dX6_seatOf_41 rfl (lv_at hl 1 rfl) ?_
            refine bd_g_X6_member C hR (by omega) qf_X6_28 dX6_seatOf_42 ?_
            refine lv_iload_n hx hb dX6_seatOf_45 rfl (lv_at hl 0 rfl) ?_
            refine bd_ld_23 C hR (by omega) (j := j) (by omega) dX6_seatOf_46 ?_
            refine lv_iload_n hx hb dX6_seatOf_47 rfl (lv_at hl 2 rfl) ?_
            refine lv_icmp_ne (tgt := 53) hx hb dX6_seatOf_48 (by decide) (fun c48 => ?_) (fun c48 => ?_)
            · skip
              refine lv_iinc (v := nI (j + 1)) (lv' := [(2, .int (nI (j + 1))), (0, .ref (bd_ea E 18 w 0)), (1, .int v)]) hx hb dX6_seatOf_53 hl (k := 0) rfl (nI_1 j) (by decide) rfl (fun ls hl => ?_)
              refine lv_goto (tgt := 2) hx hb dX6_seatOf_56 (by decide) ?_
              exact ih1 (j + 1) (by omega) (by omega) (by rw [show 48 - j = (48 - (j + 1)) + 1 by omega, ry_so, if_neg nc19, if_neg nc38, if_neg c48] at hi; exact hi) _ _ (hR.eq rfl rfl) hS _ (lv_sub hl [0, 1, 2] rfl)
            · skip
              refine lv_iload_n hx hb dX6_seatOf_51 rfl (lv_at hl 0 rfl) ?_
              exact bd_ri C hr hlk (hR.eq rfl rfl) hS (Nat.zero_le _) (Nat.zero_le _) dX6_seatOf_52 (by first | rfl | (rw [show 48 - j = (48 - (j + 1)) + 1 by omega, ry_so, if_neg nc19, if_neg nc38, if_pos c48] at hi; exact hi))
  exact lp1 (48 + 1) 0 (by omega) (by omega) rfl _ _ (hR.eq rfl rfl) hS _ (by first | exact lv_sub hl [0, 1, 2] rfl | (rw [show (nI 0 : Int32) = 0 from by first | rfl | decide | simp [nI_0]]; exact lv_sub hl [0, 1, 2] rfl))
set_option maxHeartbeats 4000000 in
set_option maxRecDepth 100000 in
theorem k_X6_members (l : Launch) (E : bd_E) (xm ym : bd_M) (om : Nat → Int64) (w : Nat) (n : Nat) (nb : Nat) (z : (Nat→Nat)) (b : Nat) (hw : w < 2) (hy : ry_Sh ym n nb z) (hb : b < nb) : bd_Ct l yX6_members cX6_members 4 (some .int) 0 0 0 0 E [.ref (bd_ea E 18 w 0), .int (nI b)] xm ym om xm ym om (some (.int (ry_me ym w b (z b)))) := by
  refine bd_open RX6 rfl (by decide) (Nat.le_of_ble_eq_true rfl) ?_
  intro p e s m args below meth c ls C hr hlk hS hR hl
  have hx := C.1.1
  have hb := C.1.2.1
  have hy24 := hy.2.1
  have hy6 := hy.2.2.2.1
  have z8 := (hy.2.2.2.2.1 b (by omega)).2
  have hl : lv_has ls 4 [(0, .ref (bd_ea E 18 w 0)), (1, .int (nI b))] := hl
  refine lv_iconst (v := 0) hx hb dX6_members_0 (by decide) ?_
  refine lv_istore_n (lv' := [(2, .int 0), (0, .ref (bd_ea E 18 w 0)), (1, .int (nI b))]) hx hb dX6_members_1 rfl hl (by decide) rfl (fun ls hl => ?_)
  refine lv_bipush (v := 8) hx hb dX6_members_2 (by decide) ?_
  refine lv_iload_n hx hb dX6_members_4 rfl (lv_at hl 2 rfl) ?_
  refine lv_imul hx hb dX6_members_5 ?_
  refine bd_ti (j := 8 * b) (pk_mul 8 b) ?_
  refine lv_istore_n (lv' := [(3, .int (nI (8 * b))), (2, .int 0), (0, .ref (bd_ea E 18 w 0)), (1, .int (nI b))]) hx hb dX6_members_6 rfl hl (by decide) rfl (fun ls hl => ?_)
  have lp1 : ∀ (t1 j : Nat), j ≤ z b → (z b) - j < t1 → ∀ (H : Heap) (locs : List Loc), bd_Rep E xm ym om H → va_S (bd_A E) s.heap H locs → ∀ (ls : Array Slot), lv_has ls 4 [(3, .int (nI (8 * b + j))), (2, .int (ry_me ym w b j)), (0, .ref (bd_ea E 18 w 0)), (1, .int (nI b))] → W p l e { frames := 0, cells := 0, slots := 0, locals := 0 } s m args below meth c H locs 0 0 (MQ below (bd_Q E xm ym om (some (.int (ry_me ym w b (z b))))) args s 0 0 (bd_A E)) (F0 m 7 ls []) := by
    intro t1
    induction t1 with
    | zero => intro j h1 h2; exact absurd h2 (Nat.not_lt_zero _)
    | succ t1 ih1 =>
      intro j hj1 hj2 H locs hR hS ls hl
      refine lv_iload_n hx hb dX6_members_7 rfl (lv_at hl 0 rfl) ?_
      refine lv_bipush (v := 8) hx hb dX6_members_8 (by decide) ?_
      refine lv_iload_n hx hb dX6_members_10 rfl (lv_at hl 3 rfl) ?_
      refine lv_imul hx hb dX6_members_11 ?_
      refine bd_ti (j := 8 * b) (pk_mul 8 b) ?_
      refine lv_aload_n hx hb dX6_members_12 rfl (lv_at hl 2 rfl) ?_
      refine bd_g_X6_this_0 C hR (by omega) qf_X6_3 dX6_members_13 ?_
      refine bd_gN_X7_seats C hR  (List.mem_of_getElem? (i := 14) rfl) dX6_members_16 ?_
      refine lv_iload_n hx hb dX6_members_19 rfl (lv_at hl 3 rfl) ?_
      refine bd_ld_14 C hR  (j := b) (by omega) dX6_members_20 ?_
      have zz20 := ((show ry_Sh ym n nb z from hy).2.2.2.2.1 b (by omega)).2
      rw [show ym 14 0 b = nI (z b) from ((show ry_Sh ym n nb z from hy).2.2.2.2.1 b (by omega)).1]
      refine lv_iadd hx hb dX6_members_21 ?_
      refine bd_ti (j := (8 * b) + (z b)) (nI_add (8 * b) (z b)) ?_
      refine lv_icmp_ge (tgt := 49) hx hb dX6_members_22 (by decide) (fun c22 => ?_) (fun c22 => ?_)
      · skip
        have nc22 : ((8 * b) + (z b)) ≤ (8 * b + j) := (nI_leI (a := ((8 * b) + (z b))) (b := (8 * b + j)) (by omega) (by omega)).mp c22
        obtain rfl : z b = j := by omega
        refine lv_iload_n hx hb dX6_members_49 rfl (lv_at hl 1 rfl) ?_
        exact bd_ri C hr hlk (hR.eq rfl rfl) hS (Nat.zero_le _) (Nat.zero_le _) dX6_members_50 rfl
      · skip
        have nc22 : ¬ ((8 * b) + (z b)) ≤ (8 * b + j) := fun q9 => c22 ((nI_leI (a := ((8 * b) + (z b))) (b := (8 * b + j)) (by omega) (by omega)).mpr q9)
        refine lv_iload_n hx hb dX6_members_25 rfl (lv_at hl 1 rfl) ?_
        refine lv_aload_n hx hb dX6_members_26 rfl (lv_at hl 2 rfl) ?_
        refine bd_g_X6_member C hR (by omega) qf_X6_28 dX6_members_27 ?_
        refine lv_iload_n hx hb dX6_members_30 rfl (lv_at hl 0 rfl) ?_
        refine bd_ld_23 C hR (by omega) (j := (8 * b + j)) (by omega) dX6_members_31 ?_
        refine lv_iconst (v := (-1)) hx hb dX6_members_32 (by decide) ?_
        refine lv_icmp_ne (tgt := 40) hx hb dX6_members_33 (by decide) (fun c33 => ?_) (fun c33 => ?_)
        · skip
          refine lv_iconst (v := 1) hx hb dX6_members_40 (by decide) ?_
          refine lv_iadd hx hb dX6_members_41 ?_
          refine lv_istore_n (lv' := [(2, .int ((ry_me ym w b j) + 1)), (3, .int (nI (8 * b + j))), (0, .ref (bd_ea E 18 w 0)), (1, .int (nI b))]) hx hb dX6_members_42 rfl hl (by decide) rfl (fun ls hl => ?_)
          refine lv_iinc (v := nI ((8 * b + j) + 1)) (lv' := [(3, .int (nI ((8 * b + j) + 1))), (2, .int ((ry_me ym w b j) + 1)), (0, .ref (bd_ea E 18 w 0)), (1, .int (nI b))]) hx hb dX6_members_43 hl (k := 1) rfl (nI_1 (8 * b + j)) (by decide) rfl (fun ls hl => ?_)
          refine lv_goto (tgt := 7) hx hb dX6_members_46 (by decide) ?_
          exact ih1 (j + 1) (by omega) (by omega) _ _ (hR.eq rfl rfl) hS _ (by rw [show (nI (8 * b + (j + 1)) : Int32) = nI ((8 * b + j) + 1) from (by first | (simp (config := { decide := true }) only [ry_me, eq_false c22, eq_false nc22, eq_false c33, ↓reduceIte, not_true_eq_false, not_false_eq_true, and_self, and_true, true_and, and_false, false_and]; done) | rfl)]; rw [show (ry_me ym w b (j + 1) : Int32) = (ry_me ym w b j) + 1 from (by first | (simp (config := { decide := true }) only [ry_me, eq_false c22, eq_false nc22, eq_false c33, ↓reduceIte, not_true_eq_false, not_false_eq_true, and_self, and_true, true_and, and_false, false_and]; done) | rfl)]; exact lv_sub hl [0, 1, 2, 3] rfl)
        · skip
          refine lv_iconst (v := 0) hx hb dX6_members_36 (by decide) ?_
          refine lv_goto (tgt := 41) hx hb dX6_members_37 (by decide) ?_
          refine lv_iadd hx hb dX6_members_41 ?_
          refine lv_istore_n (lv' := [(2, .int ((ry_me ym w b j) + 0)), (3, .int (nI (8 * b + j))), (0, .ref (bd_ea E 18 w 0)), (1, .int (nI b))]) hx hb dX6_members_42 rfl hl (by decide) rfl (fun ls hl => ?_)
          refine lv_iinc (v := nI ((8 * b + j) + 1)) (lv' := [(3, .int (nI ((8 * b + j) + 1))), (2, .int ((ry_me ym w b j) + 0)), (0, .ref (bd_ea E 18 w 0)), (1, .int (nI b))]) hx hb dX6_members_43 hl (k := 1) rfl (nI_1 (8 * b + j)) (by decide) rfl (fun ls hl => ?_)
          refine lv_goto (tgt := 7) hx hb dX6_members_46 (by decide) ?_
          exact ih1 (j + 1) (by omega) (by omega) _ _ (hR.eq rfl rfl) hS _ (by rw [show (nI (8 * b + (j + 1)) : Int32) = nI ((8 * b + j) + 1) from (by first | (simp (config := { decide := true }) only [ry_me, eq_false c22, eq_false nc22, eq_true c33, ↓reduceIte, not_true_eq_false, not_false_eq_true, and_self, and_true, true_and, and_false, false_and]; done) | rfl)]; rw [show (ry_me ym w b (j + 1) : Int32) = (ry_me ym w b j) + 0 from (by first | (simp (config := { decide := true }) only [ry_me, eq_false c22, eq_false nc22, eq_true c33, ↓reduceIte, not_true_eq_false, not_false_eq_true, and_self, and_true, true_and, and_false, false_and]; done) | rfl)]; exact lv_sub hl [0, 1, 2, 3] rfl)
  exact lp1 ((z b) + 1) 0 (by omega) (by omega) _ _ (hR.eq rfl rfl) hS _ (by rw [show (nI (8 * b + 0) : Int32) = nI (8 * b) from by rfl]; rw [show (ry_me ym w b 0 : Int32) = 0 from by first | rfl | decide | simp [nI_0]]; exact lv_sub hl [0, 1, 2, 3] rfl)
set_option maxHeartbeats 4000000 in
set_option maxRecDepth 100000 in
theorem k_X6_members_R (l : Launch) (E : bd_E) (xm ym : bd_M) (om : Nat → Int64) (w : Nat) (n : Nat) (nb : Nat) (z : (Nat→Nat)) (b : Nat) (hw : w < 2) (hy : ry_Sh ym n nb z) (hb : b < nb) : bd_CtR l yX6_members cX6_members 4 (some .int) 0 0 E [.ref (bd_ea E 18 w 0), .int (nI b)] xm ym om (some (.int (ry_me ym w b (z b)))) := by
  refine bd_openR RX6 rfl (by decide) (Nat.le_of_ble_eq_true rfl) ?_
  intro p e s m args below meth c ls C hr hlk hS hR hl
  have hx := C.1.1
  have hb := C.1.2.1
  have hy24 := hy.2.1
  have hy6 := hy.2.2.2.1
  have z8 := (hy.2.2.2.2.1 b (by omega)).2
  have hl : lv_has ls 4 [(0, .ref (bd_ea E 18 w 0)), (1, .int (nI b))] := hl
  refine lv_iconst (v := 0) hx hb dX6_members_0 (by decide) ?_
  refine lv_istore_n (lv' := [(2, .int 0), (0, .ref (bd_ea E 18 w 0)), (1, .int (nI b))]) hx hb dX6_members_1 rfl hl (by decide) rfl (fun ls hl => ?_)
  refine lv_bipush (v := 8) hx hb dX6_members_2 (by decide) ?_
  refine lv_iload_n hx hb dX6_members_4 rfl (lv_at hl 2 rfl) ?_
  refine lv_imul hx hb dX6_members_5 ?_
  refine bd_ti (j := 8 * b) (pk_mul 8 b) ?_
  refine lv_istore_n (lv' := [(3, .int (nI (8 * b))), (2, .int 0), (0, .ref (bd_ea E 18 w 0)), (1, .int (nI b))]) hx hb dX6_members_6 rfl hl (by decide) rfl (fun ls hl => ?_)
  have lp1 : ∀ (t1 j : Nat), j ≤ z b → (z b) - j < t1 → ∀ (H : Heap) (locs : List Loc), bd_Rep E xm ym om H → va_S (fun _ => False) s.heap H locs → ∀ (ls : Array Slot), lv_has ls 4 [(3, .int (nI (8 * b + j))), (2, .int (ry_me ym w b j)), (0, .ref (bd_ea E 18 w 0)), (1, .int (nI b))] → W p l e { frames := 0, cells := 0, slots := 0, locals := 0 } s m args below meth c H locs 0 0 (MQ below (bd_QR E xm ym om (some (.int (ry_me ym w b (z b))))) args s 0 0 (fun _ => False)) (F0 m 7 ls []) := by
    intro t1
    induction t1 with
    | zero => intro j h1 h2; exact absurd h2 (Nat.not_lt_zero _)
    | succ t1 ih1 =>
      intro j hj1 hj2 H locs hR hS ls hl
      refine lv_iload_n hx hb dX6_members_7 rfl (lv_at hl 0 rfl) ?_
      refine lv_bipush (v := 8) hx hb dX6_members_8 (by decide) ?_
      refine lv_iload_n hx hb dX6_members_10 rfl (lv_at hl 3 rfl) ?_
      refine lv_imul hx hb dX6_members_11 ?_
      refine bd_ti (j := 8 * b) (pk_mul 8 b) ?_
      refine lv_aload_n hx hb dX6_members_12 rfl (lv_at hl 2 rfl) ?_
      refine bd_g_X6_this_0 C hR (by omega) qf_X6_3 dX6_members_13 ?_
      refine bd_gN_X7_seats C hR  (List.mem_of_getElem? (i := 14) rfl) dX6_members_16 ?_
      refine lv_iload_n hx hb dX6_members_19 rfl (lv_at hl 3 rfl) ?_
      refine bd_ld_14 C hR  (j := b) (by omega) dX6_members_20 ?_
      have zz20 := ((show ry_Sh ym n nb z from hy).2.2.2.2.1 b (by omega)).2
      rw [show ym 14 0 b = nI (z b) from ((show ry_Sh ym n nb z from hy).2.2.2.2.1 b (by omega)).1]
      refine lv_iadd hx hb dX6_members_21 ?_
      refine bd_ti (j := (8 * b) + (z b)) (nI_add (8 * b) (z b)) ?_
      refine lv_icmp_ge (tgt := 49) hx hb dX6_members_22 (by decide) (fun c22 => ?_) (fun c22 => ?_)
      · skip
        have nc22 : ((8 * b) + (z b)) ≤ (8 * b + j) := (nI_leI (a := ((8 * b) + (z b))) (b := (8 * b + j)) (by omega) (by omega)).mp c22
        obtain rfl : z b = j := by omega
        refine lv_iload_n hx hb dX6_members_49 rfl (lv_at hl 1 rfl) ?_
        exact bd_riR C hr hlk (hR.eq rfl rfl) hS (Nat.zero_le _) (Nat.zero_le _) dX6_members_50 rfl
      · skip
        have nc22 : ¬ ((8 * b) + (z b)) ≤ (8 * b + j) := fun q9 => c22 ((nI_leI (a := ((8 * b) + (z b))) (b := (8 * b + j)) (by omega) (by omega)).mpr q9)
        refine lv_iload_n hx hb dX6_members_25 rfl (lv_at hl 1 rfl) ?_
        refine lv_aload_n hx hb dX6_members_26 rfl (lv_at hl 2 rfl) ?_
        refine bd_g_X6_member C hR (by omega) qf_X6_28 dX6_members_27 ?_
        refine lv_iload_n hx hb dX6_members_30 rfl (lv_at hl 0 rfl) ?_
        refine bd_ld_23 C hR (by omega) (j := (8 * b + j)) (by omega) dX6_members_31 ?_
        refine lv_iconst (v := (-1)) hx hb dX6_members_32 (by decide) ?_
        refine lv_icmp_ne (tgt := 40) hx hb dX6_members_33 (by decide) (fun c33 => ?_) (fun c33 => ?_)
        · skip
          refine lv_iconst (v := 1) hx hb dX6_members_40 (by decide) ?_
          refine lv_iadd hx hb dX6_members_41 ?_
          refine lv_istore_n (lv' := [(2, .int ((ry_me ym w b j) + 1)), (3, .int (nI (8 * b + j))), (0, .ref (bd_ea E 18 w 0)), (1, .int (nI b))]) hx hb dX6_members_42 rfl hl (by decide) rfl (fun ls hl => ?_)
          refine lv_iinc (v := nI ((8 * b + j) + 1)) (lv' := [(3, .int (nI ((8 * b + j) + 1))), (2, .int ((ry_me ym w b j) + 1)), (0, .ref (bd_ea E 18 w 0)), (1, .int (nI b))]) hx hb dX6_members_43 hl (k := 1) rfl (nI_1 (8 * b + j)) (by decide) rfl (fun ls hl => ?_)
          refine lv_goto (tgt := 7) hx hb dX6_members_46 (by decide) ?_
          exact ih1 (j + 1) (by omega) (by omega) _ _ (hR.eq rfl rfl) hS _ (by rw [show (nI (8 * b + (j + 1)) : Int32) = nI ((8 * b + j) + 1) from (by first | (simp (config := { decide := true }) only [ry_me, eq_false c22, eq_false nc22, eq_false c33, ↓reduceIte, not_true_eq_false, not_false_eq_true, and_self, and_true, true_and, and_false, false_and]; done) | rfl)]; rw [show (ry_me ym w b (j + 1) : Int32) = (ry_me ym w b j) + 1 from (by first | (simp (config := { decide := true }) only [ry_me, eq_false c22, eq_false nc22, eq_false c33, ↓reduceIte, not_true_eq_false, not_false_eq_true, and_self, and_true, true_and, and_false, false_and]; done) | rfl)]; exact lv_sub hl [0, 1, 2, 3] rfl)
        · skip
          refine lv_iconst (v := 0) hx hb dX6_members_36 (by decide) ?_
          refine lv_goto (tgt := 41) hx hb dX6_members_37 (by decide) ?_
          refine lv_iadd hx hb dX6_members_41 ?_
          refine lv_istore_n (lv' := [(2, .int ((ry_me ym w b j) + 0)), (3, .int (nI (8 * b + j))), (0, .ref (bd_ea E 18 w 0)), (1, .int (nI b))]) hx hb dX6_members_42 rfl hl (by decide) rfl (fun ls hl => ?_)
          refine lv_iinc (v := nI ((8 * b + j) + 1)) (lv' := [(3, .int (nI ((8 * b + j) + 1))), (2, .int ((ry_me ym w b j) + 0)), (0, .ref (bd_ea E 18 w 0)), (1, .int (nI b))]) hx hb dX6_members_43 hl (k := 1) rfl (nI_1 (8 * b + j)) (by decide) rfl (fun ls hl => ?_)
          refine lv_goto (tgt := 7) hx hb dX6_members_46 (by decide) ?_
          exact ih1 (j + 1) (by omega) (by omega) _ _ (hR.eq rfl rfl) hS _ (by rw [show (nI (8 * b + (j + 1)) : Int32) = nI ((8 * b + j) + 1) from (by first | (simp (config := { decide := true }) only [ry_me, eq_false c22, eq_false nc22, eq_true c33, ↓reduceIte, not_true_eq_false, not_false_eq_true, and_self, and_true, true_and, and_false, false_and]; done) | rfl)]; rw [show (ry_me ym w b (j + 1) : Int32) = (ry_me ym w b j) + 0 from (by first | (simp (config := { decide := true }) only [ry_me, eq_false c22, eq_false nc22, eq_true c33, ↓reduceIte, not_true_eq_false, not_false_eq_true, and_self, and_true, true_and, and_false, false_and]; done) | rfl)]; exact lv_sub hl [0, 1, 2, 3] rfl)
  exact lp1 ((z b) + 1) 0 (by omega) (by omega) _ _ (hR.eq rfl rfl) hS _ (by rw [show (nI (8 * b + 0) : Int32) = nI (8 * b) from by rfl]; rw [show (ry_me ym w b 0 : Int32) = 0 from by first | rfl | decide | simp [nI_0]]; exact lv_sub hl [0, 1, 2, 3] rfl)
set_option maxHeartbeats 4000000 in
set_option maxRecDepth 100000 in
theorem k_X6_isAhead (l : Launch) (E : bd_E) (xm ym : bd_M) (om : Nat → Int64) (w : Nat) (n : Nat) (nb : Nat) (z : (Nat→Nat)) (i : Nat) (j : Nat) (hw : w < 2) (hy : ry_Sh ym n nb z) (hi : i < nb) (hj : j < nb) : bd_Ct l yX6_isAhead cX6_isAhead 3 (some .boolean) 0 0 0 0 E [.ref (bd_ea E 18 w 0), .int (nI i), .int (nI j)] xm ym om xm ym om (some (.int (if ry_ia ym w i j then 1 else 0))) := by
  refine bd_open RX6 rfl (by decide) (Nat.le_of_ble_eq_true rfl) ?_
  intro p e s m args below meth c ls C hr hlk hS hR hl
  have hx := C.1.1
  have hb := C.1.2.1
  have hy24 := hy.2.1
  have hy6 := hy.2.2.2.1
  have hl : lv_has ls 3 [(0, .ref (bd_ea E 18 w 0)), (1, .int (nI i)), (2, .int (nI j))] := hl
  refine lv_aload_n hx hb dX6_isAhead_0 rfl (lv_at hl 0 rfl) ?_
  refine bd_g_X6_latest C hR (by omega) qf_X6_43 dX6_isAhead_1 ?_
  refine lv_iconst (v := 4) hx hb dX6_isAhead_4 (by decide) ?_
  refine lv_iload_n hx hb dX6_isAhead_5 rfl (lv_at hl 1 rfl) ?_
  refine lv_imul hx hb dX6_isAhead_6 ?_
  refine bd_ti (j := 4 * i) (pk_mul 4 i) ?_
  refine bd_ld_28 C hR (by omega) (j := (4 * i)) (by omega) dX6_isAhead_7 ?_
  refine lv_aload_n hx hb dX6_isAhead_8 rfl (lv_at hl 0 rfl) ?_
  refine bd_g_X6_latest C hR (by omega) qf_X6_43 dX6_isAhead_9 ?_
  refine lv_iconst (v := 4) hx hb dX6_isAhead_12 (by decide) ?_
  refine lv_iload_n hx hb dX6_isAhead_13 rfl (lv_at hl 2 rfl) ?_
  refine lv_imul hx hb dX6_isAhead_14 ?_
  refine bd_ti (j := 4 * j) (pk_mul 4 j) ?_
  refine bd_ld_28 C hR (by omega) (j := (4 * j)) (by omega) dX6_isAhead_15 ?_
  refine lv_icmp_eq (tgt := 44) hx hb dX6_isAhead_16 (by decide) (fun c16 => ?_) (fun c16 => ?_)
  · skip
    refine lv_aload_n hx hb dX6_isAhead_44 rfl (lv_at hl 0 rfl) ?_
    refine bd_g_X6_latest C hR (by omega) qf_X6_43 dX6_isAhead_45 ?_
    refine lv_iconst (v := 4) hx hb dX6_isAhead_48 (by decide) ?_
    refine lv_iload_n hx hb dX6_isAhead_49 rfl (lv_at hl 1 rfl) ?_
    refine lv_imul hx hb dX6_isAhead_50 ?_
    refine bd_ti (j := 4 * i) (pk_mul 4 i) ?_
    refine lv_iconst (v := 2) hx hb dX6_isAhead_51 (by decide) ?_
    refine lv_iadd hx hb dX6_isAhead_52 ?_
    refine bd_ti (j := (4 * i) + 2) (nI_add (4 * i) 2) ?_
    refine bd_ld_28 C hR (by omega) (j := ((4 * i) + 2)) (by omega) dX6_isAhead_53 ?_
    refine lv_aload_n hx hb dX6_isAhead_54 rfl (lv_at hl 0 rfl) ?_
    refine bd_g_X6_latest C hR (by omega) qf_X6_43 dX6_isAhead_55 ?_
    refine lv_iconst (v := 4) hx hb dX6_isAhead_58 (by decide) ?_
    refine lv_iload_n hx hb dX6_isAhead_59 rfl (lv_at hl 2 rfl) ?_
    refine lv_imul hx hb dX6_isAhead_60 ?_
    refine bd_ti (j := 4 * j) (pk_mul 4 j) ?_
    refine lv_iconst (v := 2) hx hb dX6_isAhead_61 (by decide) ?_
    refine lv_iadd hx hb dX6_isAhead_62 ?_
    refine bd_ti (j := (4 * j) + 2) (nI_add (4 * j) 2) ?_
    refine bd_ld_28 C hR (by omega) (j := ((4 * j) + 2)) (by omega) dX6_isAhead_63 ?_
    refine lv_icmp_eq (tgt := 98) hx hb dX6_isAhead_64 (by decide) (fun c64 => ?_) (fun c64 => ?_)
    · skip
      refine lv_iload_n hx hb dX6_isAhead_98 rfl (lv_at hl 1 rfl) ?_
      refine lv_iload_n hx hb dX6_isAhead_99 rfl (lv_at hl 2 rfl) ?_
      refine lv_icmp_ge (tgt := 107) hx hb dX6_isAhead_100 (by decide) (fun c100 => ?_) (fun c100 => ?_)
      · skip
        have nc100 : j ≤ i := (nI_leI (a := j) (b := i) (by omega) (by omega)).mp c100
        refine lv_iconst (v := 0) hx hb dX6_isAhead_107 (by decide) ?_
        exact bd_rz C hr hlk (hR.eq rfl rfl) hS (Nat.zero_le _) (Nat.zero_le _) dX6_isAhead_108 rfl (by first | (simp (config := { decide := true }) only [ry_ia, eq_true c16, eq_true c64, eq_true c100, eq_true nc100, ↓reduceIte, not_true_eq_false, not_false_eq_true, and_self, and_true, true_and, and_false, false_and]; done) | rfl)
      · skip
        have nc100 : ¬ j ≤ i := fun q9 => c100 ((nI_leI (a := j) (b := i) (by omega) (by omega)).mpr q9)
        refine lv_iconst (v := 1) hx hb dX6_isAhead_103 (by decide) ?_
        refine lv_goto (tgt := 108) hx hb dX6_isAhead_104 (by decide) ?_
        exact bd_rz C hr hlk (hR.eq rfl rfl) hS (Nat.zero_le _) (Nat.zero_le _) dX6_isAhead_108 rfl (by first | (simp (config := { decide := true }) only [ry_ia, eq_true c16, eq_true c64, eq_false c100, eq_false nc100, ↓reduceIte, not_true_eq_false, not_false_eq_true, and_self, and_true, true_and, and_false, false_and]; done) | rfl)
    · skip
      refine lv_aload_n hx hb dX6_isAhead_67 rfl (lv_at hl 0 rfl) ?_
      refine bd_g_X6_latest C hR (by omega) qf_X6_43 dX6_isAhead_68 ?_
      refine lv_iconst (v := 4) hx hb dX6_isAhead_71 (by decide) ?_
      refine lv_iload_n hx hb dX6_isAhead_72 rfl (lv_at hl 1 rfl) ?_
      refine lv_imul hx hb dX6_isAhead_73 ?_
      refine bd_ti (j := 4 * i) (pk_mul 4 i) ?_
      refine lv_iconst (v := 2) hx hb dX6_isAhead_74 (by decide) ?_
      refine lv_iadd hx hb dX6_isAhead_75 ?_
      refine bd_ti (j := (4 * i) + 2) (nI_add (4 * i) 2) ?_
      refine bd_ld_28 C hR (by omega) (j := ((4 * i) + 2)) (by omega) dX6_isAhead_76 ?_
      refine lv_aload_n hx hb dX6_isAhead_77 rfl (lv_at hl 0 rfl) ?_
      refine bd_g_X6_latest C hR (by omega) qf_X6_43 dX6_isAhead_78 ?_
      refine lv_iconst (v := 4) hx hb dX6_isAhead_81 (by decide) ?_
      refine lv_iload_n hx hb dX6_isAhead_82 rfl (lv_at hl 2 rfl) ?_
      refine lv_imul hx hb dX6_isAhead_83 ?_
      refine bd_ti (j := 4 * j) (pk_mul 4 j) ?_
      refine lv_iconst (v := 2) hx hb dX6_isAhead_84 (by decide) ?_
      refine lv_iadd hx hb dX6_isAhead_85 ?_
      refine bd_ti (j := (4 * j) + 2) (nI_add (4 * j) 2) ?_
      refine bd_ld_28 C hR (by omega) (j := ((4 * j) + 2)) (by omega) dX6_isAhead_86 ?_
      refine lv_icmp_ge (tgt := 94) hx hb dX6_isAhead_87 (by decide) (fun c87 => ?_) (fun c87 => ?_)
      · skip
        refine lv_iconst (v := 0) hx hb dX6_isAhead_94 (by decide) ?_
        refine lv_goto (tgt := 108) hx hb dX6_isAhead_95 (by decide) ?_
        exact bd_rz C hr hlk (hR.eq rfl rfl) hS (Nat.zero_le _) (Nat.zero_le _) dX6_isAhead_108 rfl (by first | (simp (config := { decide := true }) only [ry_ia, eq_true c16, eq_false c64, eq_true c87, ↓reduceIte, not_true_eq_false, not_false_eq_true, and_self, and_true, true_and, and_false, false_and]; done) | rfl)
      · skip
        refine lv_iconst (v := 1) hx hb dX6_isAhead_90 (by decide) ?_
        refine lv_goto (tgt := 108) hx hb dX6_isAhead_91 (by decide) ?_
        exact bd_rz C hr hlk (hR.eq rfl rfl) hS (Nat.zero_le _) (Nat.zero_le _) dX6_isAhead_108 rfl (by first | (simp (config := { decide := true }) only [ry_ia, eq_true c16, eq_false c64, eq_false c87, ↓reduceIte, not_true_eq_false, not_false_eq_true, and_self, and_true, true_and, and_false, false_and]; done) | rfl)
  · skip
    refine lv_aload_n hx hb dX6_isAhead_19 rfl (lv_at hl 0 rfl) ?_
    refine bd_g_X6_latest C hR (by omega) qf_X6_43 dX6_isAhead_20 ?_
    refine lv_iconst (v := 4) hx hb dX6_isAhead_23 (by decide) ?_
    refine lv_iload_n hx hb dX6_isAhead_24 rfl (lv_at hl 1 rfl) ?_
    refine lv_imul hx hb dX6_isAhead_25 ?_
    refine bd_ti (j := 4 * i) (pk_mul 4 i) ?_
    refine bd_ld_28 C hR (by omega) (j := (4 * i)) (by omega) dX6_isAhead_26 ?_
    refine lv_aload_n hx hb dX6_isAhead_27 rfl (lv_at hl 0 rfl) ?_
    refine bd_g_X6_latest C hR (by omega) qf_X6_43 dX6_isAhead_28 ?_
    refine lv_iconst (v := 4) hx hb dX6_isAhead_31 (by decide) ?_
    refine lv_iload_n hx hb dX6_isAhead_32 rfl (lv_at hl 2 rfl) ?_
    refine lv_imul hx hb dX6_isAhead_33 ?_
    refine bd_ti (j := 4 * j) (pk_mul 4 j) ?_
    refine bd_ld_28 C hR (by omega) (j := (4 * j)) (by omega) dX6_isAhead_34 ?_
    refine lv_icmp_le (tgt := 42) hx hb dX6_isAhead_35 (by decide) (fun c35 => ?_) (fun c35 => ?_)
    · skip
      refine lv_iconst (v := 0) hx hb dX6_isAhead_42 (by decide) ?_
      exact bd_rz C hr hlk (hR.eq rfl rfl) hS (Nat.zero_le _) (Nat.zero_le _) dX6_isAhead_43 rfl (by first | (simp (config := { decide := true }) only [ry_ia, eq_false c16, eq_true c35, ↓reduceIte, not_true_eq_false, not_false_eq_true, and_self, and_true, true_and, and_false, false_and]; done) | rfl)
    · skip
      refine lv_iconst (v := 1) hx hb dX6_isAhead_38 (by decide) ?_
      refine lv_goto (tgt := 43) hx hb dX6_isAhead_39 (by decide) ?_
      exact bd_rz C hr hlk (hR.eq rfl rfl) hS (Nat.zero_le _) (Nat.zero_le _) dX6_isAhead_43 rfl (by first | (simp (config := { decide := true }) only [ry_ia, eq_false c16, eq_false c35, ↓reduceIte, not_true_eq_false, not_false_eq_true, and_self, and_true, true_and, and_false, false_and]; done) | rfl)
