/-! LEAVES: players and chairs (rows laid by wip/whole/tools) -/
set_option maxHeartbeats 4000000 in
set_option maxRecDepth 100000 in
/-- the skill for an instrument, 0 for what is none -/
theorem k_X3_skillFor (l : Launch) (E : bd_E) (xm ym : bd_M) (om : Nat → Int64) (w : Nat) (k : Nat) (v : Int32) (hw : w < 2) (hk : k < 24) : bd_Ct l yX3_skillFor cX3_skillFor 2 (some .int) 0 0 0 0 E [.ref (bd_ea E 7 w k), .int v] xm ym om xm ym om (some (.int (kx_skill xm w k v))) := by
  refine bd_open RX3 rfl (by decide) (Nat.le_of_ble_eq_true rfl) ?_
  intro p e s m args below meth c ls C hr hlk hS hR hl
  have hx := C.1.1
  have hb := C.1.2.1
  have hl : lv_has ls 2 [(0, .ref (bd_ea E 7 w k)), (1, .int v)] := hl
  refine lv_iload_n hx hb dX3_skillFor_0 rfl (lv_at hl 1 rfl) ?_
  refine lv_if_lt (tgt := 18) hx hb dX3_skillFor_1 (by decide) (fun c1 => ?_) (fun c1 => ?_)
  · skip
    refine lv_iconst (v := 0) hx hb dX3_skillFor_18 (by decide) ?_
    exact bd_ri C hr hlk (hR.eq rfl rfl) hS (Nat.zero_le _) (Nat.zero_le _) dX3_skillFor_19 (by first | (simp (config := { decide := true }) only [kx_skill, eq_true c1, ↓reduceIte, not_true_eq_false, not_false_eq_true, and_self, and_true, true_and, and_false, false_and]; done) | rfl)
  · skip
    refine lv_iload_n hx hb dX3_skillFor_4 rfl (lv_at hl 1 rfl) ?_
    refine lv_iconst (v := 4) hx hb dX3_skillFor_5 (by decide) ?_
    refine lv_icmp_ge (tgt := 18) hx hb dX3_skillFor_6 (by decide) (fun c6 => ?_) (fun c6 => ?_)
    · skip
      refine lv_iconst (v := 0) hx hb dX3_skillFor_18 (by decide) ?_
      exact bd_ri C hr hlk (hR.eq rfl rfl) hS (Nat.zero_le _) (Nat.zero_le _) dX3_skillFor_19 (by first | (simp (config := { decide := true }) only [kx_skill, eq_false c1, eq_true c6, ↓reduceIte, not_true_eq_false, not_false_eq_true, and_self, and_true, true_and, and_false, false_and]; done) | rfl)
    · skip
      refine lv_aload_n hx hb dX3_skillFor_9 rfl (lv_at hl 0 rfl) ?_
      refine bd_g_X3_skills C hR (by omega) (by omega) qf_X3_9 dX3_skillFor_10 ?_
      refine lv_iload_n hx hb dX3_skillFor_13 rfl (lv_at hl 1 rfl) ?_
      have n14 := bd_tn4 c1 c6
      refine bd_ti (j := v.toNatClampNeg) (bd_tn (by assumption)) ?_
      refine bd_ld_8 C hR (by omega) (by omega) (j := v.toNatClampNeg) (by omega) dX3_skillFor_14 ?_
      refine lv_goto (tgt := 19) hx hb dX3_skillFor_15 (by decide) ?_
      exact bd_ri C hr hlk (hR.eq rfl rfl) hS (Nat.zero_le _) (Nat.zero_le _) dX3_skillFor_19 (by first | (simp (config := { decide := true }) only [kx_skill, eq_false c1, eq_false c6, ↓reduceIte, not_true_eq_false, not_false_eq_true, and_self, and_true, true_and, and_false, false_and]; done) | rfl)
set_option maxHeartbeats 4000000 in
set_option maxRecDepth 100000 in
theorem k_X3_isThere (l : Launch) (E : bd_E) (xm ym : bd_M) (om : Nat → Int64) (w : Nat) (k : Nat) (hw : w < 2) (hk : k < 24) : bd_Ct l yX3_isThere cX3_isThere 1 (some .boolean) 0 0 0 0 E [.ref (bd_ea E 7 w k)] xm ym om xm ym om (some (.int (if xm 1 w k = 0 then 1 else 0))) := by
  refine bd_open RX3 rfl (by decide) (Nat.le_of_ble_eq_true rfl) ?_
  intro p e s m args below meth c ls C hr hlk hS hR hl
  have hx := C.1.1
  have hb := C.1.2.1
  have hl : lv_has ls 1 [(0, .ref (bd_ea E 7 w k))] := hl
  refine lv_aload_n hx hb dX3_isThere_0 rfl (lv_at hl 0 rfl) ?_
  refine bd_g_X3_absences C hR (by omega) (by omega) qf_X3_31 dX3_isThere_1 ?_
  refine lv_if_ne (tgt := 11) hx hb dX3_isThere_4 (by decide) (fun c4 => ?_) (fun c4 => ?_)
  · skip
    refine lv_iconst (v := 0) hx hb dX3_isThere_11 (by decide) ?_
    exact bd_rz C hr hlk (hR.eq rfl rfl) hS (Nat.zero_le _) (Nat.zero_le _) dX3_isThere_12 rfl (by first | (simp (config := { decide := true }) only [eq_false c4, ↓reduceIte, not_true_eq_false, not_false_eq_true, and_self, and_true, true_and, and_false, false_and]; done) | rfl)
  · skip
    refine lv_iconst (v := 1) hx hb dX3_isThere_7 (by decide) ?_
    refine lv_goto (tgt := 12) hx hb dX3_isThere_8 (by decide) ?_
    exact bd_rz C hr hlk (hR.eq rfl rfl) hS (Nat.zero_le _) (Nat.zero_le _) dX3_isThere_12 rfl (by first | (simp (config := { decide := true }) only [eq_true c4, ↓reduceIte, not_true_eq_false, not_false_eq_true, and_self, and_true, true_and, and_false, false_and]; done) | rfl)
set_option maxHeartbeats 4000000 in
set_option maxRecDepth 100000 in
theorem k_X3_mayBeDeputy (l : Launch) (E : bd_E) (xm ym : bd_M) (om : Nat → Int64) (w : Nat) (k : Nat) (hw : w < 2) (hk : k < 24) : bd_Ct l yX3_mayBeDeputy cX3_mayBeDeputy 1 (some .boolean) 0 0 0 0 E [.ref (bd_ea E 7 w k)] xm ym om xm ym om (some (.int (if kx_may xm w k then 1 else 0))) := by
  refine bd_open RX3 rfl (by decide) (Nat.le_of_ble_eq_true rfl) ?_
  intro p e s m args below meth c ls C hr hlk hS hR hl
  have hx := C.1.1
  have hb := C.1.2.1
  have hl : lv_has ls 1 [(0, .ref (bd_ea E 7 w k))] := hl
  refine lv_aload_n hx hb dX3_mayBeDeputy_0 rfl (lv_at hl 0 rfl) ?_
  refine bd_g_X3_absences C hR (by omega) (by omega) qf_X3_31 dX3_mayBeDeputy_1 ?_
  refine lv_if_ne (tgt := 26) hx hb dX3_mayBeDeputy_4 (by decide) (fun c4 => ?_) (fun c4 => ?_)
  · skip
    refine lv_iconst (v := 0) hx hb dX3_mayBeDeputy_26 (by decide) ?_
    exact bd_rz C hr hlk (hR.eq rfl rfl) hS (Nat.zero_le _) (Nat.zero_le _) dX3_mayBeDeputy_27 rfl (by first | (simp (config := { decide := true }) only [kx_may, eq_false c4, ↓reduceIte, not_true_eq_false, not_false_eq_true, and_self, and_true, true_and, and_false, false_and]; done) | rfl)
  · skip
    refine lv_aload_n hx hb dX3_mayBeDeputy_7 rfl (lv_at hl 0 rfl) ?_
    refine bd_g_X3_sits C hR (by omega) (by omega) qf_X3_40 dX3_mayBeDeputy_8 ?_
    refine lv_if_ne (tgt := 26) hx hb dX3_mayBeDeputy_11 (by decide) (fun c11 => ?_) (fun c11 => ?_)
    · skip
      refine lv_iconst (v := 0) hx hb dX3_mayBeDeputy_26 (by decide) ?_
      exact bd_rz C hr hlk (hR.eq rfl rfl) hS (Nat.zero_le _) (Nat.zero_le _) dX3_mayBeDeputy_27 rfl (by first | (simp (config := { decide := true }) only [kx_may, eq_true c4, eq_false c11, ↓reduceIte, not_true_eq_false, not_false_eq_true, and_self, and_true, true_and, and_false, false_and]; done) | rfl)
    · skip
      refine lv_aload_n hx hb dX3_mayBeDeputy_14 rfl (lv_at hl 0 rfl) ?_
      refine bd_g_X3_deputyToday C hR (by omega) (by omega) qf_X3_44 dX3_mayBeDeputy_15 ?_
      refine lv_iconst (v := 1) hx hb dX3_mayBeDeputy_18 (by decide) ?_
      refine lv_icmp_gt (tgt := 26) hx hb dX3_mayBeDeputy_19 (by decide) (fun c19 => ?_) (fun c19 => ?_)
      · skip
        refine lv_iconst (v := 0) hx hb dX3_mayBeDeputy_26 (by decide) ?_
        exact bd_rz C hr hlk (hR.eq rfl rfl) hS (Nat.zero_le _) (Nat.zero_le _) dX3_mayBeDeputy_27 rfl (by first | (simp (config := { decide := true }) only [kx_may, eq_true c4, eq_true c11, eq_true c19, ↓reduceIte, not_true_eq_false, not_false_eq_true, and_self, and_true, true_and, and_false, false_and]; done) | rfl)
      · skip
        refine lv_iconst (v := 1) hx hb dX3_mayBeDeputy_22 (by decide) ?_
        refine lv_goto (tgt := 27) hx hb dX3_mayBeDeputy_23 (by decide) ?_
        exact bd_rz C hr hlk (hR.eq rfl rfl) hS (Nat.zero_le _) (Nat.zero_le _) dX3_mayBeDeputy_27 rfl (by first | (simp (config := { decide := true }) only [kx_may, eq_true c4, eq_true c11, eq_false c19, ↓reduceIte, not_true_eq_false, not_false_eq_true, and_self, and_true, true_and, and_false, false_and]; done) | rfl)
set_option maxHeartbeats 4000000 in
set_option maxRecDepth 100000 in
theorem k_X3_tire (l : Launch) (E : bd_E) (xm ym : bd_M) (om : Nat → Int64) (w : Nat) (k : Nat) (v : Int32) (hw : w < 2) (hk : k < 24) : bd_Ct l yX3_tire cX3_tire 2 none 1 20 0 0 E [.ref (bd_ea E 7 w k), .int v] xm ym om (kx_tire xm w k v) ym om (none) := by
  refine bd_open RX3 rfl (by decide) (Nat.le_of_ble_eq_true rfl) ?_
  intro p e s m args below meth c ls C hr hlk hS hR hl
  have hx := C.1.1
  have hb := C.1.2.1
  have hl : lv_has ls 2 [(0, .ref (bd_ea E 7 w k)), (1, .int v)] := hl
  refine lv_aload_n hx hb dX3_tire_0 rfl (lv_at hl 0 rfl) ?_
  refine lv_bipush (v := 100) hx hb dX3_tire_1 (by decide) ?_
  refine lv_aload_n hx hb dX3_tire_3 rfl (lv_at hl 0 rfl) ?_
  refine bd_g_X3_tired C hR (by omega) (by omega) qf_X3_28 dX3_tire_4 ?_
  refine lv_iload_n hx hb dX3_tire_7 rfl (lv_at hl 1 rfl) ?_
  refine lv_iadd hx hb dX3_tire_8 ?_
  refine bd_min C hl.1 qm_X3_47 ⟨Nat.le_of_ble_eq_true rfl, Nat.le_of_ble_eq_true rfl⟩ ⟨Nat.le_of_ble_eq_true rfl, Nat.le_of_ble_eq_true rfl⟩ dX3_tire_9 ?_
  refine bd_p_X3_tired C hR hS (by omega) (by omega) qf_X3_28 dX3_tire_12 (fun H locs hR hS => ?_)
  exact bd_rv C hr hlk (hR.eq (by first | (simp (config := { decide := true }) only [kx_tire, ↓reduceIte, not_true_eq_false, not_false_eq_true, and_self, and_true, true_and, and_false, false_and]; done) | rfl) rfl) hS (Nat.zero_le _) (Nat.zero_le _) dX3_tire_15
set_option maxHeartbeats 4000000 in
set_option maxRecDepth 100000 in
theorem k_X3_rest (l : Launch) (E : bd_E) (xm ym : bd_M) (om : Nat → Int64) (w : Nat) (k : Nat) (v : Int32) (hw : w < 2) (hk : k < 24) : bd_Ct l yX3_rest cX3_rest 2 none 1 20 0 0 E [.ref (bd_ea E 7 w k), .int v] xm ym om (kx_rest xm w k v) ym om (none) := by
  refine bd_open RX3 rfl (by decide) (Nat.le_of_ble_eq_true rfl) ?_
  intro p e s m args below meth c ls C hr hlk hS hR hl
  have hx := C.1.1
  have hb := C.1.2.1
  have hl : lv_has ls 2 [(0, .ref (bd_ea E 7 w k)), (1, .int v)] := hl
  refine lv_aload_n hx hb dX3_rest_0 rfl (lv_at hl 0 rfl) ?_
  refine lv_iconst (v := 0) hx hb dX3_rest_1 (by decide) ?_
  refine lv_aload_n hx hb dX3_rest_2 rfl (lv_at hl 0 rfl) ?_
  refine bd_g_X3_tired C hR (by omega) (by omega) qf_X3_28 dX3_rest_3 ?_
  refine lv_iload_n hx hb dX3_rest_6 rfl (lv_at hl 1 rfl) ?_
  refine lv_isub hx hb dX3_rest_7 ?_
  refine bd_max C hl.1 qm_X3_53 ⟨Nat.le_of_ble_eq_true rfl, Nat.le_of_ble_eq_true rfl⟩ ⟨Nat.le_of_ble_eq_true rfl, Nat.le_of_ble_eq_true rfl⟩ dX3_rest_8 ?_
  refine bd_p_X3_tired C hR hS (by omega) (by omega) qf_X3_28 dX3_rest_11 (fun H locs hR hS => ?_)
  exact bd_rv C hr hlk (hR.eq (by first | (simp (config := { decide := true }) only [kx_rest, ↓reduceIte, not_true_eq_false, not_false_eq_true, and_self, and_true, true_and, and_false, false_and]; done) | rfl) rfl) hS (Nat.zero_le _) (Nat.zero_le _) dX3_rest_14
set_option maxHeartbeats 4000000 in
set_option maxRecDepth 100000 in
theorem k_X3_tell (l : Launch) (E : bd_E) (xm ym : bd_M) (om : Nat → Int64) (w : Nat) (k : Nat) (v : Int32) (hw : w < 2) (hk : k < 24) : bd_Ct l yX3_tell cX3_tell 2 (some .int) 1 21 0 0 E [.ref (bd_ea E 7 w k), .int v] xm ym om xm ym om (some (.int (kx_ptell xm w k v))) := by
  refine bd_open RX3 rfl (by decide) (Nat.le_of_ble_eq_true rfl) ?_
  intro p e s m args below meth c ls C hr hlk hS hR hl
  have hx := C.1.1
  have hb := C.1.2.1
  have hl : lv_has ls 2 [(0, .ref (bd_ea E 7 w k)), (1, .int v)] := hl
  refine lv_iload_n hx hb dX3_tell_0 rfl (lv_at hl 1 rfl) ?_
  by_cases e1_4 : v = 4
  · refine lv_tableIn (tgt := 40) (off := 39) hx hb dX3_tell_1 (by rw [e1_4]; decide) (by rw [e1_4]; decide) (by rw [e1_4]; rfl) (by decide) ?_
    refine lv_aload_n hx hb dX3_tell_40 rfl (lv_at hl 0 rfl) ?_
    refine bd_g_X3_tired C hR (by omega) (by omega) qf_X3_28 dX3_tell_41 ?_
    exact bd_ri C hr hlk (hR.eq rfl rfl) hS (Nat.zero_le _) (Nat.zero_le _) dX3_tell_44 (by first | (simp (config := { decide := true }) only [kx_ptell, eq_true e1_4, ↓reduceIte, not_true_eq_false, not_false_eq_true, and_self, and_true, true_and, and_false, false_and]; done) | rfl)
  · skip
    by_cases e1_5 : v = 5
    · refine lv_tableIn (tgt := 45) (off := 44) hx hb dX3_tell_1 (by rw [e1_5]; decide) (by rw [e1_5]; decide) (by rw [e1_5]; rfl) (by decide) ?_
      refine lv_aload_n hx hb dX3_tell_45 rfl (lv_at hl 0 rfl) ?_
      refine bd_g_X3_absences C hR (by omega) (by omega) qf_X3_31 dX3_tell_46 ?_
      exact bd_ri C hr hlk (hR.eq rfl rfl) hS (Nat.zero_le _) (Nat.zero_le _) dX3_tell_49 (by first | (simp (config := { decide := true }) only [kx_ptell, eq_false e1_4, eq_true e1_5, ↓reduceIte, not_true_eq_false, not_false_eq_true, and_self, and_true, true_and, and_false, false_and]; done) | rfl)
    · skip
      by_cases e1_6 : v = 6
      · refine lv_tableIn (tgt := 50) (off := 49) hx hb dX3_tell_1 (by rw [e1_6]; decide) (by rw [e1_6]; decide) (by rw [e1_6]; rfl) (by decide) ?_
        refine lv_aload_n hx hb dX3_tell_50 rfl (lv_at hl 0 rfl) ?_
        refine bd_g_X3_band C hR (by omega) (by omega) qf_X3_15 dX3_tell_51 ?_
        exact bd_ri C hr hlk (hR.eq rfl rfl) hS (Nat.zero_le _) (Nat.zero_le _) dX3_tell_54 (by first | (simp (config := { decide := true }) only [kx_ptell, eq_false e1_4, eq_false e1_5, eq_true e1_6, ↓reduceIte, not_true_eq_false, not_false_eq_true, and_self, and_true, true_and, and_false, false_and]; done) | rfl)
      · skip
        by_cases e1_7 : v = 7
        · refine lv_tableIn (tgt := 55) (off := 54) hx hb dX3_tell_1 (by rw [e1_7]; decide) (by rw [e1_7]; decide) (by rw [e1_7]; rfl) (by decide) ?_
          refine lv_aload_n hx hb dX3_tell_55 rfl (lv_at hl 0 rfl) ?_
          refine bd_g_X3_seat C hR (by omega) (by omega) qf_X3_19 dX3_tell_56 ?_
          exact bd_ri C hr hlk (hR.eq rfl rfl) hS (Nat.zero_le _) (Nat.zero_le _) dX3_tell_59 (by first | (simp (config := { decide := true }) only [kx_ptell, eq_false e1_4, eq_false e1_5, eq_false e1_6, eq_true e1_7, ↓reduceIte, not_true_eq_false, not_false_eq_true, and_self, and_true, true_and, and_false, false_and]; done) | rfl)
        · skip
          by_cases e1_8 : v = 8
          · refine lv_tableIn (tgt := 60) (off := 59) hx hb dX3_tell_1 (by rw [e1_8]; decide) (by rw [e1_8]; decide) (by rw [e1_8]; rfl) (by decide) ?_
            refine lv_aload_n hx hb dX3_tell_60 rfl (lv_at hl 0 rfl) ?_
            refine bd_g_X3_sittings C hR (by omega) (by omega) qf_X3_34 dX3_tell_61 ?_
            exact bd_ri C hr hlk (hR.eq rfl rfl) hS (Nat.zero_le _) (Nat.zero_le _) dX3_tell_64 (by first | (simp (config := { decide := true }) only [kx_ptell, eq_false e1_4, eq_false e1_5, eq_false e1_6, eq_false e1_7, eq_true e1_8, ↓reduceIte, not_true_eq_false, not_false_eq_true, and_self, and_true, true_and, and_false, false_and]; done) | rfl)
          · skip
            by_cases e1_9 : v = 9
            · refine lv_tableIn (tgt := 65) (off := 64) hx hb dX3_tell_1 (by rw [e1_9]; decide) (by rw [e1_9]; decide) (by rw [e1_9]; rfl) (by decide) ?_
              refine lv_aload_n hx hb dX3_tell_65 rfl (lv_at hl 0 rfl) ?_
              refine bd_g_X3_deputySittings C hR (by omega) (by omega) qf_X3_37 dX3_tell_66 ?_
              exact bd_ri C hr hlk (hR.eq rfl rfl) hS (Nat.zero_le _) (Nat.zero_le _) dX3_tell_69 (by first | (simp (config := { decide := true }) only [kx_ptell, eq_false e1_4, eq_false e1_5, eq_false e1_6, eq_false e1_7, eq_false e1_8, eq_true e1_9, ↓reduceIte, not_true_eq_false, not_false_eq_true, and_self, and_true, true_and, and_false, false_and]; done) | rfl)
            · skip
              have x1_4 := bd_nei e1_4
              have x1_5 := bd_nei e1_5
              have x1_6 := bd_nei e1_6
              have x1_7 := bd_nei e1_7
              have x1_8 := bd_nei e1_8
              have x1_9 := bd_nei e1_9
              have y1 : (v).toInt < 4 ∨ 9 < (v).toInt := by
                simp only [show ((4 : Int32).toInt) = 4 from rfl, show ((5 : Int32).toInt) = 5 from rfl, show ((6 : Int32).toInt) = 6 from rfl, show ((7 : Int32).toInt) = 7 from rfl, show ((8 : Int32).toInt) = 8 from rfl, show ((9 : Int32).toInt) = 9 from rfl] at x1_4 x1_5 x1_6 x1_7 x1_8 x1_9
                omega
              refine lv_tableOut (tgt := 70) hx hb dX3_tell_1 y1 (by decide) ?_
              refine lv_aload_n hx hb dX3_tell_70 rfl (lv_at hl 0 rfl) ?_
              refine lv_iload_n hx hb dX3_tell_71 rfl (lv_at hl 1 rfl) ?_
              refine bd_cV1 [.int v] [] C (k_X3_skillFor l E xm ym om w k v (by omega) (by omega)) hR hS (bd_recv C.2 hR ⟨by decide, show w < 2 by omega, show k < 24 by omega⟩ rfl rfl) qm_X3_56 qi_X3_skillFor qs_X3_skillFor qz_X3 qc_X3_skillFor qp_X3_skillFor ⟨Nat.le_of_ble_eq_true rfl, Nat.le_of_ble_eq_true rfl⟩ hl.1 (Nat.le_of_ble_eq_true rfl) dX3_tell_72 ⟨Nat.le_of_ble_eq_true rfl, Nat.le_of_ble_eq_true rfl⟩ (fun H locs hR hS hz72 => ?_)
              exact bd_ri C hr hlk (hR.eq rfl rfl) hS (Nat.zero_le _) (Nat.zero_le _) dX3_tell_75 (by first | (simp (config := { decide := true }) only [kx_ptell, eq_false e1_4, eq_false e1_5, eq_false e1_6, eq_false e1_7, eq_false e1_8, eq_false e1_9, ↓reduceIte, not_true_eq_false, not_false_eq_true, and_self, and_true, true_and, and_false, false_and]; done) | rfl)
set_option maxHeartbeats 4000000 in
set_option maxRecDepth 100000 in
theorem k_X1_isEmpty (l : Launch) (E : bd_E) (xm ym : bd_M) (om : Nat → Int64) (w : Nat) (k : Nat) (hw : w < 2) (hk : k < 48) : bd_Ct l yX1_isEmpty cX1_isEmpty 1 (some .boolean) 0 0 0 0 E [.ref (bd_ea E 11 w k)] xm ym om xm ym om (some (.int (if xm 12 w k = (-1) then 1 else 0))) := by
  refine bd_open RX1 rfl (by decide) (Nat.le_of_ble_eq_true rfl) ?_
  intro p e s m args below meth c ls C hr hlk hS hR hl
  have hx := C.1.1
  have hb := C.1.2.1
  have hl : lv_has ls 1 [(0, .ref (bd_ea E 11 w k))] := hl
  refine lv_aload_n hx hb dX1_isEmpty_0 rfl (lv_at hl 0 rfl) ?_
  refine bd_g_X1_sitter C hR (by omega) (by omega) qf_X1_15 dX1_isEmpty_1 ?_
  refine lv_iconst (v := (-1)) hx hb dX1_isEmpty_4 (by decide) ?_
  refine lv_icmp_ne (tgt := 12) hx hb dX1_isEmpty_5 (by decide) (fun c5 => ?_) (fun c5 => ?_)
  · skip
    refine lv_iconst (v := 0) hx hb dX1_isEmpty_12 (by decide) ?_
    exact bd_rz C hr hlk (hR.eq rfl rfl) hS (Nat.zero_le _) (Nat.zero_le _) dX1_isEmpty_13 rfl (by first | (simp (config := { decide := true }) only [eq_false c5, ↓reduceIte, not_true_eq_false, not_false_eq_true, and_self, and_true, true_and, and_false, false_and]; done) | rfl)
  · skip
    refine lv_iconst (v := 1) hx hb dX1_isEmpty_8 (by decide) ?_
    refine lv_goto (tgt := 13) hx hb dX1_isEmpty_9 (by decide) ?_
    exact bd_rz C hr hlk (hR.eq rfl rfl) hS (Nat.zero_le _) (Nat.zero_le _) dX1_isEmpty_13 rfl (by first | (simp (config := { decide := true }) only [eq_true c5, ↓reduceIte, not_true_eq_false, not_false_eq_true, and_self, and_true, true_and, and_false, false_and]; done) | rfl)
set_option maxHeartbeats 4000000 in
set_option maxRecDepth 100000 in
theorem k_X1_hasOwn (l : Launch) (E : bd_E) (xm ym : bd_M) (om : Nat → Int64) (w : Nat) (k : Nat) (hw : w < 2) (hk : k < 48) : bd_Ct l yX1_hasOwn cX1_hasOwn 1 (some .boolean) 0 0 0 0 E [.ref (bd_ea E 11 w k)] xm ym om xm ym om (some (.int (if kx_own xm w k then 1 else 0))) := by
  refine bd_open RX1 rfl (by decide) (Nat.le_of_ble_eq_true rfl) ?_
  intro p e s m args below meth c ls C hr hlk hS hR hl
  have hx := C.1.1
  have hb := C.1.2.1
  have hl : lv_has ls 1 [(0, .ref (bd_ea E 11 w k))] := hl
  refine lv_aload_n hx hb dX1_hasOwn_0 rfl (lv_at hl 0 rfl) ?_
  refine bd_g_X1_sitter C hR (by omega) (by omega) qf_X1_15 dX1_hasOwn_1 ?_
  refine lv_iconst (v := (-1)) hx hb dX1_hasOwn_4 (by decide) ?_
  refine lv_icmp_eq (tgt := 23) hx hb dX1_hasOwn_5 (by decide) (fun c5 => ?_) (fun c5 => ?_)
  · skip
    refine lv_iconst (v := 0) hx hb dX1_hasOwn_23 (by decide) ?_
    exact bd_rz C hr hlk (hR.eq rfl rfl) hS (Nat.zero_le _) (Nat.zero_le _) dX1_hasOwn_24 rfl (by first | (simp (config := { decide := true }) only [kx_own, eq_true c5, ↓reduceIte, not_true_eq_false, not_false_eq_true, and_self, and_true, true_and, and_false, false_and]; done) | rfl)
  · skip
    refine lv_aload_n hx hb dX1_hasOwn_8 rfl (lv_at hl 0 rfl) ?_
    refine bd_g_X1_sitter C hR (by omega) (by omega) qf_X1_15 dX1_hasOwn_9 ?_
    refine lv_aload_n hx hb dX1_hasOwn_12 rfl (lv_at hl 0 rfl) ?_
    refine bd_g_X1_member C hR (by omega) (by omega) qf_X1_9 dX1_hasOwn_13 ?_
    refine lv_icmp_ne (tgt := 23) hx hb dX1_hasOwn_16 (by decide) (fun c16 => ?_) (fun c16 => ?_)
    · skip
      refine lv_iconst (v := 0) hx hb dX1_hasOwn_23 (by decide) ?_
      exact bd_rz C hr hlk (hR.eq rfl rfl) hS (Nat.zero_le _) (Nat.zero_le _) dX1_hasOwn_24 rfl (by first | (simp (config := { decide := true }) only [kx_own, eq_false c5, eq_false c16, ↓reduceIte, not_true_eq_false, not_false_eq_true, and_self, and_true, true_and, and_false, false_and]; done) | rfl)
    · skip
      refine lv_iconst (v := 1) hx hb dX1_hasOwn_19 (by decide) ?_
      refine lv_goto (tgt := 24) hx hb dX1_hasOwn_20 (by decide) ?_
      exact bd_rz C hr hlk (hR.eq rfl rfl) hS (Nat.zero_le _) (Nat.zero_le _) dX1_hasOwn_24 rfl (by first | (simp (config := { decide := true }) only [kx_own, eq_false c5, eq_true c16, ↓reduceIte, not_true_eq_false, not_false_eq_true, and_self, and_true, true_and, and_false, false_and]; done) | rfl)
set_option maxHeartbeats 4000000 in
set_option maxRecDepth 100000 in
theorem k_X1_hasDeputy (l : Launch) (E : bd_E) (xm ym : bd_M) (om : Nat → Int64) (w : Nat) (k : Nat) (hw : w < 2) (hk : k < 48) : bd_Ct l yX1_hasDeputy cX1_hasDeputy 1 (some .boolean) 0 0 0 0 E [.ref (bd_ea E 11 w k)] xm ym om xm ym om (some (.int (if kx_dep xm w k then 1 else 0))) := by
  refine bd_open RX1 rfl (by decide) (Nat.le_of_ble_eq_true rfl) ?_
  intro p e s m args below meth c ls C hr hlk hS hR hl
  have hx := C.1.1
  have hb := C.1.2.1
  have hl : lv_has ls 1 [(0, .ref (bd_ea E 11 w k))] := hl
  refine lv_aload_n hx hb dX1_hasDeputy_0 rfl (lv_at hl 0 rfl) ?_
  refine bd_g_X1_sitter C hR (by omega) (by omega) qf_X1_15 dX1_hasDeputy_1 ?_
  refine lv_iconst (v := (-1)) hx hb dX1_hasDeputy_4 (by decide) ?_
  refine lv_icmp_eq (tgt := 23) hx hb dX1_hasDeputy_5 (by decide) (fun c5 => ?_) (fun c5 => ?_)
  · skip
    refine lv_iconst (v := 0) hx hb dX1_hasDeputy_23 (by decide) ?_
    exact bd_rz C hr hlk (hR.eq rfl rfl) hS (Nat.zero_le _) (Nat.zero_le _) dX1_hasDeputy_24 rfl (by first | (simp (config := { decide := true }) only [kx_dep, eq_true c5, ↓reduceIte, not_true_eq_false, not_false_eq_true, and_self, and_true, true_and, and_false, false_and]; done) | rfl)
  · skip
    refine lv_aload_n hx hb dX1_hasDeputy_8 rfl (lv_at hl 0 rfl) ?_
    refine bd_g_X1_sitter C hR (by omega) (by omega) qf_X1_15 dX1_hasDeputy_9 ?_
    refine lv_aload_n hx hb dX1_hasDeputy_12 rfl (lv_at hl 0 rfl) ?_
    refine bd_g_X1_member C hR (by omega) (by omega) qf_X1_9 dX1_hasDeputy_13 ?_
    refine lv_icmp_eq (tgt := 23) hx hb dX1_hasDeputy_16 (by decide) (fun c16 => ?_) (fun c16 => ?_)
    · skip
      refine lv_iconst (v := 0) hx hb dX1_hasDeputy_23 (by decide) ?_
      exact bd_rz C hr hlk (hR.eq rfl rfl) hS (Nat.zero_le _) (Nat.zero_le _) dX1_hasDeputy_24 rfl (by first | (simp (config := { decide := true }) only [kx_dep, eq_false c5, eq_true c16, ↓reduceIte, not_true_eq_false, not_false_eq_true, and_self, and_true, true_and, and_false, false_and]; done) | rfl)
    · skip
      refine lv_iconst (v := 1) hx hb dX1_hasDeputy_19 (by decide) ?_
      refine lv_goto (tgt := 24) hx hb dX1_hasDeputy_20 (by decide) ?_
      exact bd_rz C hr hlk (hR.eq rfl rfl) hS (Nat.zero_le _) (Nat.zero_le _) dX1_hasDeputy_24 rfl (by first | (simp (config := { decide := true }) only [kx_dep, eq_false c5, eq_false c16, ↓reduceIte, not_true_eq_false, not_false_eq_true, and_self, and_true, true_and, and_false, false_and]; done) | rfl)
set_option maxHeartbeats 4000000 in
set_option maxRecDepth 100000 in
theorem k_X1_tell (l : Launch) (E : bd_E) (xm ym : bd_M) (om : Nat → Int64) (w : Nat) (k : Nat) (v : Int32) (hw : w < 2) (hk : k < 48) : bd_Ct l yX1_tell cX1_tell 2 (some .int) 0 0 0 0 E [.ref (bd_ea E 11 w k), .int v] xm ym om xm ym om (some (.int (kx_ctell xm w k v))) := by
  refine bd_open RX1 rfl (by decide) (Nat.le_of_ble_eq_true rfl) ?_
  intro p e s m args below meth c ls C hr hlk hS hR hl
  have hx := C.1.1
  have hb := C.1.2.1
  have hl : lv_has ls 2 [(0, .ref (bd_ea E 11 w k)), (1, .int v)] := hl
  refine lv_iload_n hx hb dX1_tell_0 rfl (lv_at hl 1 rfl) ?_
  by_cases e1_0 : v = 0
  · refine lv_lookup (tgt := 28) (off := 27) hx hb dX1_tell_1 (by decide) (by rw [e1_0]; rfl) (by decide) ?_
    refine lv_aload_n hx hb dX1_tell_28 rfl (lv_at hl 0 rfl) ?_
    refine bd_g_X1_instrument C hR (by omega) (by omega) qf_X1_18 dX1_tell_29 ?_
    exact bd_ri C hr hlk (hR.eq rfl rfl) hS (Nat.zero_le _) (Nat.zero_le _) dX1_tell_32 (by first | (simp (config := { decide := true }) only [kx_ctell, eq_true e1_0, ↓reduceIte, not_true_eq_false, not_false_eq_true, and_self, and_true, true_and, and_false, false_and]; done) | rfl)
  · skip
    by_cases e1_1 : v = 1
    · refine lv_lookup (tgt := 33) (off := 32) hx hb dX1_tell_1 (by decide) (by rw [e1_1]; rfl) (by decide) ?_
      refine lv_aload_n hx hb dX1_tell_33 rfl (lv_at hl 0 rfl) ?_
      refine bd_g_X1_member C hR (by omega) (by omega) qf_X1_9 dX1_tell_34 ?_
      exact bd_ri C hr hlk (hR.eq rfl rfl) hS (Nat.zero_le _) (Nat.zero_le _) dX1_tell_37 (by first | (simp (config := { decide := true }) only [kx_ctell, eq_false e1_0, eq_true e1_1, ↓reduceIte, not_true_eq_false, not_false_eq_true, and_self, and_true, true_and, and_false, false_and]; done) | rfl)
    · skip
      have x1_0 := bd_nei e1_0
      have x1_1 := bd_nei e1_1
      refine lv_lookup (tgt := 38) (off := 37) hx hb dX1_tell_1 (by decide) (by simp only [show ((0 : Int32).toInt) = 0 from rfl, show ((1 : Int32).toInt) = 1 from rfl] at x1_0 x1_1; simp [Op.lookupswitch.offset, x1_0, Ne.symm x1_0, x1_1, Ne.symm x1_1]) (by decide) ?_
      refine lv_aload_n hx hb dX1_tell_38 rfl (lv_at hl 0 rfl) ?_
      refine bd_g_X1_sitter C hR (by omega) (by omega) qf_X1_15 dX1_tell_39 ?_
      exact bd_ri C hr hlk (hR.eq rfl rfl) hS (Nat.zero_le _) (Nat.zero_le _) dX1_tell_42 (by first | (simp (config := { decide := true }) only [kx_ctell, eq_false e1_0, eq_false e1_1, ↓reduceIte, not_true_eq_false, not_false_eq_true, and_self, and_true, true_and, and_false, false_and]; done) | rfl)
set_option maxHeartbeats 4000000 in
set_option maxRecDepth 100000 in
theorem k_X1_copyFrom (l : Launch) (E : bd_E) (xm ym : bd_M) (om : Nat → Int64) (w : Nat) (k : Nat) (w2 : Nat) (k2 : Nat) (hw : w < 2) (hk : k < 48) (hw2 : w2 < 2) (hk2 : k2 < 48) : bd_Ct l yX1_copyFrom cX1_copyFrom 2 none 0 0 0 0 E [.ref (bd_ea E 11 w k), .ref (bd_ea E 11 w2 k2)] xm ym om (kx_ccopy xm w k w2 k2) ym om (none) := by
  refine bd_open RX1 rfl (by decide) (Nat.le_of_ble_eq_true rfl) ?_
  intro p e s m args below meth c ls C hr hlk hS hR hl
  have hx := C.1.1
  have hb := C.1.2.1
  have hl : lv_has ls 2 [(0, .ref (bd_ea E 11 w k)), (1, .ref (bd_ea E 11 w2 k2))] := hl
  refine lv_aload_n hx hb dX1_copyFrom_0 rfl (lv_at hl 0 rfl) ?_
  refine lv_aload_n hx hb dX1_copyFrom_1 rfl (lv_at hl 1 rfl) ?_
  refine bd_g_X1_instrument C hR (by omega) (by omega) qf_X1_18 dX1_copyFrom_2 ?_
  refine bd_p_X1_instrument C hR hS (by omega) (by omega) qf_X1_18 dX1_copyFrom_5 (fun H locs hR hS => ?_)
  refine lv_aload_n hx hb dX1_copyFrom_8 rfl (lv_at hl 0 rfl) ?_
  refine lv_aload_n hx hb dX1_copyFrom_9 rfl (lv_at hl 1 rfl) ?_
  refine bd_g_X1_member C hR (by omega) (by omega) qf_X1_9 dX1_copyFrom_10 ?_
  refine bd_p_X1_member C hR hS (by omega) (by omega) qf_X1_9 dX1_copyFrom_13 (fun H locs hR hS => ?_)
  refine lv_aload_n hx hb dX1_copyFrom_16 rfl (lv_at hl 0 rfl) ?_
  refine lv_aload_n hx hb dX1_copyFrom_17 rfl (lv_at hl 1 rfl) ?_
  refine bd_g_X1_sitter C hR (by omega) (by omega) qf_X1_15 dX1_copyFrom_18 ?_
  refine bd_p_X1_sitter C hR hS (by omega) (by omega) qf_X1_15 dX1_copyFrom_21 (fun H locs hR hS => ?_)
  exact bd_rv C hr hlk (hR.eq (by first | (simp (config := { decide := true }) only [kx_ccopy, kx_c1, ↓reduceIte, not_true_eq_false, not_false_eq_true, and_self, and_true, true_and, and_false, false_and]; done) | rfl) rfl) hS (Nat.zero_le _) (Nat.zero_le _) dX1_copyFrom_24
set_option maxHeartbeats 4000000 in
set_option maxRecDepth 100000 in
theorem k_X3_copyFrom (l : Launch) (E : bd_E) (xm ym : bd_M) (om : Nat → Int64) (w : Nat) (k : Nat) (w2 : Nat) (k2 : Nat) (hw : w < 2) (hk : k < 24) (hw2 : w2 < 2) (hk2 : k2 < 24) : bd_Ct l yX3_copyFrom cX3_copyFrom 2 none 1 40 0 0 E [.ref (bd_ea E 7 w k), .ref (bd_ea E 7 w2 k2)] xm ym om (kx_pcopy xm w k w2 k2) ym om (none) := by
  refine bd_open RX3 rfl (by decide) (Nat.le_of_ble_eq_true rfl) ?_
  intro p e s m args below meth c ls C hr hlk hS hR hl
  have hx := C.1.1
  have hb := C.1.2.1
  have hl : lv_has ls 2 [(0, .ref (bd_ea E 7 w k)), (1, .ref (bd_ea E 7 w2 k2))] := hl
  refine lv_aload_n hx hb dX3_copyFrom_0 rfl (lv_at hl 1 rfl) ?_
  refine bd_g_X3_skills C hR (by omega) (by omega) qf_X3_9 dX3_copyFrom_1 ?_
  refine lv_iconst (v := 0) hx hb dX3_copyFrom_4 (by decide) ?_
  refine lv_aload_n hx hb dX3_copyFrom_5 rfl (lv_at hl 0 rfl) ?_
  refine bd_g_X3_skills C hR (by omega) (by omega) qf_X3_9 dX3_copyFrom_6 ?_
  refine lv_iconst (v := 0) hx hb dX3_copyFrom_9 (by decide) ?_
  refine lv_iconst (v := 4) hx hb dX3_copyFrom_10 (by decide) ?_
  refine bd_cpG (n := 4) (dp := 0) (sp := 0) C hR hS hl.1 qm_X3_22 (f1 := 8) (f2 := 8) ⟨by decide, show w2 < 2 by omega, show k2 < 24 by omega⟩ ⟨by decide, show w < 2 by omega, show k < 24 by omega⟩ rfl rfl (by omega) (by omega) (by omega) (by omega) (by omega) bd_skX ⟨Nat.le_of_ble_eq_true rfl, Nat.le_of_ble_eq_true rfl⟩ dX3_copyFrom_11 (fun H locs hR hS => ?_)
  obtain ⟨xn1, hxn1⟩ : ∃ z9, z9 = bd_sk xm w k (va_cpy (fun j => xm (j + 1000) w2 k2) (fun j => xm (j + 1000) w k) 0 0 4) := ⟨_, rfl⟩
  rw [← hxn1] at hR
  refine lv_aload_n hx hb dX3_copyFrom_14 rfl (lv_at hl 0 rfl) ?_
  refine lv_aload_n hx hb dX3_copyFrom_15 rfl (lv_at hl 1 rfl) ?_
  refine bd_g_X3_tired C hR (by omega) (by omega) qf_X3_28 dX3_copyFrom_16 ?_
  refine bd_p_X3_tired C hR hS (by omega) (by omega) qf_X3_28 dX3_copyFrom_19 (fun H locs hR hS => ?_)
  obtain ⟨xn2, hxn2⟩ : ∃ z9, z9 = bd_up xn1 0 w k (xn1 0 w2 k2) := ⟨_, rfl⟩
  rw [← hxn2] at hR
  refine lv_aload_n hx hb dX3_copyFrom_22 rfl (lv_at hl 0 rfl) ?_
  refine lv_aload_n hx hb dX3_copyFrom_23 rfl (lv_at hl 1 rfl) ?_
  refine bd_g_X3_absences C hR (by omega) (by omega) qf_X3_31 dX3_copyFrom_24 ?_
  refine bd_p_X3_absences C hR hS (by omega) (by omega) qf_X3_31 dX3_copyFrom_27 (fun H locs hR hS => ?_)
  obtain ⟨xn3, hxn3⟩ : ∃ z9, z9 = bd_up xn2 1 w k (xn2 1 w2 k2) := ⟨_, rfl⟩
  rw [← hxn3] at hR
  refine lv_aload_n hx hb dX3_copyFrom_30 rfl (lv_at hl 0 rfl) ?_
  refine lv_aload_n hx hb dX3_copyFrom_31 rfl (lv_at hl 1 rfl) ?_
  refine bd_g_X3_band C hR (by omega) (by omega) qf_X3_15 dX3_copyFrom_32 ?_
  refine bd_p_X3_band C hR hS (by omega) (by omega) qf_X3_15 dX3_copyFrom_35 (fun H locs hR hS => ?_)
  obtain ⟨xn4, hxn4⟩ : ∃ z9, z9 = bd_up xn3 2 w k (xn3 2 w2 k2) := ⟨_, rfl⟩
  rw [← hxn4] at hR
  refine lv_aload_n hx hb dX3_copyFrom_38 rfl (lv_at hl 0 rfl) ?_
  refine lv_aload_n hx hb dX3_copyFrom_39 rfl (lv_at hl 1 rfl) ?_
  refine bd_g_X3_seat C hR (by omega) (by omega) qf_X3_19 dX3_copyFrom_40 ?_
  refine bd_p_X3_seat C hR hS (by omega) (by omega) qf_X3_19 dX3_copyFrom_43 (fun H locs hR hS => ?_)
  obtain ⟨xn5, hxn5⟩ : ∃ z9, z9 = bd_up xn4 3 w k (xn4 3 w2 k2) := ⟨_, rfl⟩
  rw [← hxn5] at hR
  refine lv_aload_n hx hb dX3_copyFrom_46 rfl (lv_at hl 0 rfl) ?_
  refine lv_aload_n hx hb dX3_copyFrom_47 rfl (lv_at hl 1 rfl) ?_
  refine bd_g_X3_sittings C hR (by omega) (by omega) qf_X3_34 dX3_copyFrom_48 ?_
  refine bd_p_X3_sittings C hR hS (by omega) (by omega) qf_X3_34 dX3_copyFrom_51 (fun H locs hR hS => ?_)
  obtain ⟨xn6, hxn6⟩ : ∃ z9, z9 = bd_up xn5 4 w k (xn5 4 w2 k2) := ⟨_, rfl⟩
  rw [← hxn6] at hR
  refine lv_aload_n hx hb dX3_copyFrom_54 rfl (lv_at hl 0 rfl) ?_
  refine lv_aload_n hx hb dX3_copyFrom_55 rfl (lv_at hl 1 rfl) ?_
  refine bd_g_X3_deputySittings C hR (by omega) (by omega) qf_X3_37 dX3_copyFrom_56 ?_
  refine bd_p_X3_deputySittings C hR hS (by omega) (by omega) qf_X3_37 dX3_copyFrom_59 (fun H locs hR hS => ?_)
  obtain ⟨xn7, hxn7⟩ : ∃ z9, z9 = bd_up xn6 5 w k (xn6 5 w2 k2) := ⟨_, rfl⟩
  rw [← hxn7] at hR
  exact bd_rv C hr hlk (hR.eq (by first | rfl | (subst_vars; rfl)) rfl) hS (Nat.zero_le _) (Nat.zero_le _) dX3_copyFrom_62
