/-! THE SEASON -/
set_option maxHeartbeats 4000000 in
set_option maxRecDepth 100000 in
theorem k_X4_playerAt (l : Launch) (E : bd_E) (xm ym : bd_M) (om : Nat → Int64) (w : Nat) (n : Nat) (nb : Nat) (z : (Nat→Nat)) (v : Int32) (hw : w < 2) (hs : kx_Sh xm w n nb z) : bd_Ct l yX4_playerAt cX4_playerAt 2 (some (.object "BandDay$Player")) 0 0 0 0 E [.ref (bd_ea E 1 w 0), .int v] xm ym om xm ym om (some ((if ¬ v < 0 ∧ v < nI n then Value.ref (bd_ea E 7 w v.toNatClampNeg) else Value.null))) := by
  refine bd_open RX4 rfl (by decide) (Nat.le_of_ble_eq_true rfl) ?_
  intro p e s m args below meth c ls C hr hlk hS hR hl
  have hx := C.1.1
  have hb := C.1.2.1
  have hs24 := hs.2.1
  have hs6 := hs.2.2.2.1
  have hl : lv_has ls 2 [(0, .ref (bd_ea E 1 w 0)), (1, .int v)] := hl
  refine lv_iload_n hx hb dX4_playerAt_0 rfl (lv_at hl 1 rfl) ?_
  refine lv_if_lt (tgt := 21) hx hb dX4_playerAt_1 (by decide) (fun c1 => ?_) (fun c1 => ?_)
  · skip
    have o : ¬ (¬ v < 0 ∧ v < nI n) := fun q => q.1 c1
    refine lv_null hx hb dX4_playerAt_21 ?_
    exact bd_ra C hr (Or.inl ⟨_, rfl⟩) hlk (hR.eq rfl rfl) hS (Nat.zero_le _) (Nat.zero_le _) dX4_playerAt_22 (Or.inl rfl) (by first | rfl | (first | rw [if_neg o] | rw [if_pos ⟨c1, Int32.not_le.mp c9⟩]))
  · skip
    refine lv_iload_n hx hb dX4_playerAt_4 rfl (lv_at hl 1 rfl) ?_
    refine lv_aload_n hx hb dX4_playerAt_5 rfl (lv_at hl 0 rfl) ?_
    refine bd_g_X4_playerCount C hR (by omega) qf_X4_32 dX4_playerAt_6 ?_
    rw [show xm 30 w 0 = nI n from (show kx_Sh xm w n nb z from hs).1]
    refine lv_icmp_ge (tgt := 21) hx hb dX4_playerAt_9 (by decide) (fun c9 => ?_) (fun c9 => ?_)
    · skip
      have o : ¬ (¬ v < 0 ∧ v < nI n) := fun q => absurd q.2 (Int32.not_lt.mpr c9)
      refine lv_null hx hb dX4_playerAt_21 ?_
      exact bd_ra C hr (Or.inl ⟨_, rfl⟩) hlk (hR.eq rfl rfl) hS (Nat.zero_le _) (Nat.zero_le _) dX4_playerAt_22 (Or.inl rfl) (by first | rfl | (first | rw [if_neg o] | rw [if_pos ⟨c1, Int32.not_le.mp c9⟩]))
    · skip
      have n12 := bd_tnl c1 (Int32.not_le.mp c9) (by omega)
      refine lv_aload_n hx hb dX4_playerAt_12 rfl (lv_at hl 0 rfl) ?_
      refine bd_g_X4_players C hR (by omega) qf_X4_11 dX4_playerAt_13 ?_
      refine lv_iload_n hx hb dX4_playerAt_16 rfl (lv_at hl 1 rfl) ?_
      refine bd_ti (j := v.toNatClampNeg) (bd_tn (by assumption)) ?_
      refine bd_ld_3 C hR (by omega) (j := v.toNatClampNeg) (by omega) dX4_playerAt_17 ?_
      refine lv_goto (tgt := 22) hx hb dX4_playerAt_18 (by decide) ?_
      exact bd_ra C hr (Or.inl ⟨_, rfl⟩) hlk (hR.eq rfl rfl) hS (Nat.zero_le _) (Nat.zero_le _) dX4_playerAt_22 (Or.inr ⟨_, rfl⟩) (by first | rfl | (first | rw [if_neg o] | rw [if_pos ⟨c1, Int32.not_le.mp c9⟩]))
set_option maxHeartbeats 4000000 in
set_option maxRecDepth 100000 in
theorem k_X4_bandAt (l : Launch) (E : bd_E) (xm ym : bd_M) (om : Nat → Int64) (w : Nat) (n : Nat) (nb : Nat) (z : (Nat→Nat)) (v : Int32) (hw : w < 2) (hs : kx_Sh xm w n nb z) : bd_Ct l yX4_bandAt cX4_bandAt 2 (some (.object "BandDay$Band")) 0 0 0 0 E [.ref (bd_ea E 1 w 0), .int v] xm ym om xm ym om (some ((if ¬ v < 0 ∧ v < nI nb then Value.ref (bd_ea E 9 w v.toNatClampNeg) else Value.null))) := by
  refine bd_open RX4 rfl (by decide) (Nat.le_of_ble_eq_true rfl) ?_
  intro p e s m args below meth c ls C hr hlk hS hR hl
  have hx := C.1.1
  have hb := C.1.2.1
  have hs24 := hs.2.1
  have hs6 := hs.2.2.2.1
  have hl : lv_has ls 2 [(0, .ref (bd_ea E 1 w 0)), (1, .int v)] := hl
  refine lv_iload_n hx hb dX4_bandAt_0 rfl (lv_at hl 1 rfl) ?_
  refine lv_if_lt (tgt := 21) hx hb dX4_bandAt_1 (by decide) (fun c1 => ?_) (fun c1 => ?_)
  · skip
    have o : ¬ (¬ v < 0 ∧ v < nI nb) := fun q => q.1 c1
    refine lv_null hx hb dX4_bandAt_21 ?_
    exact bd_ra C hr (Or.inl ⟨_, rfl⟩) hlk (hR.eq rfl rfl) hS (Nat.zero_le _) (Nat.zero_le _) dX4_bandAt_22 (Or.inl rfl) (by first | rfl | (first | rw [if_neg o] | rw [if_pos ⟨c1, Int32.not_le.mp c9⟩]))
  · skip
    refine lv_iload_n hx hb dX4_bandAt_4 rfl (lv_at hl 1 rfl) ?_
    refine lv_aload_n hx hb dX4_bandAt_5 rfl (lv_at hl 0 rfl) ?_
    refine bd_g_X4_bandCount C hR (by omega) qf_X4_40 dX4_bandAt_6 ?_
    rw [show xm 31 w 0 = nI nb from (show kx_Sh xm w n nb z from hs).2.2.1]
    refine lv_icmp_ge (tgt := 21) hx hb dX4_bandAt_9 (by decide) (fun c9 => ?_) (fun c9 => ?_)
    · skip
      have o : ¬ (¬ v < 0 ∧ v < nI nb) := fun q => absurd q.2 (Int32.not_lt.mpr c9)
      refine lv_null hx hb dX4_bandAt_21 ?_
      exact bd_ra C hr (Or.inl ⟨_, rfl⟩) hlk (hR.eq rfl rfl) hS (Nat.zero_le _) (Nat.zero_le _) dX4_bandAt_22 (Or.inl rfl) (by first | rfl | (first | rw [if_neg o] | rw [if_pos ⟨c1, Int32.not_le.mp c9⟩]))
    · skip
      have n12 := bd_tnl c1 (Int32.not_le.mp c9) (by omega)
      refine lv_aload_n hx hb dX4_bandAt_12 rfl (lv_at hl 0 rfl) ?_
      refine bd_g_X4_bands C hR (by omega) qf_X4_19 dX4_bandAt_13 ?_
      refine lv_iload_n hx hb dX4_bandAt_16 rfl (lv_at hl 1 rfl) ?_
      refine bd_ti (j := v.toNatClampNeg) (bd_tn (by assumption)) ?_
      refine bd_ld_4 C hR (by omega) (j := v.toNatClampNeg) (by omega) dX4_bandAt_17 ?_
      refine lv_goto (tgt := 22) hx hb dX4_bandAt_18 (by decide) ?_
      exact bd_ra C hr (Or.inl ⟨_, rfl⟩) hlk (hR.eq rfl rfl) hS (Nat.zero_le _) (Nat.zero_le _) dX4_bandAt_22 (Or.inr ⟨_, rfl⟩) (by first | rfl | (first | rw [if_neg o] | rw [if_pos ⟨c1, Int32.not_le.mp c9⟩]))
set_option maxHeartbeats 4000000 in
set_option maxRecDepth 100000 in
theorem k_X4_bandAt_j (l : Launch) (E : bd_E) (xm ym : bd_M) (om : Nat → Int64) (w : Nat) (n : Nat) (nb : Nat) (z : (Nat→Nat)) (b : Nat) (hw : w < 2) (hs : kx_Sh xm w n nb z) (hb : b < nb) : bd_Ct l yX4_bandAt cX4_bandAt 2 (some (.object "BandDay$Band")) 0 0 0 0 E [.ref (bd_ea E 1 w 0), .int (nI b)] xm ym om xm ym om (some (.ref (bd_ea E 9 w b))) := by
  refine bd_open RX4 rfl (by decide) (Nat.le_of_ble_eq_true rfl) ?_
  intro p e s m args below meth c ls C hr hlk hS hR hl
  have hx := C.1.1
  have hb := C.1.2.1
  have hs24 := hs.2.1
  have hs6 := hs.2.2.2.1
  have hl : lv_has ls 2 [(0, .ref (bd_ea E 1 w 0)), (1, .int (nI b))] := hl
  refine lv_iload_n hx hb dX4_bandAt_0 rfl (lv_at hl 1 rfl) ?_
  refine lv_if_lt (tgt := 21) hx hb dX4_bandAt_1 (by decide) (fun c1 => ?_) (fun c1 => ?_)
  · exact absurd c1 (nI_pos (by omega))
  · skip
    have nc1 : ¬ b < 0 := fun q9 => c1 ((nI_ltI (a := b) (b := 0) (by omega) (by omega)).mpr q9)
    refine lv_iload_n hx hb dX4_bandAt_4 rfl (lv_at hl 1 rfl) ?_
    refine lv_aload_n hx hb dX4_bandAt_5 rfl (lv_at hl 0 rfl) ?_
    refine bd_g_X4_bandCount C hR (by omega) qf_X4_40 dX4_bandAt_6 ?_
    rw [show xm 31 w 0 = nI nb from (show kx_Sh xm w n nb z from hs).2.2.1]
    refine lv_icmp_ge (tgt := 21) hx hb dX4_bandAt_9 (by decide) (fun c9 => ?_) (fun c9 => ?_)
    · exact absurd ((nI_leI (by omega) (by omega)).mp c9) (by omega)
    · skip
      have nc9 : ¬ nb ≤ b := fun q9 => c9 ((nI_leI (a := nb) (b := b) (by omega) (by omega)).mpr q9)
      refine lv_aload_n hx hb dX4_bandAt_12 rfl (lv_at hl 0 rfl) ?_
      refine bd_g_X4_bands C hR (by omega) qf_X4_19 dX4_bandAt_13 ?_
      refine lv_iload_n hx hb dX4_bandAt_16 rfl (lv_at hl 1 rfl) ?_
      refine bd_ld_4 C hR (by omega) (j := b) (by omega) dX4_bandAt_17 ?_
      refine lv_goto (tgt := 22) hx hb dX4_bandAt_18 (by decide) ?_
      exact bd_ra C hr (Or.inl ⟨_, rfl⟩) hlk (hR.eq rfl rfl) hS (Nat.zero_le _) (Nat.zero_le _) dX4_bandAt_22 (Or.inr ⟨_, rfl⟩) rfl
set_option maxHeartbeats 4000000 in
set_option maxRecDepth 100000 in
theorem k_X4_playerAt_j (l : Launch) (E : bd_E) (xm ym : bd_M) (om : Nat → Int64) (w : Nat) (n : Nat) (nb : Nat) (z : (Nat→Nat)) (k : Nat) (hw : w < 2) (hs : kx_Sh xm w n nb z) (hk : k < n) : bd_Ct l yX4_playerAt cX4_playerAt 2 (some (.object "BandDay$Player")) 0 0 0 0 E [.ref (bd_ea E 1 w 0), .int (nI k)] xm ym om xm ym om (some (.ref (bd_ea E 7 w k))) := by
  refine bd_open RX4 rfl (by decide) (Nat.le_of_ble_eq_true rfl) ?_
  intro p e s m args below meth c ls C hr hlk hS hR hl
  have hx := C.1.1
  have hb := C.1.2.1
  have hs24 := hs.2.1
  have hs6 := hs.2.2.2.1
  have hl : lv_has ls 2 [(0, .ref (bd_ea E 1 w 0)), (1, .int (nI k))] := hl
  refine lv_iload_n hx hb dX4_playerAt_0 rfl (lv_at hl 1 rfl) ?_
  refine lv_if_lt (tgt := 21) hx hb dX4_playerAt_1 (by decide) (fun c1 => ?_) (fun c1 => ?_)
  · exact absurd c1 (nI_pos (by omega))
  · skip
    have nc1 : ¬ k < 0 := fun q9 => c1 ((nI_ltI (a := k) (b := 0) (by omega) (by omega)).mpr q9)
    refine lv_iload_n hx hb dX4_playerAt_4 rfl (lv_at hl 1 rfl) ?_
    refine lv_aload_n hx hb dX4_playerAt_5 rfl (lv_at hl 0 rfl) ?_
    refine bd_g_X4_playerCount C hR (by omega) qf_X4_32 dX4_playerAt_6 ?_
    rw [show xm 30 w 0 = nI n from (show kx_Sh xm w n nb z from hs).1]
    refine lv_icmp_ge (tgt := 21) hx hb dX4_playerAt_9 (by decide) (fun c9 => ?_) (fun c9 => ?_)
    · exact absurd ((nI_leI (by omega) (by omega)).mp c9) (by omega)
    · skip
      have nc9 : ¬ n ≤ k := fun q9 => c9 ((nI_leI (a := n) (b := k) (by omega) (by omega)).mpr q9)
      refine lv_aload_n hx hb dX4_playerAt_12 rfl (lv_at hl 0 rfl) ?_
      refine bd_g_X4_players C hR (by omega) qf_X4_11 dX4_playerAt_13 ?_
      refine lv_iload_n hx hb dX4_playerAt_16 rfl (lv_at hl 1 rfl) ?_
      refine bd_ld_3 C hR (by omega) (j := k) (by omega) dX4_playerAt_17 ?_
      refine lv_goto (tgt := 22) hx hb dX4_playerAt_18 (by decide) ?_
      exact bd_ra C hr (Or.inl ⟨_, rfl⟩) hlk (hR.eq rfl rfl) hS (Nat.zero_le _) (Nat.zero_le _) dX4_playerAt_22 (Or.inr ⟨_, rfl⟩) rfl
set_option maxHeartbeats 4000000 in
set_option maxRecDepth 100000 in
theorem k_X0_chairAt_j (l : Launch) (E : bd_E) (xm ym : bd_M) (om : Nat → Int64) (w : Nat) (n : Nat) (nb : Nat) (z : (Nat→Nat)) (b : Nat) (q : Nat) (hw : w < 2) (hs : kx_Sh xm w n nb z) (hb6 : b < 6) (hq : q < z b) : bd_Ct l yX0_chairAt cX0_chairAt 2 (some (.object "BandDay$Chair")) 0 0 0 0 E [.ref (bd_ea E 9 w b), .int (nI q)] xm ym om xm ym om (some (.ref (bd_ea E 11 w (8 * b + q)))) := by
  refine bd_open RX0 rfl (by decide) (Nat.le_of_ble_eq_true rfl) ?_
  intro p e s m args below meth c ls C hr hlk hS hR hl
  have hx := C.1.1
  have hb := C.1.2.1
  have hs24 := hs.2.1
  have hs6 := hs.2.2.2.1
  have z8 := (hs.2.2.2.2 b hb6).2
  have hl : lv_has ls 2 [(0, .ref (bd_ea E 9 w b)), (1, .int (nI q))] := hl
  refine lv_iload_n hx hb dX0_chairAt_0 rfl (lv_at hl 1 rfl) ?_
  refine lv_if_lt (tgt := 21) hx hb dX0_chairAt_1 (by decide) (fun c1 => ?_) (fun c1 => ?_)
  · exact absurd c1 (nI_pos (by omega))
  · skip
    have nc1 : ¬ q < 0 := fun q9 => c1 ((nI_ltI (a := q) (b := 0) (by omega) (by omega)).mpr q9)
    refine lv_iload_n hx hb dX0_chairAt_4 rfl (lv_at hl 1 rfl) ?_
    refine lv_aload_n hx hb dX0_chairAt_5 rfl (lv_at hl 0 rfl) ?_
    refine bd_g_X0_size C hR (by omega) (by omega) qf_X0_31 dX0_chairAt_6 ?_
    have z6 := ((show kx_Sh xm w n nb z from hs).2.2.2.2 b (by omega)).2
    rw [show xm 20 w b = nI (z b) from ((show kx_Sh xm w n nb z from hs).2.2.2.2 b (by omega)).1]
    refine lv_icmp_ge (tgt := 21) hx hb dX0_chairAt_9 (by decide) (fun c9 => ?_) (fun c9 => ?_)
    · exact absurd ((nI_leI (by omega) (by omega)).mp c9) (by omega)
    · skip
      have nc9 : ¬ (z b) ≤ q := fun q9 => c9 ((nI_leI (a := (z b)) (b := q) (by omega) (by omega)).mpr q9)
      refine lv_aload_n hx hb dX0_chairAt_12 rfl (lv_at hl 0 rfl) ?_
      refine bd_g_X0_chairs C hR (by omega) (by omega) qf_X0_11 dX0_chairAt_13 ?_
      refine lv_iload_n hx hb dX0_chairAt_16 rfl (lv_at hl 1 rfl) ?_
      refine bd_ld_10 C hR (by omega) (by omega) (j := q) (by omega) dX0_chairAt_17 ?_
      refine lv_goto (tgt := 22) hx hb dX0_chairAt_18 (by decide) ?_
      exact bd_ra C hr (Or.inl ⟨_, rfl⟩) hlk (hR.eq rfl rfl) hS (Nat.zero_le _) (Nat.zero_le _) dX0_chairAt_22 (Or.inr ⟨_, rfl⟩) rfl
set_option maxHeartbeats 4000000 in
set_option maxRecDepth 100000 in
theorem k_X4_chairAt (l : Launch) (E : bd_E) (xm ym : bd_M) (om : Nat → Int64) (w : Nat) (n : Nat) (nb : Nat) (z : (Nat→Nat)) (v1 : Int32) (v2 : Int32) (hw : w < 2) (hs : kx_Sh xm w n nb z) : bd_Ct l yX4_chairAt cX4_chairAt 4 (some (.object "BandDay$Chair")) 1 21 0 0 E [.ref (bd_ea E 1 w 0), .int v1, .int v2] xm ym om xm ym om (some ((if kx_chOk nb z v1 v2 then Value.ref (bd_ea E 11 w (8 * v1.toNatClampNeg + v2.toNatClampNeg)) else Value.null))) := by
  refine bd_open RX4 rfl (by decide) (Nat.le_of_ble_eq_true rfl) ?_
  intro p e s m args below meth c ls C hr hlk hS hR hl
  have hx := C.1.1
  have hb := C.1.2.1
  have hs24 := hs.2.1
  have hs6 := hs.2.2.2.1
  have hl : lv_has ls 4 [(0, .ref (bd_ea E 1 w 0)), (1, .int v1), (2, .int v2)] := hl
  refine lv_aload_n hx hb dX4_chairAt_0 rfl (lv_at hl 0 rfl) ?_
  refine lv_iload_n hx hb dX4_chairAt_1 rfl (lv_at hl 1 rfl) ?_
  refine bd_cV1 [.int v1] [] C (k_X4_bandAt l E xm ym om w n nb z v1 (by omega) hs) hR hS (bd_recv C.2 hR ⟨by decide, show w < 2 by omega, (by decide)⟩ rfl rfl) qm_X4_61 qi_X4_bandAt qs_X4_bandAt qz_X4 qc_X4_bandAt qp_X4_bandAt ⟨Nat.le_of_ble_eq_true rfl, Nat.le_of_ble_eq_true rfl⟩ hl.1 (Nat.le_of_ble_eq_true rfl) dX4_chairAt_2 ⟨Nat.le_of_ble_eq_true rfl, Nat.le_of_ble_eq_true rfl⟩ (fun H locs hR hS hz2 => ?_)
  by_cases o2 : ¬ v1 < 0 ∧ v1 < nI nb
  · rw [if_pos o2]
    have no2 := bd_tnl o2.1 o2.2 (by omega)
    refine lv_astore_n (lv' := [(3, .ref (bd_ea E 9 w v1.toNatClampNeg)), (0, .ref (bd_ea E 1 w 0)), (1, .int v1), (2, .int v2)]) hx hb dX4_chairAt_5 rfl hl (by decide) rfl (fun ls hl => ?_)
    refine lv_aload_n hx hb dX4_chairAt_6 rfl (lv_at hl 0 rfl) ?_
    refine lv_ifnonnull (tgt := 14) hx hb dX4_chairAt_7 (by decide) ?_
    refine lv_aload_n hx hb dX4_chairAt_14 rfl (lv_at hl 0 rfl) ?_
    refine lv_iload_n hx hb dX4_chairAt_15 rfl (lv_at hl 3 rfl) ?_
    refine bd_cV1 [.int v2] [] C (k_X0_chairAt l E xm ym om w n nb z v1.toNatClampNeg v2 (by omega) hs (by omega)) hR hS (bd_recv C.2 hR ⟨by decide, show w < 2 by omega, show v1.toNatClampNeg < 6 by omega⟩ rfl rfl) qm_X4_65 qi_X0_chairAt qs_X0_chairAt qz_X0 qc_X0_chairAt qp_X0_chairAt ⟨Nat.le_of_ble_eq_true rfl, Nat.le_of_ble_eq_true rfl⟩ hl.1 (Nat.le_of_ble_eq_true rfl) dX4_chairAt_16 ⟨Nat.le_of_ble_eq_true rfl, Nat.le_of_ble_eq_true rfl⟩ (fun H locs hR hS hz16 => ?_)
    by_cases o16 : ¬ v2 < 0 ∧ v2 < nI (z v1.toNatClampNeg)
    · rw [if_pos o16]
      have z8 := (hs.2.2.2.2 v1.toNatClampNeg (by omega)).2
      have no16 := bd_tnl o16.1 o16.2 (by omega)
      exact bd_ra C hr (Or.inl ⟨_, rfl⟩) hlk (hR.eq rfl rfl) hS (Nat.zero_le _) (Nat.zero_le _) dX4_chairAt_19 (Or.inr ⟨_, rfl⟩) (by first | rfl | (rw [if_pos ⟨o2, o16⟩]))
    · rw [if_neg o16]
      exact bd_ra C hr (Or.inl ⟨_, rfl⟩) hlk (hR.eq rfl rfl) hS (Nat.zero_le _) (Nat.zero_le _) dX4_chairAt_19 (Or.inl rfl) (by first | rfl | (rw [if_neg (fun q => o16 q.2)]))
  · rw [if_neg o2]
    refine lv_astore_nN (lv' := [(3, .null), (0, .ref (bd_ea E 1 w 0)), (1, .int v1), (2, .int v2)]) hx hb dX4_chairAt_5 rfl hl (by decide) rfl (fun ls hl => ?_)
    refine lv_aload_nN hx hb dX4_chairAt_6 rfl (lv_at hl 0 rfl) ?_
    refine lv_ifnonnullN hx hb dX4_chairAt_7 ?_
    refine lv_null hx hb dX4_chairAt_10 ?_
    refine lv_goto (tgt := 19) hx hb dX4_chairAt_11 (by decide) ?_
    exact bd_ra C hr (Or.inl ⟨_, rfl⟩) hlk (hR.eq rfl rfl) hS (Nat.zero_le _) (Nat.zero_le _) dX4_chairAt_19 (Or.inl rfl) (by first | rfl | (rw [if_neg (fun q => o2 q.1)]))
set_option maxHeartbeats 4000000 in
set_option maxRecDepth 100000 in
theorem k_X4_chairAt_j (l : Launch) (E : bd_E) (xm ym : bd_M) (om : Nat → Int64) (w : Nat) (n : Nat) (nb : Nat) (z : (Nat→Nat)) (b : Nat) (q : Nat) (hw : w < 2) (hs : kx_Sh xm w n nb z) (hb : b < nb) (hq : q < z b) : bd_Ct l yX4_chairAt cX4_chairAt 4 (some (.object "BandDay$Chair")) 1 21 0 0 E [.ref (bd_ea E 1 w 0), .int (nI b), .int (nI q)] xm ym om xm ym om (some (.ref (bd_ea E 11 w (8 * b + q)))) := by
  refine bd_open RX4 rfl (by decide) (Nat.le_of_ble_eq_true rfl) ?_
  intro p e s m args below meth c ls C hr hlk hS hR hl
  have hx := C.1.1
  have hb := C.1.2.1
  have hs24 := hs.2.1
  have hs6 := hs.2.2.2.1
  have hl : lv_has ls 4 [(0, .ref (bd_ea E 1 w 0)), (1, .int (nI b)), (2, .int (nI q))] := hl
  refine lv_aload_n hx hb dX4_chairAt_0 rfl (lv_at hl 0 rfl) ?_
  refine lv_iload_n hx hb dX4_chairAt_1 rfl (lv_at hl 1 rfl) ?_
  refine bd_cV1 [.int (nI b)] [] C (k_X4_bandAt_j l E xm ym om w n nb z b (by omega) hs (by omega)) hR hS (bd_recv C.2 hR ⟨by decide, show w < 2 by omega, (by decide)⟩ rfl rfl) qm_X4_61 qi_X4_bandAt qs_X4_bandAt qz_X4 qc_X4_bandAt qp_X4_bandAt ⟨Nat.le_of_ble_eq_true rfl, Nat.le_of_ble_eq_true rfl⟩ hl.1 (Nat.le_of_ble_eq_true rfl) dX4_chairAt_2 ⟨Nat.le_of_ble_eq_true rfl, Nat.le_of_ble_eq_true rfl⟩ (fun H locs hR hS hz2 => ?_)
  refine lv_astore_n (lv' := [(3, .ref (bd_ea E 9 w b)), (0, .ref (bd_ea E 1 w 0)), (1, .int (nI b)), (2, .int (nI q))]) hx hb dX4_chairAt_5 rfl hl (by decide) rfl (fun ls hl => ?_)
  refine lv_aload_n hx hb dX4_chairAt_6 rfl (lv_at hl 0 rfl) ?_
  refine lv_ifnonnull (tgt := 14) hx hb dX4_chairAt_7 (by decide) ?_
  refine lv_aload_n hx hb dX4_chairAt_14 rfl (lv_at hl 0 rfl) ?_
  refine lv_iload_n hx hb dX4_chairAt_15 rfl (lv_at hl 3 rfl) ?_
  refine bd_cV1 [.int (nI q)] [] C (k_X0_chairAt_j l E xm ym om w n nb z b q (by omega) hs (by omega) (by omega)) hR hS (bd_recv C.2 hR ⟨by decide, show w < 2 by omega, show b < 6 by omega⟩ rfl rfl) qm_X4_65 qi_X0_chairAt qs_X0_chairAt qz_X0 qc_X0_chairAt qp_X0_chairAt ⟨Nat.le_of_ble_eq_true rfl, Nat.le_of_ble_eq_true rfl⟩ hl.1 (Nat.le_of_ble_eq_true rfl) dX4_chairAt_16 ⟨Nat.le_of_ble_eq_true rfl, Nat.le_of_ble_eq_true rfl⟩ (fun H locs hR hS hz16 => ?_)
  exact bd_ra C hr (Or.inl ⟨_, rfl⟩) hlk (hR.eq rfl rfl) hS (Nat.zero_le _) (Nat.zero_le _) dX4_chairAt_19 (Or.inr ⟨_, rfl⟩) rfl
set_option maxHeartbeats 4000000 in
set_option maxRecDepth 100000 in
theorem k_X4_hardFor (l : Launch) (E : bd_E) (xm ym : bd_M) (om : Nat → Int64) (w : Nat) (n : Nat) (nb : Nat) (z : (Nat→Nat)) (v : Int32) (hw : w < 2) (hs : kx_Sh xm w n nb z) : bd_Ct l yX4_hardFor cX4_hardFor 2 (some .int) 0 0 0 0 E [.ref (bd_ea E 1 w 0), .int v] xm ym om xm ym om (some (.int (kx_hard xm w v))) := by
  refine bd_open RX4 rfl (by decide) (Nat.le_of_ble_eq_true rfl) ?_
  intro p e s m args below meth c ls C hr hlk hS hR hl
  have hx := C.1.1
  have hb := C.1.2.1
  have hs24 := hs.2.1
  have hs6 := hs.2.2.2.1
  have hl : lv_has ls 2 [(0, .ref (bd_ea E 1 w 0)), (1, .int v)] := hl
  refine lv_iload_n hx hb dX4_hardFor_0 rfl (lv_at hl 1 rfl) ?_
  refine lv_if_lt (tgt := 18) hx hb dX4_hardFor_1 (by decide) (fun c1 => ?_) (fun c1 => ?_)
  · skip
    refine lv_iconst (v := 0) hx hb dX4_hardFor_18 (by decide) ?_
    exact bd_ri C hr hlk (hR.eq rfl rfl) hS (Nat.zero_le _) (Nat.zero_le _) dX4_hardFor_19 (by first | (simp (config := { decide := true }) only [kx_hard, eq_true c1, ↓reduceIte, not_true_eq_false, not_false_eq_true, and_self, and_true, true_and, and_false, false_and]; done) | rfl)
  · skip
    refine lv_iload_n hx hb dX4_hardFor_4 rfl (lv_at hl 1 rfl) ?_
    refine lv_iconst (v := 4) hx hb dX4_hardFor_5 (by decide) ?_
    refine lv_icmp_ge (tgt := 18) hx hb dX4_hardFor_6 (by decide) (fun c6 => ?_) (fun c6 => ?_)
    · skip
      refine lv_iconst (v := 0) hx hb dX4_hardFor_18 (by decide) ?_
      exact bd_ri C hr hlk (hR.eq rfl rfl) hS (Nat.zero_le _) (Nat.zero_le _) dX4_hardFor_19 (by first | (simp (config := { decide := true }) only [kx_hard, eq_false c1, eq_true c6, ↓reduceIte, not_true_eq_false, not_false_eq_true, and_self, and_true, true_and, and_false, false_and]; done) | rfl)
    · skip
      refine lv_aload_n hx hb dX4_hardFor_9 rfl (lv_at hl 0 rfl) ?_
      refine bd_g_X4_hard C hR (by omega) qf_X4_23 dX4_hardFor_10 ?_
      have n13 := bd_tn4 c1 c6
      refine lv_iload_n hx hb dX4_hardFor_13 rfl (lv_at hl 1 rfl) ?_
      refine bd_ti (j := v.toNatClampNeg) (bd_tn (by assumption)) ?_
      refine bd_ld_5 C hR (by omega) (j := v.toNatClampNeg) (by omega) dX4_hardFor_14 ?_
      refine lv_goto (tgt := 19) hx hb dX4_hardFor_15 (by decide) ?_
      exact bd_ri C hr hlk (hR.eq rfl rfl) hS (Nat.zero_le _) (Nat.zero_le _) dX4_hardFor_19 (by first | (simp (config := { decide := true }) only [kx_hard, eq_false c1, eq_false c6, ↓reduceIte, not_true_eq_false, not_false_eq_true, and_self, and_true, true_and, and_false, false_and]; done) | rfl)
set_option maxHeartbeats 4000000 in
set_option maxRecDepth 100000 in
theorem k_X4_weightFor (l : Launch) (E : bd_E) (xm ym : bd_M) (om : Nat → Int64) (w : Nat) (n : Nat) (nb : Nat) (z : (Nat→Nat)) (v : Int32) (hw : w < 2) (hs : kx_Sh xm w n nb z) : bd_Ct l yX4_weightFor cX4_weightFor 2 (some .int) 0 0 0 0 E [.ref (bd_ea E 1 w 0), .int v] xm ym om xm ym om (some (.int (kx_wt xm w v))) := by
  refine bd_open RX4 rfl (by decide) (Nat.le_of_ble_eq_true rfl) ?_
  intro p e s m args below meth c ls C hr hlk hS hR hl
  have hx := C.1.1
  have hb := C.1.2.1
  have hs24 := hs.2.1
  have hs6 := hs.2.2.2.1
  have hl : lv_has ls 2 [(0, .ref (bd_ea E 1 w 0)), (1, .int v)] := hl
  refine lv_iload_n hx hb dX4_weightFor_0 rfl (lv_at hl 1 rfl) ?_
  refine lv_if_lt (tgt := 18) hx hb dX4_weightFor_1 (by decide) (fun c1 => ?_) (fun c1 => ?_)
  · skip
    refine lv_iconst (v := 0) hx hb dX4_weightFor_18 (by decide) ?_
    exact bd_ri C hr hlk (hR.eq rfl rfl) hS (Nat.zero_le _) (Nat.zero_le _) dX4_weightFor_19 (by first | (simp (config := { decide := true }) only [kx_wt, eq_true c1, ↓reduceIte, not_true_eq_false, not_false_eq_true, and_self, and_true, true_and, and_false, false_and]; done) | rfl)
  · skip
    refine lv_iload_n hx hb dX4_weightFor_4 rfl (lv_at hl 1 rfl) ?_
    refine lv_iconst (v := 4) hx hb dX4_weightFor_5 (by decide) ?_
    refine lv_icmp_ge (tgt := 18) hx hb dX4_weightFor_6 (by decide) (fun c6 => ?_) (fun c6 => ?_)
    · skip
      refine lv_iconst (v := 0) hx hb dX4_weightFor_18 (by decide) ?_
      exact bd_ri C hr hlk (hR.eq rfl rfl) hS (Nat.zero_le _) (Nat.zero_le _) dX4_weightFor_19 (by first | (simp (config := { decide := true }) only [kx_wt, eq_false c1, eq_true c6, ↓reduceIte, not_true_eq_false, not_false_eq_true, and_self, and_true, true_and, and_false, false_and]; done) | rfl)
    · skip
      refine lv_aload_n hx hb dX4_weightFor_9 rfl (lv_at hl 0 rfl) ?_
      refine bd_g_X4_weight C hR (by omega) qf_X4_27 dX4_weightFor_10 ?_
      have n13 := bd_tn4 c1 c6
      refine lv_iload_n hx hb dX4_weightFor_13 rfl (lv_at hl 1 rfl) ?_
      refine bd_ti (j := v.toNatClampNeg) (bd_tn (by assumption)) ?_
      refine bd_ld_6 C hR (by omega) (j := v.toNatClampNeg) (by omega) dX4_weightFor_14 ?_
      refine lv_goto (tgt := 19) hx hb dX4_weightFor_15 (by decide) ?_
      exact bd_ri C hr hlk (hR.eq rfl rfl) hS (Nat.zero_le _) (Nat.zero_le _) dX4_weightFor_19 (by first | (simp (config := { decide := true }) only [kx_wt, eq_false c1, eq_false c6, ↓reduceIte, not_true_eq_false, not_false_eq_true, and_self, and_true, true_and, and_false, false_and]; done) | rfl)
set_option maxHeartbeats 4000000 in
set_option maxRecDepth 100000 in
theorem k_X4_enrol (l : Launch) (E : bd_E) (xm ym : bd_M) (om : Nat → Int64) (w : Nat) (n : Nat) (nb : Nat) (z : (Nat→Nat)) (a : Int32) (b : Int32) (c2 : Int32) (d : Int32) (hw : w < 2) (hs : kx_Sh xm w n nb z) (hn : n < 24) : bd_Ct l yX4_enrol cX4_enrol 6 (some .int) 0 0 0 0 E [.ref (bd_ea E 1 w 0), .int a, .int b, .int c2, .int d] xm ym om (kx_enrol xm w n a b c2 d) ym om (some (.int (nI n))) := by
  refine bd_open RX4 rfl (by decide) (Nat.le_of_ble_eq_true rfl) ?_
  intro p e s m args below meth c ls C hr hlk hS hR hl
  have hx := C.1.1
  have hb := C.1.2.1
  have hs24 := hs.2.1
  have hs6 := hs.2.2.2.1
  have hl : lv_has ls 6 [(0, .ref (bd_ea E 1 w 0)), (1, .int a), (2, .int b), (3, .int c2), (4, .int d)] := hl
  refine lv_aload_n hx hb dX4_enrol_0 rfl (lv_at hl 0 rfl) ?_
  refine bd_g_X4_playerCount C hR (by omega) qf_X4_32 dX4_enrol_1 ?_
  rw [show xm 30 w 0 = nI n from (show kx_Sh xm w n nb z from hs).1]
  refine lv_bipush (v := 24) hx hb dX4_enrol_4 (by decide) ?_
  refine lv_icmp_lt (tgt := 11) hx hb dX4_enrol_6 (by decide) (fun c6 => ?_) (fun c6 => ?_)
  · skip
    have nc6 : n < 24 := (nI_ltI (a := n) (b := 24) (by omega) (by omega)).mp c6
    refine lv_aload_n hx hb dX4_enrol_11 rfl (lv_at hl 0 rfl) ?_
    refine bd_g_X4_players C hR (by omega) qf_X4_11 dX4_enrol_12 ?_
    refine lv_aload_n hx hb dX4_enrol_15 rfl (lv_at hl 0 rfl) ?_
    refine bd_g_X4_playerCount C hR (by omega) qf_X4_32 dX4_enrol_16 ?_
    rw [show xm 30 w 0 = nI n from (show kx_Sh xm w n nb z from hs).1]
    refine bd_ld_3 C hR (by omega) (j := n) (by omega) dX4_enrol_19 ?_
    refine bd_g_X3_skills C hR (by omega) (by omega) qf_X4_69 dX4_enrol_20 ?_
    refine lv_astore (lv' := [(5, .ref (bd_ea E 8 w n)), (0, .ref (bd_ea E 1 w 0)), (1, .int a), (2, .int b), (3, .int c2), (4, .int d)]) hx hb dX4_enrol_23 hl (by decide) rfl (fun ls hl => ?_)
    refine lv_aload hx hb dX4_enrol_25 (lv_at hl 0 rfl) ?_
    refine lv_iconst (v := 0) hx hb dX4_enrol_27 (by decide) ?_
    refine lv_iload_n hx hb dX4_enrol_28 rfl (lv_at hl 2 rfl) ?_
    refine bd_ti2 (j := 0) rfl ?_
    refine bd_st_8 C hR hS (by omega) (by omega) (j := 0) (by omega) dX4_enrol_29 (fun H locs hR hS => ?_)
    refine lv_aload hx hb dX4_enrol_30 (lv_at hl 0 rfl) ?_
    refine lv_iconst (v := 1) hx hb dX4_enrol_32 (by decide) ?_
    refine lv_iload_n hx hb dX4_enrol_33 rfl (lv_at hl 3 rfl) ?_
    refine bd_ti2 (j := 1) rfl ?_
    refine bd_st_8 C hR hS (by omega) (by omega) (j := 1) (by omega) dX4_enrol_34 (fun H locs hR hS => ?_)
    refine lv_aload hx hb dX4_enrol_35 (lv_at hl 0 rfl) ?_
    refine lv_iconst (v := 2) hx hb dX4_enrol_37 (by decide) ?_
    refine lv_iload_n hx hb dX4_enrol_38 rfl (lv_at hl 4 rfl) ?_
    refine bd_ti2 (j := 2) rfl ?_
    refine bd_st_8 C hR hS (by omega) (by omega) (j := 2) (by omega) dX4_enrol_39 (fun H locs hR hS => ?_)
    refine lv_aload hx hb dX4_enrol_40 (lv_at hl 0 rfl) ?_
    refine lv_iconst (v := 3) hx hb dX4_enrol_42 (by decide) ?_
    refine lv_iload hx hb dX4_enrol_43 (lv_at hl 5 rfl) ?_
    refine bd_ti2 (j := 3) rfl ?_
    refine bd_st_8 C hR hS (by omega) (by omega) (j := 3) (by omega) dX4_enrol_45 (fun H locs hR hS => ?_)
    refine lv_aload_n hx hb dX4_enrol_46 rfl (lv_at hl 1 rfl) ?_
    refine lv_dup hx hb dX4_enrol_47 rfl ?_
    refine bd_g_X4_playerCount C hR (by omega) qf_X4_32 dX4_enrol_48 ?_
    rw [show (bd_up (bd_up (bd_up (bd_up xm (0 + 1000) w n a) (1 + 1000) w n b) (2 + 1000) w n c2) (3 + 1000) w n d) 30 w 0 = nI n from (show kx_Sh (bd_up (bd_up (bd_up (bd_up xm (0 + 1000) w n a) (1 + 1000) w n b) (2 + 1000) w n c2) (3 + 1000) w n d) w n nb z from (kx_Sh_up (kx_Sh_up (kx_Sh_up (kx_Sh_up hs (by omega)) (by omega)) (by omega)) (by omega))).1]
    refine lv_iconst (v := 1) hx hb dX4_enrol_51 (by decide) ?_
    refine lv_iadd hx hb dX4_enrol_52 ?_
    rw [nI_1]
    refine bd_p_X4_playerCount C hR hS (by omega) qf_X4_32 dX4_enrol_53 (fun H locs hR hS => ?_)
    refine lv_aload_n hx hb dX4_enrol_56 rfl (lv_at hl 1 rfl) ?_
    refine bd_g_X4_playerCount C hR (by omega) qf_X4_32 dX4_enrol_57 ?_
    rw [show (bd_up (bd_up (bd_up (bd_up (bd_up xm (0 + 1000) w n a) (1 + 1000) w n b) (2 + 1000) w n c2) (3 + 1000) w n d) 30 w 0 (nI (n + 1))) 30 w 0 = nI (n + 1) from bd_up_s]
    refine lv_iconst (v := 1) hx hb dX4_enrol_60 (by decide) ?_
    refine lv_isub hx hb dX4_enrol_61 ?_
    exact bd_ri C hr hlk (hR.eq (by first | rfl | (rfl)) rfl) hS (Nat.zero_le _) (Nat.zero_le _) dX4_enrol_62 (by first | rfl | (exact nI_pred n))
  · exact absurd ((nI_ltI (a := n) (b := 24) (by omega) (by omega)).mpr (by omega)) c6
set_option maxHeartbeats 4000000 in
set_option maxRecDepth 100000 in
theorem k_X4_open (l : Launch) (E : bd_E) (xm ym : bd_M) (om : Nat → Int64) (w : Nat) (n : Nat) (nb : Nat) (z : (Nat→Nat)) (d : Int32) (q : Nat) (hw : w < 2) (hs : kx_Sh xm w n nb z) (hnb : nb < 6) (hq : q ≤ 8) : bd_Ct l yX4_open cX4_open 3 (some .int) 2 44 0 0 E [.ref (bd_ea E 1 w 0), .int d, .int (nI q)] xm ym om (kx_open xm w nb q d) ym om (some (.int (nI nb))) := by
  refine bd_open RX4 rfl (by decide) (Nat.le_of_ble_eq_true rfl) ?_
  intro p e s m args below meth c ls C hr hlk hS hR hl
  have hx := C.1.1
  have hb := C.1.2.1
  have hs24 := hs.2.1
  have hs6 := hs.2.2.2.1
  have hl : lv_has ls 3 [(0, .ref (bd_ea E 1 w 0)), (1, .int d), (2, .int (nI q))] := hl
  refine lv_aload_n hx hb dX4_open_0 rfl (lv_at hl 0 rfl) ?_
  refine bd_g_X4_bandCount C hR (by omega) qf_X4_40 dX4_open_1 ?_
  rw [show xm 31 w 0 = nI nb from (show kx_Sh xm w n nb z from hs).2.2.1]
  refine lv_bipush (v := 6) hx hb dX4_open_4 (by decide) ?_
  refine lv_icmp_lt (tgt := 11) hx hb dX4_open_6 (by decide) (fun c6 => ?_) (fun c6 => ?_)
  · skip
    have nc6 : nb < 6 := (nI_ltI (a := nb) (b := 6) (by omega) (by omega)).mp c6
    refine lv_aload_n hx hb dX4_open_11 rfl (lv_at hl 0 rfl) ?_
    refine bd_g_X4_bands C hR (by omega) qf_X4_19 dX4_open_12 ?_
    refine lv_aload_n hx hb dX4_open_15 rfl (lv_at hl 0 rfl) ?_
    refine bd_g_X4_bandCount C hR (by omega) qf_X4_40 dX4_open_16 ?_
    rw [show xm 31 w 0 = nI nb from (show kx_Sh xm w n nb z from hs).2.2.1]
    refine bd_ld_4 C hR (by omega) (j := nb) (by omega) dX4_open_19 ?_
    refine lv_iload_n hx hb dX4_open_20 rfl (lv_at hl 1 rfl) ?_
    refine lv_iload_n hx hb dX4_open_21 rfl (lv_at hl 2 rfl) ?_
    refine bd_cV0 [.int d, .int (nI q)] [] C (k_X0_furnish l E xm ym om w nb d q (by omega) (by omega) (by omega)) hR hS (bd_recv C.2 hR ⟨by decide, show w < 2 by omega, show nb < 6 by omega⟩ rfl rfl) qm_X4_72 qi_X0_furnish qs_X0_furnish qz_X0 qc_X0_furnish qp_X0_furnish ⟨Nat.le_of_ble_eq_true rfl, Nat.le_of_ble_eq_true rfl⟩ hl.1 (Nat.le_of_ble_eq_true rfl) dX4_open_22 ⟨Nat.le_of_ble_eq_true rfl, Nat.le_of_ble_eq_true rfl⟩ (fun H locs hR hS hz22 => ?_)
    refine lv_aload_n hx hb dX4_open_25 rfl (lv_at hl 0 rfl) ?_
    refine lv_dup hx hb dX4_open_26 rfl ?_
    refine bd_g_X4_bandCount C hR (by omega) qf_X4_40 dX4_open_27 ?_
    rw [show (kx_fu xm w nb q d q) 31 w 0 = nI nb from by rw [kx_fu_f (by decide) (by decide)]; exact hs.2.2.1]
    refine lv_iconst (v := 1) hx hb dX4_open_30 (by decide) ?_
    refine lv_iadd hx hb dX4_open_31 ?_
    rw [nI_1]
    refine bd_p_X4_bandCount C hR hS (by omega) qf_X4_40 dX4_open_32 (fun H locs hR hS => ?_)
    refine lv_aload_n hx hb dX4_open_35 rfl (lv_at hl 0 rfl) ?_
    refine bd_g_X4_bandCount C hR (by omega) qf_X4_40 dX4_open_36 ?_
    rw [show (bd_up (kx_fu xm w nb q d q) 31 w 0 (nI (nb + 1))) 31 w 0 = nI (nb + 1) from bd_up_s]
    refine lv_iconst (v := 1) hx hb dX4_open_39 (by decide) ?_
    refine lv_isub hx hb dX4_open_40 ?_
    exact bd_ri C hr hlk (hR.eq (by first | rfl | (rfl)) rfl) hS (Nat.zero_le _) (Nat.zero_le _) dX4_open_41 (by first | rfl | (exact nI_pred nb))
  · exact absurd ((nI_ltI (a := nb) (b := 6) (by omega) (by omega)).mpr (by omega)) c6
set_option maxHeartbeats 4000000 in
set_option maxRecDepth 100000 in
theorem k_X4_leave (l : Launch) (E : bd_E) (xm ym : bd_M) (om : Nat → Int64) (w : Nat) (n : Nat) (nb : Nat) (z : (Nat→Nat)) (v : Int32) (hw : w < 2) (hs : kx_Sh xm w n nb z) : bd_Ct l yX4_leave cX4_leave 4 none 2 44 0 0 E [.ref (bd_ea E 1 w 0), .int v] xm ym om (kx_leave xm w n nb z v) ym om (none) := by
  refine bd_open RX4 rfl (by decide) (Nat.le_of_ble_eq_true rfl) ?_
  intro p e s m args below meth c ls C hr hlk hS hR hl
  have hx := C.1.1
  have hb := C.1.2.1
  have hs24 := hs.2.1
  have hs6 := hs.2.2.2.1
  have hl : lv_has ls 4 [(0, .ref (bd_ea E 1 w 0)), (1, .int v)] := hl
  refine lv_aload_n hx hb dX4_leave_0 rfl (lv_at hl 0 rfl) ?_
  refine lv_iload_n hx hb dX4_leave_1 rfl (lv_at hl 1 rfl) ?_
  refine bd_cV1 [.int v] [] C (k_X4_playerAt l E xm ym om w n nb z v (by omega) hs) hR hS (bd_recv C.2 hR ⟨by decide, show w < 2 by omega, (by decide)⟩ rfl rfl) qm_X4_76 qi_X4_playerAt qs_X4_playerAt qz_X4 qc_X4_playerAt qp_X4_playerAt ⟨Nat.le_of_ble_eq_true rfl, Nat.le_of_ble_eq_true rfl⟩ hl.1 (Nat.le_of_ble_eq_true rfl) dX4_leave_2 ⟨Nat.le_of_ble_eq_true rfl, Nat.le_of_ble_eq_true rfl⟩ (fun H locs hR hS hz2 => ?_)
  by_cases o2 : ¬ v < 0 ∧ v < nI n
  · rw [if_pos o2]
    have no2 := bd_tnl o2.1 o2.2 (by omega)
    refine lv_astore_n (lv' := [(2, .ref (bd_ea E 7 w v.toNatClampNeg)), (0, .ref (bd_ea E 1 w 0)), (1, .int v)]) hx hb dX4_leave_5 rfl hl (by decide) rfl (fun ls hl => ?_)
    refine lv_aload_n hx hb dX4_leave_6 rfl (lv_at hl 0 rfl) ?_
    refine lv_ifnonnull (tgt := 11) hx hb dX4_leave_7 (by decide) ?_
    refine lv_aload_n hx hb dX4_leave_11 rfl (lv_at hl 1 rfl) ?_
    refine lv_aload_n hx hb dX4_leave_12 rfl (lv_at hl 0 rfl) ?_
    refine bd_g_X3_band C hR (by omega) (by omega) qf_X4_80 dX4_leave_13 ?_
    refine lv_aload_n hx hb dX4_leave_16 rfl (lv_at hl 0 rfl) ?_
    refine bd_g_X3_seat C hR (by omega) (by omega) qf_X4_83 dX4_leave_17 ?_
    refine bd_cV1 [.int (xm 2 w v.toNatClampNeg), .int (xm 3 w v.toNatClampNeg)] [] C (k_X4_chairAt l E xm ym om w n nb z (xm 2 w v.toNatClampNeg) (xm 3 w v.toNatClampNeg) (by omega) hs) hR hS (bd_recv C.2 hR ⟨by decide, show w < 2 by omega, (by decide)⟩ rfl rfl) qm_X4_86 qi_X4_chairAt qs_X4_chairAt qz_X4 qc_X4_chairAt qp_X4_chairAt ⟨Nat.le_of_ble_eq_true rfl, Nat.le_of_ble_eq_true rfl⟩ hl.1 (Nat.le_of_ble_eq_true rfl) dX4_leave_20 ⟨Nat.le_of_ble_eq_true rfl, Nat.le_of_ble_eq_true rfl⟩ (fun H locs hR hS hz20 => ?_)
    by_cases o20 : kx_chOk nb z (xm 2 w v.toNatClampNeg) (xm 3 w v.toNatClampNeg)
    · rw [if_pos o20]
      have no20 := kx_chB hs o20
      refine lv_astore_n (lv' := [(3, .ref (bd_ea E 11 w (8 * (xm 2 w v.toNatClampNeg).toNatClampNeg + (xm 3 w v.toNatClampNeg).toNatClampNeg))), (2, .ref (bd_ea E 7 w v.toNatClampNeg)), (0, .ref (bd_ea E 1 w 0)), (1, .int v)]) hx hb dX4_leave_23 rfl hl (by decide) rfl (fun ls hl => ?_)
      refine lv_aload_n hx hb dX4_leave_24 rfl (lv_at hl 0 rfl) ?_
      refine lv_ifnull hx hb dX4_leave_25 ?_
      refine lv_aload_n hx hb dX4_leave_28 rfl (lv_at hl 0 rfl) ?_
      refine lv_iconst (v := (-1)) hx hb dX4_leave_29 (by decide) ?_
      refine bd_p_X1_member C hR hS (by omega) (by omega) qf_X4_89 dX4_leave_30 (fun H locs hR hS => ?_)
      refine lv_aload_n hx hb dX4_leave_33 rfl (lv_at hl 1 rfl) ?_
      refine lv_iconst (v := (-1)) hx hb dX4_leave_34 (by decide) ?_
      refine bd_p_X3_band C hR hS (by omega) (by omega) qf_X4_80 dX4_leave_35 (fun H locs hR hS => ?_)
      refine lv_aload_n hx hb dX4_leave_38 rfl (lv_at hl 1 rfl) ?_
      refine lv_iconst (v := (-1)) hx hb dX4_leave_39 (by decide) ?_
      refine bd_p_X3_seat C hR hS (by omega) (by omega) qf_X4_83 dX4_leave_40 (fun H locs hR hS => ?_)
      exact bd_rv C hr hlk (hR.eq (by first | (simp (config := { decide := true }) only [kx_leave, kx_off, eq_true o2, eq_true o20, ↓reduceIte, not_true_eq_false, not_false_eq_true, and_self, and_true, true_and, and_false, false_and]; done) | rfl) rfl) hS (Nat.zero_le _) (Nat.zero_le _) dX4_leave_43
    · rw [if_neg o20]
      refine lv_astore_nN (lv' := [(3, .null), (2, .ref (bd_ea E 7 w v.toNatClampNeg)), (0, .ref (bd_ea E 1 w 0)), (1, .int v)]) hx hb dX4_leave_23 rfl hl (by decide) rfl (fun ls hl => ?_)
      refine lv_aload_nN hx hb dX4_leave_24 rfl (lv_at hl 0 rfl) ?_
      refine lv_ifnullN (tgt := 33) hx hb dX4_leave_25 (by decide) ?_
      refine lv_aload_n hx hb dX4_leave_33 rfl (lv_at hl 1 rfl) ?_
      refine lv_iconst (v := (-1)) hx hb dX4_leave_34 (by decide) ?_
      refine bd_p_X3_band C hR hS (by omega) (by omega) qf_X4_80 dX4_leave_35 (fun H locs hR hS => ?_)
      refine lv_aload_n hx hb dX4_leave_38 rfl (lv_at hl 1 rfl) ?_
      refine lv_iconst (v := (-1)) hx hb dX4_leave_39 (by decide) ?_
      refine bd_p_X3_seat C hR hS (by omega) (by omega) qf_X4_83 dX4_leave_40 (fun H locs hR hS => ?_)
      exact bd_rv C hr hlk (hR.eq (by first | (simp (config := { decide := true }) only [kx_leave, kx_off, eq_true o2, eq_false o20, ↓reduceIte, not_true_eq_false, not_false_eq_true, and_self, and_true, true_and, and_false, false_and]; done) | rfl) rfl) hS (Nat.zero_le _) (Nat.zero_le _) dX4_leave_43
  · rw [if_neg o2]
    refine lv_astore_nN (lv' := [(2, .null), (0, .ref (bd_ea E 1 w 0)), (1, .int v)]) hx hb dX4_leave_5 rfl hl (by decide) rfl (fun ls hl => ?_)
    refine lv_aload_nN hx hb dX4_leave_6 rfl (lv_at hl 0 rfl) ?_
    refine lv_ifnonnullN hx hb dX4_leave_7 ?_
    exact bd_rv C hr hlk (hR.eq (by first | (simp (config := { decide := true }) only [kx_leave, kx_off, eq_false o2, ↓reduceIte, not_true_eq_false, not_false_eq_true, and_self, and_true, true_and, and_false, false_and]; done) | rfl) rfl) hS (Nat.zero_le _) (Nat.zero_le _) dX4_leave_10
set_option maxHeartbeats 4000000 in
set_option maxRecDepth 100000 in
theorem k_X4_putOn (l : Launch) (E : bd_E) (xm ym : bd_M) (om : Nat → Int64) (w : Nat) (n : Nat) (nb : Nat) (z : (Nat→Nat)) (b : Nat) (q : Nat) (v : Int32) (hw : w < 2) (hs : kx_Sh xm w n nb z) (hb : b < nb) (hq : q < z b) : bd_Ct l yX4_putOn cX4_putOn 6 none 2 44 0 0 E [.ref (bd_ea E 1 w 0), .int (nI b), .int (nI q), .int v] xm ym om (kx_putOn xm w n b q v) ym om (none) := by
  refine bd_open RX4 rfl (by decide) (Nat.le_of_ble_eq_true rfl) ?_
  intro p e s m args below meth c ls C hr hlk hS hR hl
  have hx := C.1.1
  have hb := C.1.2.1
  have hs24 := hs.2.1
  have hs6 := hs.2.2.2.1
  have z8 := (hs.2.2.2.2 b (by omega)).2
  have hl : lv_has ls 6 [(0, .ref (bd_ea E 1 w 0)), (1, .int (nI b)), (2, .int (nI q)), (3, .int v)] := hl
  refine lv_aload_n hx hb dX4_putOn_0 rfl (lv_at hl 0 rfl) ?_
  refine lv_iload_n hx hb dX4_putOn_1 rfl (lv_at hl 1 rfl) ?_
  refine lv_iload_n hx hb dX4_putOn_2 rfl (lv_at hl 2 rfl) ?_
  refine bd_cV1 [.int (nI b), .int (nI q)] [] C (k_X4_chairAt_j l E xm ym om w n nb z b q (by omega) hs (by omega) (by omega)) hR hS (bd_recv C.2 hR ⟨by decide, show w < 2 by omega, (by decide)⟩ rfl rfl) qm_X4_86 qi_X4_chairAt qs_X4_chairAt qz_X4 qc_X4_chairAt qp_X4_chairAt ⟨Nat.le_of_ble_eq_true rfl, Nat.le_of_ble_eq_true rfl⟩ hl.1 (Nat.le_of_ble_eq_true rfl) dX4_putOn_3 ⟨Nat.le_of_ble_eq_true rfl, Nat.le_of_ble_eq_true rfl⟩ (fun H locs hR hS hz3 => ?_)
  refine lv_astore (lv' := [(4, .ref (bd_ea E 11 w (8 * b + q))), (0, .ref (bd_ea E 1 w 0)), (1, .int (nI b)), (2, .int (nI q)), (3, .int v)]) hx hb dX4_putOn_6 hl (by decide) rfl (fun ls hl => ?_)
  refine lv_aload hx hb dX4_putOn_8 (lv_at hl 0 rfl) ?_
  refine lv_ifnonnull (tgt := 14) hx hb dX4_putOn_10 (by decide) ?_
  refine lv_aload hx hb dX4_putOn_14 (lv_at hl 0 rfl) ?_
  refine lv_iload_n hx hb dX4_putOn_16 rfl (lv_at hl 4 rfl) ?_
  refine bd_p_X1_member C hR hS (by omega) (by omega) qf_X4_89 dX4_putOn_17 (fun H locs hR hS => ?_)
  refine lv_aload_n hx hb dX4_putOn_20 rfl (lv_at hl 1 rfl) ?_
  refine lv_iload_n hx hb dX4_putOn_21 rfl (lv_at hl 4 rfl) ?_
  refine bd_cV1 [.int v] [] C (k_X4_playerAt l E (bd_up xm 11 w (8 * b + q) v) ym om w n nb z v (by omega) (kx_Sh_up hs (by decide))) hR hS (bd_recv C.2 hR ⟨by decide, show w < 2 by omega, (by decide)⟩ rfl rfl) qm_X4_76 qi_X4_playerAt qs_X4_playerAt qz_X4 qc_X4_playerAt qp_X4_playerAt ⟨Nat.le_of_ble_eq_true rfl, Nat.le_of_ble_eq_true rfl⟩ hl.1 (Nat.le_of_ble_eq_true rfl) dX4_putOn_22 ⟨Nat.le_of_ble_eq_true rfl, Nat.le_of_ble_eq_true rfl⟩ (fun H locs hR hS hz22 => ?_)
  by_cases o22 : ¬ v < 0 ∧ v < nI n
  · rw [if_pos o22]
    have no22 := bd_tnl o22.1 o22.2 (by omega)
    refine lv_astore (lv' := [(5, .ref (bd_ea E 7 w v.toNatClampNeg)), (4, .ref (bd_ea E 11 w (8 * b + q))), (0, .ref (bd_ea E 1 w 0)), (1, .int (nI b)), (2, .int (nI q)), (3, .int v)]) hx hb dX4_putOn_25 hl (by decide) rfl (fun ls hl => ?_)
    refine lv_aload hx hb dX4_putOn_27 (lv_at hl 0 rfl) ?_
    refine lv_ifnull hx hb dX4_putOn_29 ?_
    refine lv_aload hx hb dX4_putOn_32 (lv_at hl 0 rfl) ?_
    refine lv_iload_n hx hb dX4_putOn_34 rfl (lv_at hl 3 rfl) ?_
    refine bd_p_X3_band C hR hS (by omega) (by omega) qf_X4_80 dX4_putOn_35 (fun H locs hR hS => ?_)
    refine lv_aload hx hb dX4_putOn_38 (lv_at hl 0 rfl) ?_
    refine lv_iload_n hx hb dX4_putOn_40 rfl (lv_at hl 4 rfl) ?_
    refine bd_p_X3_seat C hR hS (by omega) (by omega) qf_X4_83 dX4_putOn_41 (fun H locs hR hS => ?_)
    exact bd_rv C hr hlk (hR.eq (by first | (simp (config := { decide := true }) only [kx_putOn, eq_true o22, ↓reduceIte, not_true_eq_false, not_false_eq_true, and_self, and_true, true_and, and_false, false_and]; done) | rfl) rfl) hS (Nat.zero_le _) (Nat.zero_le _) dX4_putOn_44
  · rw [if_neg o22]
    refine lv_astoreN (lv' := [(5, .null), (4, .ref (bd_ea E 11 w (8 * b + q))), (0, .ref (bd_ea E 1 w 0)), (1, .int (nI b)), (2, .int (nI q)), (3, .int v)]) hx hb dX4_putOn_25 hl (by decide) rfl (fun ls hl => ?_)
    refine lv_aloadN hx hb dX4_putOn_27 (lv_at hl 0 rfl) ?_
    refine lv_ifnullN (tgt := 44) hx hb dX4_putOn_29 (by decide) ?_
    exact bd_rv C hr hlk (hR.eq (by first | (simp (config := { decide := true }) only [kx_putOn, eq_false o22, ↓reduceIte, not_true_eq_false, not_false_eq_true, and_self, and_true, true_and, and_false, false_and]; done) | rfl) rfl) hS (Nat.zero_le _) (Nat.zero_le _) dX4_putOn_44
set_option maxHeartbeats 4000000 in
set_option maxRecDepth 100000 in
theorem k_X4_swapMembers (l : Launch) (E : bd_E) (xm ym : bd_M) (om : Nat → Int64) (w : Nat) (n : Nat) (nb : Nat) (z : (Nat→Nat)) (b : Nat) (q : Nat) (t : Nat) (hw : w < 2) (hs : kx_Sh xm w n nb z) (hb : b < nb) (hq : q < z b) (ht : t < z b) : bd_Ct l yX4_swapMembers cX4_swapMembers 8 none 3 69 0 0 E [.ref (bd_ea E 1 w 0), .int (nI b), .int (nI q), .int (nI t)] xm ym om (kx_swap xm w n b q t) ym om (none) := by
  refine bd_open RX4 rfl (by decide) (Nat.le_of_ble_eq_true rfl) ?_
  intro p e s m args below meth c ls C hr hlk hS hR hl
  have hx := C.1.1
  have hb := C.1.2.1
  have hs24 := hs.2.1
  have hs6 := hs.2.2.2.1
  have z8 := (hs.2.2.2.2 b (by omega)).2
  have hl : lv_has ls 8 [(0, .ref (bd_ea E 1 w 0)), (1, .int (nI b)), (2, .int (nI q)), (3, .int (nI t))] := hl
  refine lv_aload_n hx hb dX4_swapMembers_0 rfl (lv_at hl 0 rfl) ?_
  refine lv_iload_n hx hb dX4_swapMembers_1 rfl (lv_at hl 1 rfl) ?_
  refine lv_iload_n hx hb dX4_swapMembers_2 rfl (lv_at hl 2 rfl) ?_
  refine bd_cV1 [.int (nI b), .int (nI q)] [] C (k_X4_chairAt_j l E xm ym om w n nb z b q (by omega) hs (by omega) (by omega)) hR hS (bd_recv C.2 hR ⟨by decide, show w < 2 by omega, (by decide)⟩ rfl rfl) qm_X4_86 qi_X4_chairAt qs_X4_chairAt qz_X4 qc_X4_chairAt qp_X4_chairAt ⟨Nat.le_of_ble_eq_true rfl, Nat.le_of_ble_eq_true rfl⟩ hl.1 (Nat.le_of_ble_eq_true rfl) dX4_swapMembers_3 ⟨Nat.le_of_ble_eq_true rfl, Nat.le_of_ble_eq_true rfl⟩ (fun H locs hR hS hz3 => ?_)
  refine lv_astore (lv' := [(4, .ref (bd_ea E 11 w (8 * b + q))), (0, .ref (bd_ea E 1 w 0)), (1, .int (nI b)), (2, .int (nI q)), (3, .int (nI t))]) hx hb dX4_swapMembers_6 hl (by decide) rfl (fun ls hl => ?_)
  refine lv_aload_n hx hb dX4_swapMembers_8 rfl (lv_at hl 1 rfl) ?_
  refine lv_iload_n hx hb dX4_swapMembers_9 rfl (lv_at hl 2 rfl) ?_
  refine lv_iload_n hx hb dX4_swapMembers_10 rfl (lv_at hl 4 rfl) ?_
  refine bd_cV1 [.int (nI b), .int (nI t)] [] C (k_X4_chairAt_j l E xm ym om w n nb z b t (by omega) hs (by omega) (by omega)) hR hS (bd_recv C.2 hR ⟨by decide, show w < 2 by omega, (by decide)⟩ rfl rfl) qm_X4_86 qi_X4_chairAt qs_X4_chairAt qz_X4 qc_X4_chairAt qp_X4_chairAt ⟨Nat.le_of_ble_eq_true rfl, Nat.le_of_ble_eq_true rfl⟩ hl.1 (Nat.le_of_ble_eq_true rfl) dX4_swapMembers_11 ⟨Nat.le_of_ble_eq_true rfl, Nat.le_of_ble_eq_true rfl⟩ (fun H locs hR hS hz11 => ?_)
  refine lv_astore (lv' := [(5, .ref (bd_ea E 11 w (8 * b + t))), (4, .ref (bd_ea E 11 w (8 * b + q))), (0, .ref (bd_ea E 1 w 0)), (1, .int (nI b)), (2, .int (nI q)), (3, .int (nI t))]) hx hb dX4_swapMembers_14 hl (by decide) rfl (fun ls hl => ?_)
  refine lv_aload hx hb dX4_swapMembers_16 (lv_at hl 1 rfl) ?_
  refine lv_ifnull hx hb dX4_swapMembers_18 ?_
  refine lv_aload hx hb dX4_swapMembers_21 (lv_at hl 0 rfl) ?_
  refine lv_ifnonnull (tgt := 27) hx hb dX4_swapMembers_23 (by decide) ?_
  refine lv_aload hx hb dX4_swapMembers_27 (lv_at hl 1 rfl) ?_
  refine bd_g_X1_member C hR (by omega) (by omega) qf_X4_89 dX4_swapMembers_29 ?_
  refine lv_istore (lv' := [(6, .int (xm 11 w (8 * b + q))), (5, .ref (bd_ea E 11 w (8 * b + t))), (4, .ref (bd_ea E 11 w (8 * b + q))), (0, .ref (bd_ea E 1 w 0)), (1, .int (nI b)), (2, .int (nI q)), (3, .int (nI t))]) hx hb dX4_swapMembers_32 hl (by decide) rfl (fun ls hl => ?_)
  refine lv_aload hx hb dX4_swapMembers_34 (lv_at hl 1 rfl) ?_
  refine bd_g_X1_member C hR (by omega) (by omega) qf_X4_89 dX4_swapMembers_36 ?_
  refine lv_istore (lv' := [(7, .int (xm 11 w (8 * b + t))), (6, .int (xm 11 w (8 * b + q))), (5, .ref (bd_ea E 11 w (8 * b + t))), (4, .ref (bd_ea E 11 w (8 * b + q))), (0, .ref (bd_ea E 1 w 0)), (1, .int (nI b)), (2, .int (nI q)), (3, .int (nI t))]) hx hb dX4_swapMembers_39 hl (by decide) rfl (fun ls hl => ?_)
  refine lv_aload_n hx hb dX4_swapMembers_41 rfl (lv_at hl 4 rfl) ?_
  refine lv_iload_n hx hb dX4_swapMembers_42 rfl (lv_at hl 5 rfl) ?_
  refine lv_iload_n hx hb dX4_swapMembers_43 rfl (lv_at hl 6 rfl) ?_
  refine lv_iload hx hb dX4_swapMembers_44 (lv_at hl 0 rfl) ?_
  refine bd_cV0 [.int (nI b), .int (nI q), .int (xm 11 w (8 * b + t))] [] C (k_X4_putOn l E xm ym om w n nb z b q (xm 11 w (8 * b + t)) (by omega) hs (by omega) (by omega)) hR hS (bd_recv C.2 hR ⟨by decide, show w < 2 by omega, (by decide)⟩ rfl rfl) qm_X4_94 qi_X4_putOn qs_X4_putOn qz_X4 qc_X4_putOn qp_X4_putOn ⟨Nat.le_of_ble_eq_true rfl, Nat.le_of_ble_eq_true rfl⟩ hl.1 (Nat.le_of_ble_eq_true rfl) dX4_swapMembers_46 ⟨Nat.le_of_ble_eq_true rfl, Nat.le_of_ble_eq_true rfl⟩ (fun H locs hR hS hz46 => ?_)
  refine lv_aload_n hx hb dX4_swapMembers_49 rfl (lv_at hl 4 rfl) ?_
  refine lv_iload_n hx hb dX4_swapMembers_50 rfl (lv_at hl 5 rfl) ?_
  refine lv_iload_n hx hb dX4_swapMembers_51 rfl (lv_at hl 7 rfl) ?_
  refine lv_iload hx hb dX4_swapMembers_52 (lv_at hl 1 rfl) ?_
  refine bd_cV0 [.int (nI b), .int (nI t), .int (xm 11 w (8 * b + q))] [] C (k_X4_putOn l E (kx_putOn xm w n b q (xm 11 w (8 * b + t))) ym om w n nb z b t (xm 11 w (8 * b + q)) (by omega) (kx_putOn_sh hs) (by omega) (by omega)) hR hS (bd_recv C.2 hR ⟨by decide, show w < 2 by omega, (by decide)⟩ rfl rfl) qm_X4_94 qi_X4_putOn qs_X4_putOn qz_X4 qc_X4_putOn qp_X4_putOn ⟨Nat.le_of_ble_eq_true rfl, Nat.le_of_ble_eq_true rfl⟩ hl.1 (Nat.le_of_ble_eq_true rfl) dX4_swapMembers_54 ⟨Nat.le_of_ble_eq_true rfl, Nat.le_of_ble_eq_true rfl⟩ (fun H locs hR hS hz54 => ?_)
  exact bd_rv C hr hlk (hR.eq (by first | (simp (config := { decide := true }) only [kx_swap, ↓reduceIte, not_true_eq_false, not_false_eq_true, and_self, and_true, true_and, and_false, false_and]; done) | rfl) rfl) hS (Nat.zero_le _) (Nat.zero_le _) dX4_swapMembers_57
set_option maxHeartbeats 4000000 in
set_option maxRecDepth 100000 in
theorem k_X4_tireMembers (l : Launch) (E : bd_E) (xm ym : bd_M) (om : Nat → Int64) (w : Nat) (n : Nat) (nb : Nat) (z : (Nat→Nat)) (b : Nat) (v : Int32) (hw : w < 2) (hs : kx_Sh xm w n nb z) (hb6 : b < 6) : bd_Ct l yX4_tireMembers cX4_tireMembers 5 none 2 41 0 0 E [.ref (bd_ea E 1 w 0), .ref (bd_ea E 9 w b), .int v] xm ym om (kx_tm xm w n b v (z b)) ym om (none) := by
  refine bd_open RX4 rfl (by decide) (Nat.le_of_ble_eq_true rfl) ?_
  intro p e s m args below meth c ls C hr hlk hS hR hl
  have hx := C.1.1
  have hb := C.1.2.1
  have hs24 := hs.2.1
  have hs6 := hs.2.2.2.1
  have z8 := (hs.2.2.2.2 b (by omega)).2
  have hl : lv_has ls 5 [(0, .ref (bd_ea E 1 w 0)), (1, .ref (bd_ea E 9 w b)), (2, .int v)] := hl
  refine lv_iconst (v := 0) hx hb dX4_tireMembers_0 (by decide) ?_
  refine lv_istore_n (lv' := [(3, .int 0), (0, .ref (bd_ea E 1 w 0)), (1, .ref (bd_ea E 9 w b)), (2, .int v)]) hx hb dX4_tireMembers_1 rfl hl (by decide) rfl (fun ls hl => ?_)
  have lp1 : ∀ (t1 j : Nat), j ≤ z b → (z b) - j < t1 → ∀ (H : Heap) (locs : List Loc), bd_Rep E (kx_tm xm w n b v j) ym om H → va_S (bd_A E) s.heap H locs → ∀ (ls : Array Slot), lv_has ls 5 [(3, .int (nI j)), (0, .ref (bd_ea E 1 w 0)), (1, .ref (bd_ea E 9 w b)), (2, .int v)] → W p l e { frames := 2, cells := 0, slots := 0, locals := 41 } s m args below meth c H locs 0 0 (MQ below (bd_Q E (kx_tm xm w n b v (z b)) ym om (none)) args s 0 0 (bd_A E)) (F0 m 2 ls []) := by
    intro t1
    induction t1 with
    | zero => intro j h1 h2; exact absurd h2 (Nat.not_lt_zero _)
    | succ t1 ih1 =>
      intro j hj1 hj2 H locs hR hS ls hl
      refine lv_iload_n hx hb dX4_tireMembers_2 rfl (lv_at hl 0 rfl) ?_
      refine lv_aload_n hx hb dX4_tireMembers_3 rfl (lv_at hl 2 rfl) ?_
      refine bd_g_X0_size C hR (by omega) (by omega) qf_X4_98 dX4_tireMembers_4 ?_
      have z4 := ((show kx_Sh (kx_tm xm w n b v j) w n nb z from (kx_tm_sh hs j)).2.2.2.2 b (by omega)).2
      rw [show (kx_tm xm w n b v j) 20 w b = nI (z b) from ((show kx_Sh (kx_tm xm w n b v j) w n nb z from (kx_tm_sh hs j)).2.2.2.2 b (by omega)).1]
      refine lv_icmp_ge (tgt := 50) hx hb dX4_tireMembers_7 (by decide) (fun c7 => ?_) (fun c7 => ?_)
      · skip
        have nc7 : (z b) ≤ j := (nI_leI (a := (z b)) (b := j) (by omega) (by omega)).mp c7
        obtain rfl : z b = j := by omega
        exact bd_rv C hr hlk (hR.eq rfl rfl) hS (Nat.zero_le _) (Nat.zero_le _) dX4_tireMembers_50
      · skip
        have nc7 : ¬ (z b) ≤ j := fun q9 => c7 ((nI_leI (a := (z b)) (b := j) (by omega) (by omega)).mpr q9)
        refine lv_aload_n hx hb dX4_tireMembers_10 rfl (lv_at hl 1 rfl) ?_
        refine lv_aload_n hx hb dX4_tireMembers_11 rfl (lv_at hl 2 rfl) ?_
        refine bd_g_X0_chairs C hR (by omega) (by omega) qf_X4_101 dX4_tireMembers_12 ?_
        refine lv_iload_n hx hb dX4_tireMembers_15 rfl (lv_at hl 0 rfl) ?_
        refine bd_ld_10 C hR (by omega) (by omega) (j := j) (by omega) dX4_tireMembers_16 ?_
        refine bd_g_X1_member C hR (by omega) (by omega) qf_X4_89 dX4_tireMembers_17 ?_
        refine bd_cV1 [.int ((kx_tm xm w n b v j) 11 w (8 * b + j))] [] C (k_X4_playerAt l E (kx_tm xm w n b v j) ym om w n nb z ((kx_tm xm w n b v j) 11 w (8 * b + j)) (by omega) (kx_tm_sh hs j)) hR hS (bd_recv C.2 hR ⟨by decide, show w < 2 by omega, (by decide)⟩ rfl rfl) qm_X4_76 qi_X4_playerAt qs_X4_playerAt qz_X4 qc_X4_playerAt qp_X4_playerAt ⟨Nat.le_of_ble_eq_true rfl, Nat.le_of_ble_eq_true rfl⟩ hl.1 (Nat.le_of_ble_eq_true rfl) dX4_tireMembers_20 ⟨Nat.le_of_ble_eq_true rfl, Nat.le_of_ble_eq_true rfl⟩ (fun H locs hR hS hz20 => ?_)
        by_cases o20 : ¬ ((kx_tm xm w n b v j) 11 w (8 * b + j)) < 0 ∧ ((kx_tm xm w n b v j) 11 w (8 * b + j)) < nI n
        · rw [if_pos o20]
          have no20 := bd_tnl o20.1 o20.2 (by omega)
          refine lv_astore (lv' := [(4, .ref (bd_ea E 7 w (((kx_tm xm w n b v j) 11 w (8 * b + j)).toNatClampNeg))), (3, .int (nI j)), (0, .ref (bd_ea E 1 w 0)), (1, .ref (bd_ea E 9 w b)), (2, .int v)]) hx hb dX4_tireMembers_23 hl (by decide) rfl (fun ls hl => ?_)
          refine lv_aload hx hb dX4_tireMembers_25 (lv_at hl 0 rfl) ?_
          refine lv_ifnull hx hb dX4_tireMembers_27 ?_
          refine lv_aload hx hb dX4_tireMembers_30 (lv_at hl 0 rfl) ?_
          refine bd_cV1 [] [] C (k_X3_isThere l E (kx_tm xm w n b v j) ym om w (((kx_tm xm w n b v j) 11 w (8 * b + j)).toNatClampNeg) (by omega) (by omega)) hR hS (bd_recv C.2 hR ⟨by decide, show w < 2 by omega, show ((kx_tm xm w n b v j) 11 w (8 * b + j)).toNatClampNeg < 24 by omega⟩ rfl rfl) qm_X4_105 qi_X3_isThere qs_X3_isThere qz_X3 qc_X3_isThere qp_X3_isThere ⟨Nat.le_of_ble_eq_true rfl, Nat.le_of_ble_eq_true rfl⟩ hl.1 (Nat.le_of_ble_eq_true rfl) dX4_tireMembers_32 ⟨Nat.le_of_ble_eq_true rfl, Nat.le_of_ble_eq_true rfl⟩ (fun H locs hR hS hz32 => ?_)
          refine bd_ifeq (P := (kx_tm xm w n b v j) 1 w (((kx_tm xm w n b v j) 11 w (8 * b + j)).toNatClampNeg) = 0) (tgt := 44) C dX4_tireMembers_35 (by decide) (fun c35 => ?_) (fun c35 => ?_)
          · skip
            refine lv_iinc (v := nI (j + 1)) (lv' := [(3, .int (nI (j + 1))), (4, .ref (bd_ea E 7 w (((kx_tm xm w n b v j) 11 w (8 * b + j)).toNatClampNeg))), (0, .ref (bd_ea E 1 w 0)), (1, .ref (bd_ea E 9 w b)), (2, .int v)]) hx hb dX4_tireMembers_44 hl (k := 1) rfl (nI_1 j) (by decide) rfl (fun ls hl => ?_)
            refine lv_goto (tgt := 2) hx hb dX4_tireMembers_47 (by decide) ?_
            exact ih1 (j + 1) (by omega) (by omega) _ _ (hR.eq (by first | (simp (config := { decide := true }) only [kx_tm, kx_tm1, eq_false c7, eq_false nc7, eq_true o20, eq_false c35, ↓reduceIte, not_true_eq_false, not_false_eq_true, and_self, and_true, true_and, and_false, false_and]; done) | rfl) rfl) hS _ (lv_sub hl [0, 2, 3, 4] rfl)
          · skip
            refine lv_aload hx hb dX4_tireMembers_38 (lv_at hl 0 rfl) ?_
            refine lv_iload_n hx hb dX4_tireMembers_40 rfl (lv_at hl 4 rfl) ?_
            refine bd_cV0 [.int v] [] C (k_X3_tire l E (kx_tm xm w n b v j) ym om w (((kx_tm xm w n b v j) 11 w (8 * b + j)).toNatClampNeg) v (by omega) (by omega)) hR hS (bd_recv C.2 hR ⟨by decide, show w < 2 by omega, show ((kx_tm xm w n b v j) 11 w (8 * b + j)).toNatClampNeg < 24 by omega⟩ rfl rfl) qm_X4_109 qi_X3_tire qs_X3_tire qz_X3 qc_X3_tire qp_X3_tire ⟨Nat.le_of_ble_eq_true rfl, Nat.le_of_ble_eq_true rfl⟩ hl.1 (Nat.le_of_ble_eq_true rfl) dX4_tireMembers_41 ⟨Nat.le_of_ble_eq_true rfl, Nat.le_of_ble_eq_true rfl⟩ (fun H locs hR hS hz41 => ?_)
            refine lv_iinc (v := nI (j + 1)) (lv' := [(3, .int (nI (j + 1))), (4, .ref (bd_ea E 7 w (((kx_tm xm w n b v j) 11 w (8 * b + j)).toNatClampNeg))), (0, .ref (bd_ea E 1 w 0)), (1, .ref (bd_ea E 9 w b)), (2, .int v)]) hx hb dX4_tireMembers_44 hl (k := 1) rfl (nI_1 j) (by decide) rfl (fun ls hl => ?_)
            refine lv_goto (tgt := 2) hx hb dX4_tireMembers_47 (by decide) ?_
            exact ih1 (j + 1) (by omega) (by omega) _ _ (hR.eq (by first | (simp (config := { decide := true }) only [kx_tm, kx_tm1, eq_false c7, eq_false nc7, eq_true o20, eq_true c35, ↓reduceIte, not_true_eq_false, not_false_eq_true, and_self, and_true, true_and, and_false, false_and]; done) | rfl) rfl) hS _ (lv_sub hl [0, 2, 3, 4] rfl)
        · rw [if_neg o20]
          refine lv_astoreN (lv' := [(4, .null), (3, .int (nI j)), (0, .ref (bd_ea E 1 w 0)), (1, .ref (bd_ea E 9 w b)), (2, .int v)]) hx hb dX4_tireMembers_23 hl (by decide) rfl (fun ls hl => ?_)
          refine lv_aloadN hx hb dX4_tireMembers_25 (lv_at hl 0 rfl) ?_
          refine lv_ifnullN (tgt := 44) hx hb dX4_tireMembers_27 (by decide) ?_
          refine lv_iinc (v := nI (j + 1)) (lv' := [(3, .int (nI (j + 1))), (4, .null), (0, .ref (bd_ea E 1 w 0)), (1, .ref (bd_ea E 9 w b)), (2, .int v)]) hx hb dX4_tireMembers_44 hl (k := 1) rfl (nI_1 j) (by decide) rfl (fun ls hl => ?_)
          refine lv_goto (tgt := 2) hx hb dX4_tireMembers_47 (by decide) ?_
          exact ih1 (j + 1) (by omega) (by omega) _ _ (hR.eq (by first | (simp (config := { decide := true }) only [kx_tm, kx_tm1, eq_false c7, eq_false nc7, eq_false o20, ↓reduceIte, not_true_eq_false, not_false_eq_true, and_self, and_true, true_and, and_false, false_and]; done) | rfl) rfl) hS _ (lv_sub hl [0, 2, 3, 4] rfl)
  exact lp1 ((z b) + 1) 0 (by omega) (by omega) _ _ (hR.eq rfl rfl) hS _ (by first | exact lv_sub hl [0, 1, 2, 3] rfl | (rw [show (nI 0 : Int32) = 0 from by first | rfl | decide | simp [nI_0]]; exact lv_sub hl [0, 1, 2, 3] rfl))
set_option maxHeartbeats 4000000 in
set_option maxRecDepth 100000 in
theorem k_X4_membersInAll (l : Launch) (E : bd_E) (xm ym : bd_M) (om : Nat → Int64) (w : Nat) (n : Nat) (nb : Nat) (z : (Nat→Nat)) (hw : w < 2) (hs : kx_Sh xm w n nb z) : bd_Ct l yX4_membersInAll cX4_membersInAll 3 (some .int) 1 22 0 0 E [.ref (bd_ea E 1 w 0)] xm ym om xm ym om (some (.int (kx_mia xm w z nb))) := by
  refine bd_open RX4 rfl (by decide) (Nat.le_of_ble_eq_true rfl) ?_
  intro p e s m args below meth c ls C hr hlk hS hR hl
  have hx := C.1.1
  have hb := C.1.2.1
  have hs24 := hs.2.1
  have hs6 := hs.2.2.2.1
  have hl : lv_has ls 3 [(0, .ref (bd_ea E 1 w 0))] := hl
  refine lv_iconst (v := 0) hx hb dX4_membersInAll_0 (by decide) ?_
  refine lv_istore_n (lv' := [(1, .int 0), (0, .ref (bd_ea E 1 w 0))]) hx hb dX4_membersInAll_1 rfl hl (by decide) rfl (fun ls hl => ?_)
  refine lv_iconst (v := 0) hx hb dX4_membersInAll_2 (by decide) ?_
  refine lv_istore_n (lv' := [(2, .int 0), (1, .int 0), (0, .ref (bd_ea E 1 w 0))]) hx hb dX4_membersInAll_3 rfl hl (by decide) rfl (fun ls hl => ?_)
  have lp1 : ∀ (t1 j : Nat), j ≤ nb → nb - j < t1 → ∀ (H : Heap) (locs : List Loc), bd_Rep E xm ym om H → va_S (bd_A E) s.heap H locs → ∀ (ls : Array Slot), lv_has ls 3 [(2, .int (nI j)), (1, .int (kx_mia xm w z j)), (0, .ref (bd_ea E 1 w 0))] → W p l e { frames := 1, cells := 0, slots := 0, locals := 22 } s m args below meth c H locs 0 0 (MQ below (bd_Q E xm ym om (some (.int (kx_mia xm w z nb)))) args s 0 0 (bd_A E)) (F0 m 4 ls []) := by
    intro t1
    induction t1 with
    | zero => intro j h1 h2; exact absurd h2 (Nat.not_lt_zero _)
    | succ t1 ih1 =>
      intro j hj1 hj2 H locs hR hS ls hl
      refine lv_iload_n hx hb dX4_membersInAll_4 rfl (lv_at hl 0 rfl) ?_
      refine lv_aload_n hx hb dX4_membersInAll_5 rfl (lv_at hl 2 rfl) ?_
      refine bd_g_X4_bandCount C hR (by omega) qf_X4_40 dX4_membersInAll_6 ?_
      rw [show xm 31 w 0 = nI nb from (show kx_Sh xm w n nb z from hs).2.2.1]
      refine lv_icmp_ge (tgt := 30) hx hb dX4_membersInAll_9 (by decide) (fun c9 => ?_) (fun c9 => ?_)
      · skip
        have nc9 : nb ≤ j := (nI_leI (a := nb) (b := j) (by omega) (by omega)).mp c9
        obtain rfl : nb = j := by omega
        refine lv_iload_n hx hb dX4_membersInAll_30 rfl (lv_at hl 1 rfl) ?_
        exact bd_ri C hr hlk (hR.eq rfl rfl) hS (Nat.zero_le _) (Nat.zero_le _) dX4_membersInAll_31 rfl
      · skip
        have nc9 : ¬ nb ≤ j := fun q9 => c9 ((nI_leI (a := nb) (b := j) (by omega) (by omega)).mpr q9)
        refine lv_iload_n hx hb dX4_membersInAll_12 rfl (lv_at hl 1 rfl) ?_
        refine lv_aload_n hx hb dX4_membersInAll_13 rfl (lv_at hl 2 rfl) ?_
        refine bd_g_X4_bands C hR (by omega) qf_X4_19 dX4_membersInAll_14 ?_
        refine lv_iload_n hx hb dX4_membersInAll_17 rfl (lv_at hl 0 rfl) ?_
        refine bd_ld_4 C hR (by omega) (j := j) (by omega) dX4_membersInAll_18 ?_
        refine bd_cV1 [] [.int (kx_mia xm w z j)] C (k_X0_members l E xm ym om w n nb z j (by omega) hs (by omega)) hR hS (bd_recv C.2 hR ⟨by decide, show w < 2 by omega, show j < 6 by omega⟩ rfl rfl) qm_X4_113 qi_X0_members qs_X0_members qz_X0 qc_X0_members qp_X0_members ⟨Nat.le_of_ble_eq_true rfl, Nat.le_of_ble_eq_true rfl⟩ hl.1 (Nat.le_of_ble_eq_true rfl) dX4_membersInAll_19 ⟨Nat.le_of_ble_eq_true rfl, Nat.le_of_ble_eq_true rfl⟩ (fun H locs hR hS hz19 => ?_)
        refine lv_iadd hx hb dX4_membersInAll_22 ?_
        refine lv_istore_n (lv' := [(1, .int ((kx_mia xm w z j) + (kx_mem xm w j (z j)))), (2, .int (nI j)), (0, .ref (bd_ea E 1 w 0))]) hx hb dX4_membersInAll_23 rfl hl (by decide) rfl (fun ls hl => ?_)
        refine lv_iinc (v := nI (j + 1)) (lv' := [(2, .int (nI (j + 1))), (1, .int ((kx_mia xm w z j) + (kx_mem xm w j (z j)))), (0, .ref (bd_ea E 1 w 0))]) hx hb dX4_membersInAll_24 hl (k := 1) rfl (nI_1 j) (by decide) rfl (fun ls hl => ?_)
        refine lv_goto (tgt := 4) hx hb dX4_membersInAll_27 (by decide) ?_
        exact ih1 (j + 1) (by omega) (by omega) _ _ (hR.eq rfl rfl) hS _ (by rw [show (kx_mia xm w z (j + 1) : Int32) = (kx_mia xm w z j) + (kx_mem xm w j (z j)) from (by first | (simp (config := { decide := true }) only [kx_mia, eq_false c9, eq_false nc9, ↓reduceIte, not_true_eq_false, not_false_eq_true, and_self, and_true, true_and, and_false, false_and]; done) | rfl)]; exact lv_sub hl [0, 1, 2] rfl)
  exact lp1 (nb + 1) 0 (by omega) (by omega) _ _ (hR.eq rfl rfl) hS _ (by first | exact lv_sub hl [0, 1, 2] rfl | (rw [show (nI 0 : Int32) = 0 from by first | rfl | decide | simp [nI_0]]; rw [show (kx_mia xm w z 0 : Int32) = 0 from by first | rfl | decide | simp [nI_0]]; exact lv_sub hl [0, 1, 2] rfl))
set_option maxHeartbeats 4000000 in
set_option maxRecDepth 100000 in
theorem k_X4_absentInAll (l : Launch) (E : bd_E) (xm ym : bd_M) (om : Nat → Int64) (w : Nat) (n : Nat) (nb : Nat) (z : (Nat→Nat)) (hw : w < 2) (hs : kx_Sh xm w n nb z) : bd_Ct l yX4_absentInAll cX4_absentInAll 3 (some .int) 1 20 0 0 E [.ref (bd_ea E 1 w 0)] xm ym om xm ym om (some (.int (kx_aia xm w n))) := by
  refine bd_open RX4 rfl (by decide) (Nat.le_of_ble_eq_true rfl) ?_
  intro p e s m args below meth c ls C hr hlk hS hR hl
  have hx := C.1.1
  have hb := C.1.2.1
  have hs24 := hs.2.1
  have hs6 := hs.2.2.2.1
  have hl : lv_has ls 3 [(0, .ref (bd_ea E 1 w 0))] := hl
  refine lv_iconst (v := 0) hx hb dX4_absentInAll_0 (by decide) ?_
  refine lv_istore_n (lv' := [(1, .int 0), (0, .ref (bd_ea E 1 w 0))]) hx hb dX4_absentInAll_1 rfl hl (by decide) rfl (fun ls hl => ?_)
  refine lv_iconst (v := 0) hx hb dX4_absentInAll_2 (by decide) ?_
  refine lv_istore_n (lv' := [(2, .int 0), (1, .int 0), (0, .ref (bd_ea E 1 w 0))]) hx hb dX4_absentInAll_3 rfl hl (by decide) rfl (fun ls hl => ?_)
  have lp1 : ∀ (t1 j : Nat), j ≤ n → n - j < t1 → ∀ (H : Heap) (locs : List Loc), bd_Rep E xm ym om H → va_S (bd_A E) s.heap H locs → ∀ (ls : Array Slot), lv_has ls 3 [(2, .int (nI j)), (1, .int (kx_aia xm w j)), (0, .ref (bd_ea E 1 w 0))] → W p l e { frames := 1, cells := 0, slots := 0, locals := 20 } s m args below meth c H locs 0 0 (MQ below (bd_Q E xm ym om (some (.int (kx_aia xm w n)))) args s 0 0 (bd_A E)) (F0 m 4 ls []) := by
    intro t1
    induction t1 with
    | zero => intro j h1 h2; exact absurd h2 (Nat.not_lt_zero _)
    | succ t1 ih1 =>
      intro j hj1 hj2 H locs hR hS ls hl
      refine lv_iload_n hx hb dX4_absentInAll_4 rfl (lv_at hl 0 rfl) ?_
      refine lv_aload_n hx hb dX4_absentInAll_5 rfl (lv_at hl 2 rfl) ?_
      refine bd_g_X4_playerCount C hR (by omega) qf_X4_32 dX4_absentInAll_6 ?_
      rw [show xm 30 w 0 = nI n from (show kx_Sh xm w n nb z from hs).1]
      refine lv_icmp_ge (tgt := 33) hx hb dX4_absentInAll_9 (by decide) (fun c9 => ?_) (fun c9 => ?_)
      · skip
        have nc9 : n ≤ j := (nI_leI (a := n) (b := j) (by omega) (by omega)).mp c9
        obtain rfl : n = j := by omega
        refine lv_iload_n hx hb dX4_absentInAll_33 rfl (lv_at hl 1 rfl) ?_
        exact bd_ri C hr hlk (hR.eq rfl rfl) hS (Nat.zero_le _) (Nat.zero_le _) dX4_absentInAll_34 rfl
      · skip
        have nc9 : ¬ n ≤ j := fun q9 => c9 ((nI_leI (a := n) (b := j) (by omega) (by omega)).mpr q9)
        refine lv_aload_n hx hb dX4_absentInAll_12 rfl (lv_at hl 2 rfl) ?_
        refine bd_g_X4_players C hR (by omega) qf_X4_11 dX4_absentInAll_13 ?_
        refine lv_iload_n hx hb dX4_absentInAll_16 rfl (lv_at hl 0 rfl) ?_
        refine bd_ld_3 C hR (by omega) (j := j) (by omega) dX4_absentInAll_17 ?_
        refine bd_cV1 [] [] C (k_X3_isThere l E xm ym om w j (by omega) (by omega)) hR hS (bd_recv C.2 hR ⟨by decide, show w < 2 by omega, show j < 24 by omega⟩ rfl rfl) qm_X4_105 qi_X3_isThere qs_X3_isThere qz_X3 qc_X3_isThere qp_X3_isThere ⟨Nat.le_of_ble_eq_true rfl, Nat.le_of_ble_eq_true rfl⟩ hl.1 (Nat.le_of_ble_eq_true rfl) dX4_absentInAll_18 ⟨Nat.le_of_ble_eq_true rfl, Nat.le_of_ble_eq_true rfl⟩ (fun H locs hR hS hz18 => ?_)
        refine bd_ifne (P := xm 1 w j = 0) (tgt := 27) C dX4_absentInAll_21 (by decide) (fun c21 => ?_) (fun c21 => ?_)
        · skip
          refine lv_iinc (v := nI (j + 1)) (lv' := [(2, .int (nI (j + 1))), (1, .int (kx_aia xm w j)), (0, .ref (bd_ea E 1 w 0))]) hx hb dX4_absentInAll_27 hl (k := 0) rfl (nI_1 j) (by decide) rfl (fun ls hl => ?_)
          refine lv_goto (tgt := 4) hx hb dX4_absentInAll_30 (by decide) ?_
          exact ih1 (j + 1) (by omega) (by omega) _ _ (hR.eq rfl rfl) hS _ (by rw [show (kx_aia xm w (j + 1) : Int32) = kx_aia xm w j from (by first | (simp (config := { decide := true }) only [kx_aia, eq_false c9, eq_false nc9, eq_true c21, ↓reduceIte, not_true_eq_false, not_false_eq_true, and_self, and_true, true_and, and_false, false_and]; done) | rfl)]; exact lv_sub hl [0, 1, 2] rfl)
        · skip
          refine lv_iinc (v := (kx_aia xm w j) + 1) (lv' := [(1, .int ((kx_aia xm w j) + 1)), (2, .int (nI j)), (0, .ref (bd_ea E 1 w 0))]) hx hb dX4_absentInAll_24 hl (k := 1) rfl rfl (by decide) rfl (fun ls hl => ?_)
          refine lv_iinc (v := nI (j + 1)) (lv' := [(2, .int (nI (j + 1))), (1, .int ((kx_aia xm w j) + 1)), (0, .ref (bd_ea E 1 w 0))]) hx hb dX4_absentInAll_27 hl (k := 1) rfl (nI_1 j) (by decide) rfl (fun ls hl => ?_)
          refine lv_goto (tgt := 4) hx hb dX4_absentInAll_30 (by decide) ?_
          exact ih1 (j + 1) (by omega) (by omega) _ _ (hR.eq rfl rfl) hS _ (by rw [show (kx_aia xm w (j + 1) : Int32) = (kx_aia xm w j) + 1 from (by first | (simp (config := { decide := true }) only [kx_aia, eq_false c9, eq_false nc9, eq_false c21, ↓reduceIte, not_true_eq_false, not_false_eq_true, and_self, and_true, true_and, and_false, false_and]; done) | rfl)]; exact lv_sub hl [0, 1, 2] rfl)
  exact lp1 (n + 1) 0 (by omega) (by omega) _ _ (hR.eq rfl rfl) hS _ (by first | exact lv_sub hl [0, 1, 2] rfl | (rw [show (nI 0 : Int32) = 0 from by first | rfl | decide | simp [nI_0]]; rw [show (kx_aia xm w 0 : Int32) = 0 from by first | rfl | decide | simp [nI_0]]; exact lv_sub hl [0, 1, 2] rfl))
set_option maxHeartbeats 4000000 in
set_option maxRecDepth 100000 in
theorem k_X4_tell (l : Launch) (E : bd_E) (xm ym : bd_M) (om : Nat → Int64) (w : Nat) (n : Nat) (nb : Nat) (z : (Nat→Nat)) (v : Int32) (hw : w < 2) (hs : kx_Sh xm w n nb z) : bd_Ct l yX4_tell cX4_tell 2 (some .int) 2 44 0 0 E [.ref (bd_ea E 1 w 0), .int v] xm ym om xm ym om (some (.int (kx_stell xm w n nb z v))) := by
  refine bd_open RX4 rfl (by decide) (Nat.le_of_ble_eq_true rfl) ?_
  intro p e s m args below meth c ls C hr hlk hS hR hl
  have hx := C.1.1
  have hb := C.1.2.1
  have hs24 := hs.2.1
  have hs6 := hs.2.2.2.1
  have hl : lv_has ls 2 [(0, .ref (bd_ea E 1 w 0)), (1, .int v)] := hl
  refine lv_iload_n hx hb dX4_tell_0 rfl (lv_at hl 1 rfl) ?_
  by_cases e1_0 : v = 0
  · refine lv_tableIn (tgt := 40) (off := 39) hx hb dX4_tell_1 (by rw [e1_0]; decide) (by rw [e1_0]; decide) (by rw [e1_0]; rfl) (by decide) ?_
    refine lv_aload_n hx hb dX4_tell_40 rfl (lv_at hl 0 rfl) ?_
    refine bd_g_X4_contests C hR (by omega) qf_X4_52 dX4_tell_41 ?_
    exact bd_ri C hr hlk (hR.eq rfl rfl) hS (Nat.zero_le _) (Nat.zero_le _) dX4_tell_44 (by first | (simp (config := { decide := true }) only [kx_stell, eq_true e1_0, ↓reduceIte, not_true_eq_false, not_false_eq_true, and_self, and_true, true_and, and_false, false_and]; done) | rfl)
  · skip
    by_cases e1_1 : v = 1
    · refine lv_tableIn (tgt := 45) (off := 44) hx hb dX4_tell_1 (by rw [e1_1]; decide) (by rw [e1_1]; decide) (by rw [e1_1]; rfl) (by decide) ?_
      refine lv_aload_n hx hb dX4_tell_45 rfl (lv_at hl 0 rfl) ?_
      refine bd_g_X4_playerCount C hR (by omega) qf_X4_32 dX4_tell_46 ?_
      rw [show xm 30 w 0 = nI n from (show kx_Sh xm w n nb z from hs).1]
      exact bd_ri C hr hlk (hR.eq rfl rfl) hS (Nat.zero_le _) (Nat.zero_le _) dX4_tell_49 (by first | (simp (config := { decide := true }) only [kx_stell, eq_false e1_0, eq_true e1_1, ↓reduceIte, not_true_eq_false, not_false_eq_true, and_self, and_true, true_and, and_false, false_and]; done) | rfl)
    · skip
      by_cases e1_2 : v = 2
      · refine lv_tableIn (tgt := 50) (off := 49) hx hb dX4_tell_1 (by rw [e1_2]; decide) (by rw [e1_2]; decide) (by rw [e1_2]; rfl) (by decide) ?_
        refine lv_aload_n hx hb dX4_tell_50 rfl (lv_at hl 0 rfl) ?_
        refine bd_g_X4_bandCount C hR (by omega) qf_X4_40 dX4_tell_51 ?_
        rw [show xm 31 w 0 = nI nb from (show kx_Sh xm w n nb z from hs).2.2.1]
        exact bd_ri C hr hlk (hR.eq rfl rfl) hS (Nat.zero_le _) (Nat.zero_le _) dX4_tell_54 (by first | (simp (config := { decide := true }) only [kx_stell, eq_false e1_0, eq_false e1_1, eq_true e1_2, ↓reduceIte, not_true_eq_false, not_false_eq_true, and_self, and_true, true_and, and_false, false_and]; done) | rfl)
      · skip
        by_cases e1_3 : v = 3
        · refine lv_tableIn (tgt := 55) (off := 54) hx hb dX4_tell_1 (by rw [e1_3]; decide) (by rw [e1_3]; decide) (by rw [e1_3]; rfl) (by decide) ?_
          refine lv_aload_n hx hb dX4_tell_55 rfl (lv_at hl 0 rfl) ?_
          refine bd_cV1 [] [] C (k_X4_membersInAll l E xm ym om w n nb z (by omega) hs) hR hS (bd_recv C.2 hR ⟨by decide, show w < 2 by omega, (by decide)⟩ rfl rfl) qm_X4_117 qi_X4_membersInAll qs_X4_membersInAll qz_X4 qc_X4_membersInAll qp_X4_membersInAll ⟨Nat.le_of_ble_eq_true rfl, Nat.le_of_ble_eq_true rfl⟩ hl.1 (Nat.le_of_ble_eq_true rfl) dX4_tell_56 ⟨Nat.le_of_ble_eq_true rfl, Nat.le_of_ble_eq_true rfl⟩ (fun H locs hR hS hz56 => ?_)
          exact bd_ri C hr hlk (hR.eq rfl rfl) hS (Nat.zero_le _) (Nat.zero_le _) dX4_tell_59 (by first | (simp (config := { decide := true }) only [kx_stell, eq_false e1_0, eq_false e1_1, eq_false e1_2, eq_true e1_3, ↓reduceIte, not_true_eq_false, not_false_eq_true, and_self, and_true, true_and, and_false, false_and]; done) | rfl)
        · skip
          by_cases e1_4 : v = 4
          · refine lv_tableIn (tgt := 60) (off := 59) hx hb dX4_tell_1 (by rw [e1_4]; decide) (by rw [e1_4]; decide) (by rw [e1_4]; rfl) (by decide) ?_
            refine lv_aload_n hx hb dX4_tell_60 rfl (lv_at hl 0 rfl) ?_
            refine bd_cV1 [] [] C (k_X4_absentInAll l E xm ym om w n nb z (by omega) hs) hR hS (bd_recv C.2 hR ⟨by decide, show w < 2 by omega, (by decide)⟩ rfl rfl) qm_X4_120 qi_X4_absentInAll qs_X4_absentInAll qz_X4 qc_X4_absentInAll qp_X4_absentInAll ⟨Nat.le_of_ble_eq_true rfl, Nat.le_of_ble_eq_true rfl⟩ hl.1 (Nat.le_of_ble_eq_true rfl) dX4_tell_61 ⟨Nat.le_of_ble_eq_true rfl, Nat.le_of_ble_eq_true rfl⟩ (fun H locs hR hS hz61 => ?_)
            exact bd_ri C hr hlk (hR.eq rfl rfl) hS (Nat.zero_le _) (Nat.zero_le _) dX4_tell_64 (by first | (simp (config := { decide := true }) only [kx_stell, eq_false e1_0, eq_false e1_1, eq_false e1_2, eq_false e1_3, eq_true e1_4, ↓reduceIte, not_true_eq_false, not_false_eq_true, and_self, and_true, true_and, and_false, false_and]; done) | rfl)
          · skip
            by_cases e1_5 : v = 5
            · refine lv_tableIn (tgt := 65) (off := 64) hx hb dX4_tell_1 (by rw [e1_5]; decide) (by rw [e1_5]; decide) (by rw [e1_5]; rfl) (by decide) ?_
              refine lv_aload_n hx hb dX4_tell_65 rfl (lv_at hl 0 rfl) ?_
              refine bd_g_X4_deputies C hR (by omega) qf_X4_55 dX4_tell_66 ?_
              exact bd_ri C hr hlk (hR.eq rfl rfl) hS (Nat.zero_le _) (Nat.zero_le _) dX4_tell_69 (by first | (simp (config := { decide := true }) only [kx_stell, eq_false e1_0, eq_false e1_1, eq_false e1_2, eq_false e1_3, eq_false e1_4, eq_true e1_5, ↓reduceIte, not_true_eq_false, not_false_eq_true, and_self, and_true, true_and, and_false, false_and]; done) | rfl)
            · skip
              have x1_0 := bd_nei e1_0
              have x1_1 := bd_nei e1_1
              have x1_2 := bd_nei e1_2
              have x1_3 := bd_nei e1_3
              have x1_4 := bd_nei e1_4
              have x1_5 := bd_nei e1_5
              have y1 : (v).toInt < 0 ∨ 5 < (v).toInt := by
                simp only [show ((0 : Int32).toInt) = 0 from rfl, show ((1 : Int32).toInt) = 1 from rfl, show ((2 : Int32).toInt) = 2 from rfl, show ((3 : Int32).toInt) = 3 from rfl, show ((4 : Int32).toInt) = 4 from rfl, show ((5 : Int32).toInt) = 5 from rfl] at x1_0 x1_1 x1_2 x1_3 x1_4 x1_5
                omega
              refine lv_tableOut (tgt := 70) hx hb dX4_tell_1 y1 (by decide) ?_
              refine lv_aload_n hx hb dX4_tell_70 rfl (lv_at hl 0 rfl) ?_
              refine bd_g_X4_empties C hR (by omega) qf_X4_58 dX4_tell_71 ?_
              exact bd_ri C hr hlk (hR.eq rfl rfl) hS (Nat.zero_le _) (Nat.zero_le _) dX4_tell_74 (by first | (simp (config := { decide := true }) only [kx_stell, eq_false e1_0, eq_false e1_1, eq_false e1_2, eq_false e1_3, eq_false e1_4, eq_false e1_5, ↓reduceIte, not_true_eq_false, not_false_eq_true, and_self, and_true, true_and, and_false, false_and]; done) | rfl)
set_option maxHeartbeats 4000000 in
set_option maxRecDepth 100000 in
theorem k_X4_aheadByPoints (l : Launch) (E : bd_E) (xm ym : bd_M) (om : Nat → Int64) (w : Nat) (n : Nat) (nb : Nat) (z : (Nat→Nat)) (i : Nat) (hw : w < 2) (hs : kx_Sh xm w n nb z) (hi : i < nb) : bd_Ct l yX4_aheadByPoints cX4_aheadByPoints 5 (some .int) 0 0 0 0 E [.ref (bd_ea E 1 w 0), .int (nI i), .int (xm 26 w i)] xm ym om xm ym om (some (.int (kx_abp xm w i nb))) := by
  refine bd_open RX4 rfl (by decide) (Nat.le_of_ble_eq_true rfl) ?_
  intro p e s m args below meth c ls C hr hlk hS hR hl
  have hx := C.1.1
  have hb := C.1.2.1
  have hs24 := hs.2.1
  have hs6 := hs.2.2.2.1
  have hl : lv_has ls 5 [(0, .ref (bd_ea E 1 w 0)), (1, .int (nI i)), (2, .int (xm 26 w i))] := hl
  refine lv_iconst (v := 0) hx hb dX4_aheadByPoints_0 (by decide) ?_
  refine lv_istore_n (lv' := [(3, .int 0), (0, .ref (bd_ea E 1 w 0)), (1, .int (nI i)), (2, .int (xm 26 w i))]) hx hb dX4_aheadByPoints_1 rfl hl (by decide) rfl (fun ls hl => ?_)
  refine lv_iconst (v := 0) hx hb dX4_aheadByPoints_2 (by decide) ?_
  refine lv_istore (lv' := [(4, .int 0), (3, .int 0), (0, .ref (bd_ea E 1 w 0)), (1, .int (nI i)), (2, .int (xm 26 w i))]) hx hb dX4_aheadByPoints_3 hl (by decide) rfl (fun ls hl => ?_)
  have lp1 : ∀ (t1 j : Nat), j ≤ nb → nb - j < t1 → ∀ (H : Heap) (locs : List Loc), bd_Rep E xm ym om H → va_S (bd_A E) s.heap H locs → ∀ (ls : Array Slot), lv_has ls 5 [(4, .int (nI j)), (3, .int (kx_abp xm w i j)), (0, .ref (bd_ea E 1 w 0)), (1, .int (nI i)), (2, .int (xm 26 w i))] → W p l e { frames := 0, cells := 0, slots := 0, locals := 0 } s m args below meth c H locs 0 0 (MQ below (bd_Q E xm ym om (some (.int (kx_abp xm w i nb)))) args s 0 0 (bd_A E)) (F0 m 5 ls []) := by
    intro t1
    induction t1 with
    | zero => intro j h1 h2; exact absurd h2 (Nat.not_lt_zero _)
    | succ t1 ih1 =>
      intro j hj1 hj2 H locs hR hS ls hl
      refine lv_iload hx hb dX4_aheadByPoints_5 (lv_at hl 0 rfl) ?_
      refine lv_aload_n hx hb dX4_aheadByPoints_7 rfl (lv_at hl 2 rfl) ?_
      refine bd_g_X4_bandCount C hR (by omega) qf_X4_40 dX4_aheadByPoints_8 ?_
      rw [show xm 31 w 0 = nI nb from (show kx_Sh xm w n nb z from hs).2.2.1]
      refine lv_icmp_ge (tgt := 57) hx hb dX4_aheadByPoints_11 (by decide) (fun c11 => ?_) (fun c11 => ?_)
      · skip
        have nc11 : nb ≤ j := (nI_leI (a := nb) (b := j) (by omega) (by omega)).mp c11
        obtain rfl : nb = j := by omega
        refine lv_iload_n hx hb dX4_aheadByPoints_57 rfl (lv_at hl 1 rfl) ?_
        exact bd_ri C hr hlk (hR.eq rfl rfl) hS (Nat.zero_le _) (Nat.zero_le _) dX4_aheadByPoints_58 rfl
      · skip
        have nc11 : ¬ nb ≤ j := fun q9 => c11 ((nI_leI (a := nb) (b := j) (by omega) (by omega)).mpr q9)
        refine lv_aload_n hx hb dX4_aheadByPoints_14 rfl (lv_at hl 2 rfl) ?_
        refine bd_g_X4_bands C hR (by omega) qf_X4_19 dX4_aheadByPoints_15 ?_
        refine lv_iload hx hb dX4_aheadByPoints_18 (lv_at hl 0 rfl) ?_
        refine bd_ld_4 C hR (by omega) (j := j) (by omega) dX4_aheadByPoints_20 ?_
        refine bd_g_X0_points C hR (by omega) (by omega) qf_X4_123 dX4_aheadByPoints_21 ?_
        refine lv_iload_n hx hb dX4_aheadByPoints_24 rfl (lv_at hl 4 rfl) ?_
        refine lv_icmp_gt (tgt := 48) hx hb dX4_aheadByPoints_25 (by decide) (fun c25 => ?_) (fun c25 => ?_)
        · skip
          refine lv_iinc (v := (kx_abp xm w i j) + 1) (lv' := [(3, .int ((kx_abp xm w i j) + 1)), (4, .int (nI j)), (0, .ref (bd_ea E 1 w 0)), (1, .int (nI i)), (2, .int (xm 26 w i))]) hx hb dX4_aheadByPoints_48 hl (k := 1) rfl rfl (by decide) rfl (fun ls hl => ?_)
          refine lv_iinc (v := nI (j + 1)) (lv' := [(4, .int (nI (j + 1))), (3, .int ((kx_abp xm w i j) + 1)), (0, .ref (bd_ea E 1 w 0)), (1, .int (nI i)), (2, .int (xm 26 w i))]) hx hb dX4_aheadByPoints_51 hl (k := 1) rfl (nI_1 j) (by decide) rfl (fun ls hl => ?_)
          refine lv_goto (tgt := 5) hx hb dX4_aheadByPoints_54 (by decide) ?_
          exact ih1 (j + 1) (by omega) (by omega) _ _ (hR.eq rfl rfl) hS _ (by rw [show (kx_abp xm w i (j + 1) : Int32) = (kx_abp xm w i j) + 1 from (by first | (simp (config := { decide := true }) only [kx_abp, eq_false c11, eq_false nc11, eq_true c25, ↓reduceIte, not_true_eq_false, not_false_eq_true, and_self, and_true, true_and, and_false, false_and]; done) | rfl)]; exact lv_sub hl [0, 1, 2, 3, 4] rfl)
        · skip
          refine lv_aload_n hx hb dX4_aheadByPoints_28 rfl (lv_at hl 2 rfl) ?_
          refine bd_g_X4_bands C hR (by omega) qf_X4_19 dX4_aheadByPoints_29 ?_
          refine lv_iload hx hb dX4_aheadByPoints_32 (lv_at hl 0 rfl) ?_
          refine bd_ld_4 C hR (by omega) (j := j) (by omega) dX4_aheadByPoints_34 ?_
          refine bd_g_X0_points C hR (by omega) (by omega) qf_X4_123 dX4_aheadByPoints_35 ?_
          refine lv_iload_n hx hb dX4_aheadByPoints_38 rfl (lv_at hl 4 rfl) ?_
          refine lv_icmp_ne (tgt := 51) hx hb dX4_aheadByPoints_39 (by decide) (fun c39 => ?_) (fun c39 => ?_)
          · skip
            refine lv_iinc (v := nI (j + 1)) (lv' := [(4, .int (nI (j + 1))), (3, .int (kx_abp xm w i j)), (0, .ref (bd_ea E 1 w 0)), (1, .int (nI i)), (2, .int (xm 26 w i))]) hx hb dX4_aheadByPoints_51 hl (k := 0) rfl (nI_1 j) (by decide) rfl (fun ls hl => ?_)
            refine lv_goto (tgt := 5) hx hb dX4_aheadByPoints_54 (by decide) ?_
            exact ih1 (j + 1) (by omega) (by omega) _ _ (hR.eq rfl rfl) hS _ (by rw [show (kx_abp xm w i (j + 1) : Int32) = kx_abp xm w i j from (by first | (simp (config := { decide := true }) only [kx_abp, eq_false c11, eq_false nc11, eq_false c25, eq_false c39, ↓reduceIte, not_true_eq_false, not_false_eq_true, and_self, and_true, true_and, and_false, false_and]; done) | rfl)]; exact lv_sub hl [0, 1, 2, 3, 4] rfl)
          · skip
            refine lv_iload hx hb dX4_aheadByPoints_42 (lv_at hl 0 rfl) ?_
            refine lv_iload_n hx hb dX4_aheadByPoints_44 rfl (lv_at hl 3 rfl) ?_
            refine lv_icmp_ge (tgt := 51) hx hb dX4_aheadByPoints_45 (by decide) (fun c45 => ?_) (fun c45 => ?_)
            · skip
              have nc45 : i ≤ j := (nI_leI (a := i) (b := j) (by omega) (by omega)).mp c45
              refine lv_iinc (v := nI (j + 1)) (lv' := [(4, .int (nI (j + 1))), (3, .int (kx_abp xm w i j)), (0, .ref (bd_ea E 1 w 0)), (1, .int (nI i)), (2, .int (xm 26 w i))]) hx hb dX4_aheadByPoints_51 hl (k := 0) rfl (nI_1 j) (by decide) rfl (fun ls hl => ?_)
              refine lv_goto (tgt := 5) hx hb dX4_aheadByPoints_54 (by decide) ?_
              exact ih1 (j + 1) (by omega) (by omega) _ _ (hR.eq rfl rfl) hS _ (by rw [show (kx_abp xm w i (j + 1) : Int32) = kx_abp xm w i j from (by first | (simp (config := { decide := true }) only [kx_abp, eq_false c11, eq_false nc11, eq_false c25, eq_true c39, eq_true c45, eq_true nc45, ↓reduceIte, not_true_eq_false, not_false_eq_true, and_self, and_true, true_and, and_false, false_and]; done) | rfl)]; exact lv_sub hl [0, 1, 2, 3, 4] rfl)
            · skip
              have nc45 : ¬ i ≤ j := fun q9 => c45 ((nI_leI (a := i) (b := j) (by omega) (by omega)).mpr q9)
              refine lv_iinc (v := (kx_abp xm w i j) + 1) (lv' := [(3, .int ((kx_abp xm w i j) + 1)), (4, .int (nI j)), (0, .ref (bd_ea E 1 w 0)), (1, .int (nI i)), (2, .int (xm 26 w i))]) hx hb dX4_aheadByPoints_48 hl (k := 1) rfl rfl (by decide) rfl (fun ls hl => ?_)
              refine lv_iinc (v := nI (j + 1)) (lv' := [(4, .int (nI (j + 1))), (3, .int ((kx_abp xm w i j) + 1)), (0, .ref (bd_ea E 1 w 0)), (1, .int (nI i)), (2, .int (xm 26 w i))]) hx hb dX4_aheadByPoints_51 hl (k := 1) rfl (nI_1 j) (by decide) rfl (fun ls hl => ?_)
              refine lv_goto (tgt := 5) hx hb dX4_aheadByPoints_54 (by decide) ?_
              exact ih1 (j + 1) (by omega) (by omega) _ _ (hR.eq rfl rfl) hS _ (by rw [show (kx_abp xm w i (j + 1) : Int32) = (kx_abp xm w i j) + 1 from (by first | (simp (config := { decide := true }) only [kx_abp, eq_false c11, eq_false nc11, eq_false c25, eq_true c39, eq_false c45, eq_false nc45, ↓reduceIte, not_true_eq_false, not_false_eq_true, and_self, and_true, true_and, and_false, false_and]; done) | rfl)]; exact lv_sub hl [0, 1, 2, 3, 4] rfl)
  exact lp1 (nb + 1) 0 (by omega) (by omega) _ _ (hR.eq rfl rfl) hS _ (by first | exact lv_sub hl [0, 1, 2, 3, 4] rfl | (rw [show (nI 0 : Int32) = 0 from by first | rfl | decide | simp [nI_0]]; rw [show (kx_abp xm w i 0 : Int32) = 0 from by first | rfl | decide | simp [nI_0]]; exact lv_sub hl [0, 1, 2, 3, 4] rfl))
set_option maxHeartbeats 4000000 in
set_option maxRecDepth 100000 in
theorem k_X4_bandByPoints (l : Launch) (E : bd_E) (xm ym : bd_M) (om : Nat → Int64) (w : Nat) (n : Nat) (nb : Nat) (z : (Nat→Nat)) (v : Int32) (hw : w < 2) (hs : kx_Sh xm w n nb z) : bd_Ct l yX4_bandByPoints cX4_bandByPoints 3 (some .int) 1 24 0 0 E [.ref (bd_ea E 1 w 0), .int v] xm ym om xm ym om (some (.int (kx_bbp xm w nb v nb 0))) := by
  refine bd_open RX4 rfl (by decide) (Nat.le_of_ble_eq_true rfl) ?_
  intro p e s m args below meth c ls C hr hlk hS hR hl
  have hx := C.1.1
  have hb := C.1.2.1
  have hs24 := hs.2.1
  have hs6 := hs.2.2.2.1
  have hl : lv_has ls 3 [(0, .ref (bd_ea E 1 w 0)), (1, .int v)] := hl
  refine lv_iconst (v := 0) hx hb dX4_bandByPoints_0 (by decide) ?_
  refine lv_istore_n (lv' := [(2, .int 0), (0, .ref (bd_ea E 1 w 0)), (1, .int v)]) hx hb dX4_bandByPoints_1 rfl hl (by decide) rfl (fun ls hl => ?_)
  have lp1 : ∀ (t1 j : Nat), j ≤ nb → nb - j < t1 → (kx_bbp xm w nb v (nb - j) j = kx_bbp xm w nb v nb 0) → ∀ (H : Heap) (locs : List Loc), bd_Rep E xm ym om H → va_S (bd_A E) s.heap H locs → ∀ (ls : Array Slot), lv_has ls 3 [(2, .int (nI j)), (0, .ref (bd_ea E 1 w 0)), (1, .int v)] → W p l e { frames := 1, cells := 0, slots := 0, locals := 24 } s m args below meth c H locs 0 0 (MQ below (bd_Q E xm ym om (some (.int (kx_bbp xm w nb v nb 0)))) args s 0 0 (bd_A E)) (F0 m 2 ls []) := by
    intro t1
    induction t1 with
    | zero => intro j h1 h2; exact absurd h2 (Nat.not_lt_zero _)
    | succ t1 ih1 =>
      intro j hj1 hj2 hi H locs hR hS ls hl
      refine lv_iload_n hx hb dX4_bandByPoints_2 rfl (lv_at hl 0 rfl) ?_
      refine lv_aload_n hx hb dX4_bandByPoints_3 rfl (lv_at hl 1 rfl) ?_
      refine bd_g_X4_bandCount C hR (by omega) qf_X4_40 dX4_bandByPoints_4 ?_
      rw [show xm 31 w 0 = nI nb from (show kx_Sh xm w n nb z from hs).2.2.1]
      refine lv_icmp_ge (tgt := 36) hx hb dX4_bandByPoints_7 (by decide) (fun c7 => ?_) (fun c7 => ?_)
      · skip
        have nc7 : nb ≤ j := (nI_leI (a := nb) (b := j) (by omega) (by omega)).mp c7
        obtain rfl : nb = j := by omega
        refine lv_iconst (v := (-1)) hx hb dX4_bandByPoints_36 (by decide) ?_
        exact bd_ri C hr hlk (hR.eq rfl rfl) hS (Nat.zero_le _) (Nat.zero_le _) dX4_bandByPoints_37 (by first | rfl | (rw [Nat.sub_self] at hi; exact hi))
      · skip
        have nc7 : ¬ nb ≤ j := fun q9 => c7 ((nI_leI (a := nb) (b := j) (by omega) (by omega)).mpr q9)
        refine lv_aload_n hx hb dX4_bandByPoints_10 rfl (lv_at hl 1 rfl) ?_
        refine lv_iload_n hx hb dX4_bandByPoints_11 rfl (lv_at hl 0 rfl) ?_
        refine lv_aload_n hx hb dX4_bandByPoints_12 rfl (lv_at hl 1 rfl) ?_
        refine bd_g_X4_bands C hR (by omega) qf_X4_19 dX4_bandByPoints_13 ?_
        refine lv_iload_n hx hb dX4_bandByPoints_16 rfl (lv_at hl 0 rfl) ?_
        refine bd_ld_4 C hR (by omega) (j := j) (by omega) dX4_bandByPoints_17 ?_
        refine bd_g_X0_points C hR (by omega) (by omega) qf_X4_123 dX4_bandByPoints_18 ?_
        refine bd_cV1 [.int (nI j), .int (xm 26 w j)] [] C (k_X4_aheadByPoints l E xm ym om w n nb z j (by omega) hs (by omega)) hR hS (bd_recv C.2 hR ⟨by decide, show w < 2 by omega, (by decide)⟩ rfl rfl) qm_X4_126 qi_X4_aheadByPoints qs_X4_aheadByPoints qz_X4 qc_X4_aheadByPoints qp_X4_aheadByPoints ⟨Nat.le_of_ble_eq_true rfl, Nat.le_of_ble_eq_true rfl⟩ hl.1 (Nat.le_of_ble_eq_true rfl) dX4_bandByPoints_21 ⟨Nat.le_of_ble_eq_true rfl, Nat.le_of_ble_eq_true rfl⟩ (fun H locs hR hS hz21 => ?_)
        refine lv_iload_n hx hb dX4_bandByPoints_24 rfl (lv_at hl 2 rfl) ?_
        refine lv_icmp_ne (tgt := 30) hx hb dX4_bandByPoints_25 (by decide) (fun c25 => ?_) (fun c25 => ?_)
        · skip
          refine lv_iinc (v := nI (j + 1)) (lv' := [(2, .int (nI (j + 1))), (0, .ref (bd_ea E 1 w 0)), (1, .int v)]) hx hb dX4_bandByPoints_30 hl (k := 0) rfl (nI_1 j) (by decide) rfl (fun ls hl => ?_)
          refine lv_goto (tgt := 2) hx hb dX4_bandByPoints_33 (by decide) ?_
          exact ih1 (j + 1) (by omega) (by omega) (by rw [show nb - j = (nb - (j + 1)) + 1 by omega, kx_bbp, if_neg c25] at hi; exact hi) _ _ (hR.eq rfl rfl) hS _ (lv_sub hl [0, 1, 2] rfl)
        · skip
          refine lv_iload_n hx hb dX4_bandByPoints_28 rfl (lv_at hl 0 rfl) ?_
          exact bd_ri C hr hlk (hR.eq rfl rfl) hS (Nat.zero_le _) (Nat.zero_le _) dX4_bandByPoints_29 (by first | rfl | (rw [show nb - j = (nb - (j + 1)) + 1 by omega, kx_bbp, if_pos c25] at hi; exact hi))
  exact lp1 (nb + 1) 0 (by omega) (by omega) rfl _ _ (hR.eq rfl rfl) hS _ (by first | exact lv_sub hl [0, 1, 2] rfl | (rw [show (nI 0 : Int32) = 0 from by first | rfl | decide | simp [nI_0]]; exact lv_sub hl [0, 1, 2] rfl))
set_option maxHeartbeats 4000000 in
set_option maxRecDepth 100000 in
theorem k_X4_bestFree (l : Launch) (E : bd_E) (xm ym : bd_M) (om : Nat → Int64) (w : Nat) (n : Nat) (nb : Nat) (z : (Nat→Nat)) (v : Int32) (hw : w < 2) (hs : kx_Sh xm w n nb z) : bd_Ct l yX4_bestFree cX4_bestFree 6 (some .int) 1 21 0 0 E [.ref (bd_ea E 1 w 0), .int v] xm ym om xm ym om (some (.int ((kx_bf xm w v n).1))) := by
  refine bd_open RX4 rfl (by decide) (Nat.le_of_ble_eq_true rfl) ?_
  intro p e s m args below meth c ls C hr hlk hS hR hl
  have hx := C.1.1
  have hb := C.1.2.1
  have hs24 := hs.2.1
  have hs6 := hs.2.2.2.1
  have hl : lv_has ls 6 [(0, .ref (bd_ea E 1 w 0)), (1, .int v)] := hl
  refine lv_iconst (v := (-1)) hx hb dX4_bestFree_0 (by decide) ?_
  refine lv_istore_n (lv' := [(2, .int (-1)), (0, .ref (bd_ea E 1 w 0)), (1, .int v)]) hx hb dX4_bestFree_1 rfl hl (by decide) rfl (fun ls hl => ?_)
  refine lv_iconst (v := (-1)) hx hb dX4_bestFree_2 (by decide) ?_
  refine lv_istore_n (lv' := [(3, .int (-1)), (2, .int (-1)), (0, .ref (bd_ea E 1 w 0)), (1, .int v)]) hx hb dX4_bestFree_3 rfl hl (by decide) rfl (fun ls hl => ?_)
  refine lv_iconst (v := 0) hx hb dX4_bestFree_4 (by decide) ?_
  refine lv_istore (lv' := [(4, .int 0), (3, .int (-1)), (2, .int (-1)), (0, .ref (bd_ea E 1 w 0)), (1, .int v)]) hx hb dX4_bestFree_5 hl (by decide) rfl (fun ls hl => ?_)
  have lp1 : ∀ (t1 j : Nat), j ≤ n → n - j < t1 → ∀ (H : Heap) (locs : List Loc), bd_Rep E xm ym om H → va_S (bd_A E) s.heap H locs → ∀ (ls : Array Slot), lv_has ls 6 [(4, .int (nI j)), (3, .int ((kx_bf xm w v j).2)), (2, .int ((kx_bf xm w v j).1)), (0, .ref (bd_ea E 1 w 0)), (1, .int v)] → W p l e { frames := 1, cells := 0, slots := 0, locals := 21 } s m args below meth c H locs 0 0 (MQ below (bd_Q E xm ym om (some (.int ((kx_bf xm w v n).1)))) args s 0 0 (bd_A E)) (F0 m 7 ls []) := by
    intro t1
    induction t1 with
    | zero => intro j h1 h2; exact absurd h2 (Nat.not_lt_zero _)
    | succ t1 ih1 =>
      intro j hj1 hj2 H locs hR hS ls hl
      refine lv_iload hx hb dX4_bestFree_7 (lv_at hl 0 rfl) ?_
      refine lv_aload_n hx hb dX4_bestFree_9 rfl (lv_at hl 3 rfl) ?_
      refine bd_g_X4_playerCount C hR (by omega) qf_X4_32 dX4_bestFree_10 ?_
      rw [show xm 30 w 0 = nI n from (show kx_Sh xm w n nb z from hs).1]
      refine lv_icmp_ge (tgt := 68) hx hb dX4_bestFree_13 (by decide) (fun c13 => ?_) (fun c13 => ?_)
      · skip
        have nc13 : n ≤ j := (nI_leI (a := n) (b := j) (by omega) (by omega)).mp c13
        obtain rfl : n = j := by omega
        refine lv_iload_n hx hb dX4_bestFree_68 rfl (lv_at hl 2 rfl) ?_
        exact bd_ri C hr hlk (hR.eq rfl rfl) hS (Nat.zero_le _) (Nat.zero_le _) dX4_bestFree_69 rfl
      · skip
        have nc13 : ¬ n ≤ j := fun q9 => c13 ((nI_leI (a := n) (b := j) (by omega) (by omega)).mpr q9)
        refine lv_aload_n hx hb dX4_bestFree_16 rfl (lv_at hl 3 rfl) ?_
        refine bd_g_X4_players C hR (by omega) qf_X4_11 dX4_bestFree_17 ?_
        refine lv_iload hx hb dX4_bestFree_20 (lv_at hl 0 rfl) ?_
        refine bd_ld_3 C hR (by omega) (j := j) (by omega) dX4_bestFree_22 ?_
        refine lv_astore (lv' := [(5, .ref (bd_ea E 7 w j)), (4, .int (nI j)), (3, .int ((kx_bf xm w v j).2)), (2, .int ((kx_bf xm w v j).1)), (0, .ref (bd_ea E 1 w 0)), (1, .int v)]) hx hb dX4_bestFree_23 hl (by decide) rfl (fun ls hl => ?_)
        refine lv_aload hx hb dX4_bestFree_25 (lv_at hl 0 rfl) ?_
        refine bd_g_X3_band C hR (by omega) (by omega) qf_X4_80 dX4_bestFree_27 ?_
        refine lv_iconst (v := (-1)) hx hb dX4_bestFree_30 (by decide) ?_
        refine lv_icmp_ne (tgt := 62) hx hb dX4_bestFree_31 (by decide) (fun c31 => ?_) (fun c31 => ?_)
        · skip
          refine lv_iinc (v := nI (j + 1)) (lv' := [(4, .int (nI (j + 1))), (5, .ref (bd_ea E 7 w j)), (3, .int ((kx_bf xm w v j).2)), (2, .int ((kx_bf xm w v j).1)), (0, .ref (bd_ea E 1 w 0)), (1, .int v)]) hx hb dX4_bestFree_62 hl (k := 1) rfl (nI_1 j) (by decide) rfl (fun ls hl => ?_)
          refine lv_goto (tgt := 7) hx hb dX4_bestFree_65 (by decide) ?_
          exact ih1 (j + 1) (by omega) (by omega) _ _ (hR.eq rfl rfl) hS _ (by rw [show ((kx_bf xm w v (j + 1)).2 : Int32) = (kx_bf xm w v j).2 from (by first | (simp (config := { decide := true }) only [kx_bf, eq_false c13, eq_false nc13, eq_false c31, ↓reduceIte, not_true_eq_false, not_false_eq_true, and_self, and_true, true_and, and_false, false_and]; done) | rfl)]; rw [show ((kx_bf xm w v (j + 1)).1 : Int32) = (kx_bf xm w v j).1 from (by first | (simp (config := { decide := true }) only [kx_bf, eq_false c13, eq_false nc13, eq_false c31, ↓reduceIte, not_true_eq_false, not_false_eq_true, and_self, and_true, true_and, and_false, false_and]; done) | rfl)]; exact lv_sub hl [0, 2, 3, 4, 5] rfl)
        · skip
          refine lv_aload hx hb dX4_bestFree_34 (lv_at hl 0 rfl) ?_
          refine bd_cV1 [] [] C (k_X3_isThere l E xm ym om w j (by omega) (by omega)) hR hS (bd_recv C.2 hR ⟨by decide, show w < 2 by omega, show j < 24 by omega⟩ rfl rfl) qm_X4_105 qi_X3_isThere qs_X3_isThere qz_X3 qc_X3_isThere qp_X3_isThere ⟨Nat.le_of_ble_eq_true rfl, Nat.le_of_ble_eq_true rfl⟩ hl.1 (Nat.le_of_ble_eq_true rfl) dX4_bestFree_36 ⟨Nat.le_of_ble_eq_true rfl, Nat.le_of_ble_eq_true rfl⟩ (fun H locs hR hS hz36 => ?_)
          refine bd_ifeq (P := xm 1 w j = 0) (tgt := 62) C dX4_bestFree_39 (by decide) (fun c39 => ?_) (fun c39 => ?_)
          · skip
            refine lv_iinc (v := nI (j + 1)) (lv' := [(4, .int (nI (j + 1))), (5, .ref (bd_ea E 7 w j)), (3, .int ((kx_bf xm w v j).2)), (2, .int ((kx_bf xm w v j).1)), (0, .ref (bd_ea E 1 w 0)), (1, .int v)]) hx hb dX4_bestFree_62 hl (k := 1) rfl (nI_1 j) (by decide) rfl (fun ls hl => ?_)
            refine lv_goto (tgt := 7) hx hb dX4_bestFree_65 (by decide) ?_
            exact ih1 (j + 1) (by omega) (by omega) _ _ (hR.eq rfl rfl) hS _ (by rw [show ((kx_bf xm w v (j + 1)).2 : Int32) = (kx_bf xm w v j).2 from (by first | (simp (config := { decide := true }) only [kx_bf, eq_false c13, eq_false nc13, eq_true c31, eq_false c39, ↓reduceIte, not_true_eq_false, not_false_eq_true, and_self, and_true, true_and, and_false, false_and]; done) | rfl)]; rw [show ((kx_bf xm w v (j + 1)).1 : Int32) = (kx_bf xm w v j).1 from (by first | (simp (config := { decide := true }) only [kx_bf, eq_false c13, eq_false nc13, eq_true c31, eq_false c39, ↓reduceIte, not_true_eq_false, not_false_eq_true, and_self, and_true, true_and, and_false, false_and]; done) | rfl)]; exact lv_sub hl [0, 2, 3, 4, 5] rfl)
          · skip
            refine lv_aload hx hb dX4_bestFree_42 (lv_at hl 0 rfl) ?_
            refine lv_iload_n hx hb dX4_bestFree_44 rfl (lv_at hl 5 rfl) ?_
            refine bd_cV1 [.int v] [] C (k_X3_skillFor l E xm ym om w j v (by omega) (by omega)) hR hS (bd_recv C.2 hR ⟨by decide, show w < 2 by omega, show j < 24 by omega⟩ rfl rfl) qm_X4_130 qi_X3_skillFor qs_X3_skillFor qz_X3 qc_X3_skillFor qp_X3_skillFor ⟨Nat.le_of_ble_eq_true rfl, Nat.le_of_ble_eq_true rfl⟩ hl.1 (Nat.le_of_ble_eq_true rfl) dX4_bestFree_45 ⟨Nat.le_of_ble_eq_true rfl, Nat.le_of_ble_eq_true rfl⟩ (fun H locs hR hS hz45 => ?_)
            refine lv_iload_n hx hb dX4_bestFree_48 rfl (lv_at hl 2 rfl) ?_
            refine lv_icmp_le (tgt := 62) hx hb dX4_bestFree_49 (by decide) (fun c49 => ?_) (fun c49 => ?_)
            · skip
              refine lv_iinc (v := nI (j + 1)) (lv' := [(4, .int (nI (j + 1))), (5, .ref (bd_ea E 7 w j)), (3, .int ((kx_bf xm w v j).2)), (2, .int ((kx_bf xm w v j).1)), (0, .ref (bd_ea E 1 w 0)), (1, .int v)]) hx hb dX4_bestFree_62 hl (k := 1) rfl (nI_1 j) (by decide) rfl (fun ls hl => ?_)
              refine lv_goto (tgt := 7) hx hb dX4_bestFree_65 (by decide) ?_
              exact ih1 (j + 1) (by omega) (by omega) _ _ (hR.eq rfl rfl) hS _ (by rw [show ((kx_bf xm w v (j + 1)).2 : Int32) = (kx_bf xm w v j).2 from (by first | (simp (config := { decide := true }) only [kx_bf, eq_false c13, eq_false nc13, eq_true c31, eq_true c39, eq_true c49, ↓reduceIte, not_true_eq_false, not_false_eq_true, and_self, and_true, true_and, and_false, false_and]; done) | rfl)]; rw [show ((kx_bf xm w v (j + 1)).1 : Int32) = (kx_bf xm w v j).1 from (by first | (simp (config := { decide := true }) only [kx_bf, eq_false c13, eq_false nc13, eq_true c31, eq_true c39, eq_true c49, ↓reduceIte, not_true_eq_false, not_false_eq_true, and_self, and_true, true_and, and_false, false_and]; done) | rfl)]; exact lv_sub hl [0, 2, 3, 4, 5] rfl)
            · skip
              refine lv_iload hx hb dX4_bestFree_52 (lv_at hl 1 rfl) ?_
              refine lv_istore_n (lv' := [(2, .int (nI j)), (5, .ref (bd_ea E 7 w j)), (4, .int (nI j)), (3, .int ((kx_bf xm w v j).2)), (0, .ref (bd_ea E 1 w 0)), (1, .int v)]) hx hb dX4_bestFree_54 rfl hl (by decide) rfl (fun ls hl => ?_)
              refine lv_aload hx hb dX4_bestFree_55 (lv_at hl 1 rfl) ?_
              refine lv_iload_n hx hb dX4_bestFree_57 rfl (lv_at hl 5 rfl) ?_
              refine bd_cV1 [.int v] [] C (k_X3_skillFor l E xm ym om w j v (by omega) (by omega)) hR hS (bd_recv C.2 hR ⟨by decide, show w < 2 by omega, show j < 24 by omega⟩ rfl rfl) qm_X4_130 qi_X3_skillFor qs_X3_skillFor qz_X3 qc_X3_skillFor qp_X3_skillFor ⟨Nat.le_of_ble_eq_true rfl, Nat.le_of_ble_eq_true rfl⟩ hl.1 (Nat.le_of_ble_eq_true rfl) dX4_bestFree_58 ⟨Nat.le_of_ble_eq_true rfl, Nat.le_of_ble_eq_true rfl⟩ (fun H locs hR hS hz58 => ?_)
              refine lv_istore_n (lv' := [(3, .int (kx_skill xm w j v)), (2, .int (nI j)), (5, .ref (bd_ea E 7 w j)), (4, .int (nI j)), (0, .ref (bd_ea E 1 w 0)), (1, .int v)]) hx hb dX4_bestFree_61 rfl hl (by decide) rfl (fun ls hl => ?_)
              refine lv_iinc (v := nI (j + 1)) (lv' := [(4, .int (nI (j + 1))), (3, .int (kx_skill xm w j v)), (2, .int (nI j)), (5, .ref (bd_ea E 7 w j)), (0, .ref (bd_ea E 1 w 0)), (1, .int v)]) hx hb dX4_bestFree_62 hl (k := 3) rfl (nI_1 j) (by decide) rfl (fun ls hl => ?_)
              refine lv_goto (tgt := 7) hx hb dX4_bestFree_65 (by decide) ?_
              exact ih1 (j + 1) (by omega) (by omega) _ _ (hR.eq rfl rfl) hS _ (by rw [show ((kx_bf xm w v (j + 1)).2 : Int32) = kx_skill xm w j v from (by first | (simp (config := { decide := true }) only [kx_bf, eq_false c13, eq_false nc13, eq_true c31, eq_true c39, eq_false c49, ↓reduceIte, not_true_eq_false, not_false_eq_true, and_self, and_true, true_and, and_false, false_and]; done) | rfl)]; rw [show ((kx_bf xm w v (j + 1)).1 : Int32) = nI j from (by first | (simp (config := { decide := true }) only [kx_bf, eq_false c13, eq_false nc13, eq_true c31, eq_true c39, eq_false c49, ↓reduceIte, not_true_eq_false, not_false_eq_true, and_self, and_true, true_and, and_false, false_and]; done) | rfl)]; exact lv_sub hl [0, 1, 2, 4, 5] rfl)
  exact lp1 (n + 1) 0 (by omega) (by omega) _ _ (hR.eq rfl rfl) hS _ (by first | exact lv_sub hl [0, 1, 2, 3, 4] rfl | (rw [show (nI 0 : Int32) = 0 from by first | rfl | decide | simp [nI_0]]; rw [show ((kx_bf xm w v 0).2 : Int32) = (-1) from by first | rfl | decide | simp [nI_0]]; rw [show ((kx_bf xm w v 0).1 : Int32) = (-1) from by first | rfl | decide | simp [nI_0]]; exact lv_sub hl [0, 1, 2, 3, 4] rfl))
set_option maxHeartbeats 4000000 in
set_option maxRecDepth 100000 in
theorem k_X4_withBand (l : Launch) (E : bd_E) (xm ym : bd_M) (om : Nat → Int64) (w : Nat) (n : Nat) (nb : Nat) (z : (Nat→Nat)) (b : Nat) (d : Int64) (hw : w < 2) (hs : kx_Sh xm w n nb z) (hb6 : b < 6) : bd_Ct l yX4_withBand cX4_withBand 8 (some .long) 2 43 0 0 E [.ref (bd_ea E 1 w 0), .long d, .ref (bd_ea E 9 w b)] xm ym om xm ym om (some (.long (kx_wb d xm w b (z b)))) := by
  refine bd_open RX4 rfl (by decide) (Nat.le_of_ble_eq_true rfl) ?_
  intro p e s m args below meth c ls C hr hlk hS hR hl
  have hx := C.1.1
  have hb := C.1.2.1
  have hs24 := hs.2.1
  have hs6 := hs.2.2.2.1
  have z8 := (hs.2.2.2.2 b (by omega)).2
  have hl : lv_has ls 8 [(0, .ref (bd_ea E 1 w 0)), (1, .long d), (3, .ref (bd_ea E 9 w b))] := hl
  refine lv_lload_n hx hb dX4_withBand_0 rfl (lv_at hl 1 rfl) ?_
  refine lv_lstore (lv' := [(4, .long d), (0, .ref (bd_ea E 1 w 0)), (1, .long d), (3, .ref (bd_ea E 9 w b))]) hx hb dX4_withBand_1 hl (by decide) rfl (fun ls hl => ?_)
  refine lv_iconst (v := 0) hx hb dX4_withBand_3 (by decide) ?_
  refine lv_istore (lv' := [(6, .int 0), (4, .long d), (0, .ref (bd_ea E 1 w 0)), (1, .long d), (3, .ref (bd_ea E 9 w b))]) hx hb dX4_withBand_4 hl (by decide) rfl (fun ls hl => ?_)
  have lp1 : ∀ (t1 j : Nat), j ≤ 9 → 9 - j < t1 → ∀ (H : Heap) (locs : List Loc), bd_Rep E xm ym om H → va_S (bd_A E) s.heap H locs → ∀ (ls : Array Slot), lv_has ls 8 [(6, .int (nI j)), (4, .long (kx_w1 d xm w b (z b) j)), (0, .ref (bd_ea E 1 w 0)), (1, .long d), (3, .ref (bd_ea E 9 w b))] → W p l e { frames := 2, cells := 0, slots := 0, locals := 43 } s m args below meth c H locs 0 0 (MQ below (bd_Q E xm ym om (some (.long (kx_wb d xm w b (z b))))) args s 0 0 (bd_A E)) (F0 m 6 ls []) := by
    intro t1
    induction t1 with
    | zero => intro j h1 h2; exact absurd h2 (Nat.not_lt_zero _)
    | succ t1 ih1 =>
      intro j hj1 hj2 H locs hR hS ls hl
      refine lv_iload hx hb dX4_withBand_6 (lv_at hl 0 rfl) ?_
      refine lv_bipush (v := 9) hx hb dX4_withBand_8 (by decide) ?_
      refine lv_icmp_ge (tgt := 35) hx hb dX4_withBand_10 (by decide) (fun c10 => ?_) (fun c10 => ?_)
      · skip
        have nc10 : 9 ≤ j := (nI_leI (a := 9) (b := j) (by omega) (by omega)).mp c10
        obtain rfl : 9 = j := by omega
        refine lv_iconst (v := 0) hx hb dX4_withBand_35 (by decide) ?_
        refine lv_istore (lv' := [(6, .int 0), (4, .long (kx_w1 d xm w b (z b) 9)), (0, .ref (bd_ea E 1 w 0)), (1, .long d), (3, .ref (bd_ea E 9 w b))]) hx hb dX4_withBand_36 hl (by decide) rfl (fun ls hl => ?_)
        have lp2 : ∀ (t2 j : Nat), j ≤ z b → (z b) - j < t2 → ∀ (H : Heap) (locs : List Loc), bd_Rep E xm ym om H → va_S (bd_A E) s.heap H locs → ∀ (ls : Array Slot), lv_has ls 8 [(6, .int (nI j)), (4, .long (kx_w2 (kx_w1 d xm w b (z b) 9) xm w b j)), (0, .ref (bd_ea E 1 w 0)), (1, .long d), (3, .ref (bd_ea E 9 w b))] → W p l e { frames := 2, cells := 0, slots := 0, locals := 43 } s m args below meth c H locs 0 0 (MQ below (bd_Q E xm ym om (some (.long (kx_wb d xm w b (z b))))) args s 0 0 (bd_A E)) (F0 m 38 ls []) := by
          intro t2
          induction t2 with
          | zero => intro j h1 h2; exact absurd h2 (Nat.not_lt_zero _)
          | succ t2 ih2 =>
            intro j hj1 hj2 H locs hR hS ls hl
            refine lv_iload hx hb dX4_withBand_38 (lv_at hl 0 rfl) ?_
            refine lv_aload_n hx hb dX4_withBand_40 rfl (lv_at hl 4 rfl) ?_
            refine bd_g_X0_size C hR (by omega) (by omega) qf_X4_98 dX4_withBand_41 ?_
            have z41 := ((show kx_Sh xm w n nb z from hs).2.2.2.2 b (by omega)).2
            rw [show xm 20 w b = nI (z b) from ((show kx_Sh xm w n nb z from hs).2.2.2.2 b (by omega)).1]
            refine lv_icmp_ge (tgt := 90) hx hb dX4_withBand_44 (by decide) (fun c44 => ?_) (fun c44 => ?_)
            · skip
              have nc44 : (z b) ≤ j := (nI_leI (a := (z b)) (b := j) (by omega) (by omega)).mp c44
              obtain rfl : z b = j := by omega
              refine lv_lload hx hb dX4_withBand_90 (lv_at hl 1 rfl) ?_
              exact bd_rl C hr hlk (hR.eq rfl rfl) hS (Nat.zero_le _) (Nat.zero_le _) dX4_withBand_92 (by first | (simp (config := { decide := true }) only [kx_wb, eq_true c10, eq_true nc10, eq_true c44, eq_true nc44, ↓reduceIte, not_true_eq_false, not_false_eq_true, and_self, and_true, true_and, and_false, false_and]; done) | rfl)
            · skip
              have nc44 : ¬ (z b) ≤ j := fun q9 => c44 ((nI_leI (a := (z b)) (b := j) (by omega) (by omega)).mpr q9)
              refine lv_iconst (v := 0) hx hb dX4_withBand_47 (by decide) ?_
              refine lv_istore (lv' := [(7, .int 0), (6, .int (nI j)), (4, .long (kx_w2 (kx_w1 d xm w b (z b) 9) xm w b j)), (0, .ref (bd_ea E 1 w 0)), (1, .long d), (3, .ref (bd_ea E 9 w b))]) hx hb dX4_withBand_48 hl (by decide) rfl (fun ls hl => ?_)
              have lp3 : ∀ (t3 j2 : Nat), j2 ≤ 3 → 3 - j2 < t3 → ∀ (H : Heap) (locs : List Loc), bd_Rep E xm ym om H → va_S (bd_A E) s.heap H locs → ∀ (ls : Array Slot), lv_has ls 8 [(7, .int (nI j2)), (6, .int (nI j)), (4, .long (kx_w2i (kx_w2 (kx_w1 d xm w b (z b) 9) xm w b j) xm w (8 * b + j) j2)), (0, .ref (bd_ea E 1 w 0)), (1, .long d), (3, .ref (bd_ea E 9 w b))] → W p l e { frames := 2, cells := 0, slots := 0, locals := 43 } s m args below meth c H locs 0 0 (MQ below (bd_Q E xm ym om (some (.long (kx_wb d xm w b (z b))))) args s 0 0 (bd_A E)) (F0 m 50 ls []) := by
                intro t3
                induction t3 with
                | zero => intro j2 h1 h2; exact absurd h2 (Nat.not_lt_zero _)
                | succ t3 ih3 =>
                  intro j2 hj21 hj22 H locs hR hS ls hl
                  refine lv_iload hx hb dX4_withBand_50 (lv_at hl 0 rfl) ?_
                  refine lv_iconst (v := 3) hx hb dX4_withBand_52 (by decide) ?_
                  refine lv_icmp_ge (tgt := 84) hx hb dX4_withBand_53 (by decide) (fun c53 => ?_) (fun c53 => ?_)
                  · skip
                    have nc53 : 3 ≤ j2 := (nI_leI (a := 3) (b := j2) (by omega) (by omega)).mp c53
                    obtain rfl : 3 = j2 := by omega
                    refine lv_iinc (v := nI (j + 1)) (lv' := [(6, .int (nI (j + 1))), (7, .int (nI 3)), (4, .long (kx_w2i (kx_w2 (kx_w1 d xm w b (z b) 9) xm w b j) xm w (8 * b + j) 3)), (0, .ref (bd_ea E 1 w 0)), (1, .long d), (3, .ref (bd_ea E 9 w b))]) hx hb dX4_withBand_84 hl (k := 1) rfl (nI_1 j) (by decide) rfl (fun ls hl => ?_)
                    refine lv_goto (tgt := 38) hx hb dX4_withBand_87 (by decide) ?_
                    exact ih2 (j + 1) (by omega) (by omega) _ _ (hR.eq rfl rfl) hS _ (by rw [show (kx_w2 (kx_w1 d xm w b (z b) 9) xm w b (j + 1) : Int64) = kx_w2i (kx_w2 (kx_w1 d xm w b (z b) 9) xm w b j) xm w (8 * b + j) 3 from (by first | (simp (config := { decide := true }) only [kx_w2, eq_true c10, eq_true nc10, eq_false c44, eq_false nc44, eq_true c53, eq_true nc53, ↓reduceIte, not_true_eq_false, not_false_eq_true, and_self, and_true, true_and, and_false, false_and]; done) | rfl)]; exact lv_sub hl [0, 2, 3, 4, 5] rfl)
                  · skip
                    have nc53 : ¬ 3 ≤ j2 := fun q9 => c53 ((nI_leI (a := 3) (b := j2) (by omega) (by omega)).mpr q9)
                    refine lv_lload hx hb dX4_withBand_56 (lv_at hl 2 rfl) ?_
                    refine lv_ldc2 (v := 31) hx hb C.1.2.2.2.1 (C.1.2.2.2.2 _ qd_X4_139) dX4_withBand_58 ?_
                    refine lv_lmul hx hb dX4_withBand_61 ?_
                    refine lv_aload_n hx hb dX4_withBand_62 rfl (lv_at hl 5 rfl) ?_
                    refine bd_g_X0_chairs C hR (by omega) (by omega) qf_X4_101 dX4_withBand_63 ?_
                    refine lv_iload hx hb dX4_withBand_66 (lv_at hl 1 rfl) ?_
                    refine bd_ld_10 C hR (by omega) (by omega) (j := j) (by omega) dX4_withBand_68 ?_
                    refine lv_iload hx hb dX4_withBand_69 (lv_at hl 0 rfl) ?_
                    refine bd_cV1 [.int (nI j2)] [.long ((kx_w2i (kx_w2 (kx_w1 d xm w b (z b) 9) xm w b j) xm w (8 * b + j) j2) * 31)] C (k_X1_tell l E xm ym om w (8 * b + j) (nI j2) (by omega) (by omega)) hR hS (bd_recv C.2 hR ⟨by decide, show w < 2 by omega, show 8 * b + j < 48 by omega⟩ rfl rfl) qm_X4_150 qi_X1_tell qs_X1_tell qz_X1 qc_X1_tell qp_X1_tell ⟨Nat.le_of_ble_eq_true rfl, Nat.le_of_ble_eq_true rfl⟩ hl.1 (Nat.le_of_ble_eq_true rfl) dX4_withBand_71 ⟨Nat.le_of_ble_eq_true rfl, Nat.le_of_ble_eq_true rfl⟩ (fun H locs hR hS hz71 => ?_)
                    refine lv_i2l hx hb dX4_withBand_74 rfl ?_
                    refine lv_ladd hx hb dX4_withBand_75 ?_
                    refine lv_lstore (lv' := [(4, .long (((kx_w2i (kx_w2 (kx_w1 d xm w b (z b) 9) xm w b j) xm w (8 * b + j) j2) * 31) + ((kx_ctell xm w (8 * b + j) (nI j2)).toInt64))), (7, .int (nI j2)), (6, .int (nI j)), (0, .ref (bd_ea E 1 w 0)), (1, .long d), (3, .ref (bd_ea E 9 w b))]) hx hb dX4_withBand_76 hl (by decide) rfl (fun ls hl => ?_)
                    refine lv_iinc (v := nI (j2 + 1)) (lv' := [(7, .int (nI (j2 + 1))), (4, .long (((kx_w2i (kx_w2 (kx_w1 d xm w b (z b) 9) xm w b j) xm w (8 * b + j) j2) * 31) + ((kx_ctell xm w (8 * b + j) (nI j2)).toInt64))), (6, .int (nI j)), (0, .ref (bd_ea E 1 w 0)), (1, .long d), (3, .ref (bd_ea E 9 w b))]) hx hb dX4_withBand_78 hl (k := 1) rfl (nI_1 j2) (by decide) rfl (fun ls hl => ?_)
                    refine lv_goto (tgt := 50) hx hb dX4_withBand_81 (by decide) ?_
                    exact ih3 (j2 + 1) (by omega) (by omega) _ _ (hR.eq rfl rfl) hS _ (by rw [show (kx_w2i (kx_w2 (kx_w1 d xm w b (z b) 9) xm w b j) xm w (8 * b + j) (j2 + 1) : Int64) = ((kx_w2i (kx_w2 (kx_w1 d xm w b (z b) 9) xm w b j) xm w (8 * b + j) j2) * 31) + ((kx_ctell xm w (8 * b + j) (nI j2)).toInt64) from (by first | (simp (config := { decide := true }) only [kx_w2i, eq_true c10, eq_true nc10, eq_false c44, eq_false nc44, eq_false c53, eq_false nc53, ↓reduceIte, not_true_eq_false, not_false_eq_true, and_self, and_true, true_and, and_false, false_and]; done) | rfl)]; exact lv_sub hl [0, 2, 1, 3, 4, 5] rfl)
              exact lp3 (3 + 1) 0 (by omega) (by omega) _ _ (hR.eq rfl rfl) hS _ (by first | exact lv_sub hl [0, 1, 2, 3, 4, 5] rfl | (rw [show (nI 0 : Int32) = 0 from by first | rfl | decide | simp [nI_0]]; rw [show (kx_w2i (kx_w2 (kx_w1 d xm w b (z b) 9) xm w b j) xm w (8 * b + j) 0 : Int32) = kx_w2 (kx_w1 d xm w b (z b) 9) xm w b j from by first | rfl | decide | simp [nI_0]]; exact lv_sub hl [0, 1, 2, 3, 4, 5] rfl))
        exact lp2 ((z b) + 1) 0 (by omega) (by omega) _ _ (hR.eq rfl rfl) hS _ (by first | exact lv_sub hl [0, 1, 2, 3, 4] rfl | (rw [show (nI 0 : Int32) = 0 from by first | rfl | decide | simp [nI_0]]; rw [show (kx_w2 (kx_w1 d xm w b (z b) 9) xm w b 0 : Int32) = kx_w1 d xm w b (z b) 9 from by first | rfl | decide | simp [nI_0]]; exact lv_sub hl [0, 1, 2, 3, 4] rfl))
      · skip
        have nc10 : ¬ 9 ≤ j := fun q9 => c10 ((nI_leI (a := 9) (b := j) (by omega) (by omega)).mpr q9)
        refine lv_lload hx hb dX4_withBand_13 (lv_at hl 1 rfl) ?_
        refine lv_ldc2 (v := 31) hx hb C.1.2.2.2.1 (C.1.2.2.2.2 _ qd_X4_139) dX4_withBand_15 ?_
        refine lv_lmul hx hb dX4_withBand_18 ?_
        refine lv_aload_n hx hb dX4_withBand_19 rfl (lv_at hl 4 rfl) ?_
        refine lv_iload hx hb dX4_withBand_20 (lv_at hl 0 rfl) ?_
        refine bd_cV1 [.int (nI j)] [.long ((kx_w1 d xm w b (z b) j) * 31)] C (k_X0_tell l E xm ym om w n nb z b (nI j) (by omega) hs (by omega)) hR hS (bd_recv C.2 hR ⟨by decide, show w < 2 by omega, show b < 6 by omega⟩ rfl rfl) qm_X4_149 qi_X0_tell qs_X0_tell qz_X0 qc_X0_tell qp_X0_tell ⟨Nat.le_of_ble_eq_true rfl, Nat.le_of_ble_eq_true rfl⟩ hl.1 (Nat.le_of_ble_eq_true rfl) dX4_withBand_22 ⟨Nat.le_of_ble_eq_true rfl, Nat.le_of_ble_eq_true rfl⟩ (fun H locs hR hS hz22 => ?_)
        refine lv_i2l hx hb dX4_withBand_25 rfl ?_
        refine lv_ladd hx hb dX4_withBand_26 ?_
        refine lv_lstore (lv' := [(4, .long (((kx_w1 d xm w b (z b) j) * 31) + ((kx_btell xm w b (z b) (nI j)).toInt64))), (6, .int (nI j)), (0, .ref (bd_ea E 1 w 0)), (1, .long d), (3, .ref (bd_ea E 9 w b))]) hx hb dX4_withBand_27 hl (by decide) rfl (fun ls hl => ?_)
        refine lv_iinc (v := nI (j + 1)) (lv' := [(6, .int (nI (j + 1))), (4, .long (((kx_w1 d xm w b (z b) j) * 31) + ((kx_btell xm w b (z b) (nI j)).toInt64))), (0, .ref (bd_ea E 1 w 0)), (1, .long d), (3, .ref (bd_ea E 9 w b))]) hx hb dX4_withBand_29 hl (k := 1) rfl (nI_1 j) (by decide) rfl (fun ls hl => ?_)
        refine lv_goto (tgt := 6) hx hb dX4_withBand_32 (by decide) ?_
        exact ih1 (j + 1) (by omega) (by omega) _ _ (hR.eq rfl rfl) hS _ (by rw [show (kx_w1 d xm w b (z b) (j + 1) : Int64) = ((kx_w1 d xm w b (z b) j) * 31) + ((kx_btell xm w b (z b) (nI j)).toInt64) from (by first | (simp (config := { decide := true }) only [kx_w1, eq_false c10, eq_false nc10, ↓reduceIte, not_true_eq_false, not_false_eq_true, and_self, and_true, true_and, and_false, false_and]; done) | rfl)]; exact lv_sub hl [0, 1, 2, 3, 4] rfl)
  exact lp1 (9 + 1) 0 (by omega) (by omega) _ _ (hR.eq rfl rfl) hS _ (by first | exact lv_sub hl [0, 1, 2, 3, 4] rfl | (rw [show (nI 0 : Int32) = 0 from by first | rfl | decide | simp [nI_0]]; rw [show (kx_w1 d xm w b (z b) 0 : Int32) = d from by first | rfl | decide | simp [nI_0]]; exact lv_sub hl [0, 1, 2, 3, 4] rfl))
set_option maxHeartbeats 4000000 in
set_option maxRecDepth 100000 in
theorem k_X4_checksum (l : Launch) (E : bd_E) (xm ym : bd_M) (om : Nat → Int64) (w : Nat) (n : Nat) (nb : Nat) (z : (Nat→Nat)) (hw : w < 2) (hs : kx_Sh xm w n nb z) : bd_Ct l yX4_checksum cX4_checksum 5 (some .long) 3 70 0 0 E [.ref (bd_ea E 1 w 0)] xm ym om xm ym om (some (.long (kx_sum xm w n nb z))) := by
  refine bd_open RX4 rfl (by decide) (Nat.le_of_ble_eq_true rfl) ?_
  intro p e s m args below meth c ls C hr hlk hS hR hl
  have hx := C.1.1
  have hb := C.1.2.1
  have hs24 := hs.2.1
  have hs6 := hs.2.2.2.1
  have hl : lv_has ls 5 [(0, .ref (bd_ea E 1 w 0))] := hl
  refine lv_ldc2 (v := 613) hx hb C.1.2.2.2.1 (C.1.2.2.2.2 _ qd_X4_137) dX4_checksum_0 ?_
  refine lv_lstore_n (lv' := [(1, .long 613), (0, .ref (bd_ea E 1 w 0))]) hx hb dX4_checksum_3 rfl hl (by decide) rfl (fun ls hl => ?_)
  refine lv_iconst (v := 0) hx hb dX4_checksum_4 (by decide) ?_
  refine lv_istore_n (lv' := [(3, .int 0), (1, .long 613), (0, .ref (bd_ea E 1 w 0))]) hx hb dX4_checksum_5 rfl hl (by decide) rfl (fun ls hl => ?_)
  have lp1 : ∀ (t1 j : Nat), j ≤ 7 → 7 - j < t1 → ∀ (H : Heap) (locs : List Loc), bd_Rep E xm ym om H → va_S (bd_A E) s.heap H locs → ∀ (ls : Array Slot), lv_has ls 5 [(3, .int (nI j)), (1, .long (kx_d1 xm w n nb z j)), (0, .ref (bd_ea E 1 w 0))] → W p l e { frames := 3, cells := 0, slots := 0, locals := 70 } s m args below meth c H locs 0 0 (MQ below (bd_Q E xm ym om (some (.long (kx_sum xm w n nb z)))) args s 0 0 (bd_A E)) (F0 m 6 ls []) := by
    intro t1
    induction t1 with
    | zero => intro j h1 h2; exact absurd h2 (Nat.not_lt_zero _)
    | succ t1 ih1 =>
      intro j hj1 hj2 H locs hR hS ls hl
      refine lv_iload_n hx hb dX4_checksum_6 rfl (lv_at hl 0 rfl) ?_
      refine lv_bipush (v := 7) hx hb dX4_checksum_7 (by decide) ?_
      refine lv_icmp_ge (tgt := 31) hx hb dX4_checksum_9 (by decide) (fun c9 => ?_) (fun c9 => ?_)
      · skip
        have nc9 : 7 ≤ j := (nI_leI (a := 7) (b := j) (by omega) (by omega)).mp c9
        obtain rfl : 7 = j := by omega
        refine lv_iconst (v := 0) hx hb dX4_checksum_31 (by decide) ?_
        refine lv_istore_n (lv' := [(3, .int 0), (1, .long (kx_d1 xm w n nb z 7)), (0, .ref (bd_ea E 1 w 0))]) hx hb dX4_checksum_32 rfl hl (by decide) rfl (fun ls hl => ?_)
        have lp2 : ∀ (t2 j : Nat), j ≤ 4 → 4 - j < t2 → ∀ (H : Heap) (locs : List Loc), bd_Rep E xm ym om H → va_S (bd_A E) s.heap H locs → ∀ (ls : Array Slot), lv_has ls 5 [(3, .int (nI j)), (1, .long (kx_d2 (kx_d1 xm w n nb z 7) xm w j)), (0, .ref (bd_ea E 1 w 0))] → W p l e { frames := 3, cells := 0, slots := 0, locals := 70 } s m args below meth c H locs 0 0 (MQ below (bd_Q E xm ym om (some (.long (kx_sum xm w n nb z)))) args s 0 0 (bd_A E)) (F0 m 33 ls []) := by
          intro t2
          induction t2 with
          | zero => intro j h1 h2; exact absurd h2 (Nat.not_lt_zero _)
          | succ t2 ih2 =>
            intro j hj1 hj2 H locs hR hS ls hl
            refine lv_iload_n hx hb dX4_checksum_33 rfl (lv_at hl 0 rfl) ?_
            refine lv_iconst (v := 4) hx hb dX4_checksum_34 (by decide) ?_
            refine lv_icmp_ge (tgt := 72) hx hb dX4_checksum_35 (by decide) (fun c35 => ?_) (fun c35 => ?_)
            · skip
              have nc35 : 4 ≤ j := (nI_leI (a := 4) (b := j) (by omega) (by omega)).mp c35
              obtain rfl : 4 = j := by omega
              refine lv_iconst (v := 0) hx hb dX4_checksum_72 (by decide) ?_
              refine lv_istore_n (lv' := [(3, .int 0), (1, .long (kx_d2 (kx_d1 xm w n nb z 7) xm w 4)), (0, .ref (bd_ea E 1 w 0))]) hx hb dX4_checksum_73 rfl hl (by decide) rfl (fun ls hl => ?_)
              have lp3 : ∀ (t3 j : Nat), j ≤ n → n - j < t3 → ∀ (H : Heap) (locs : List Loc), bd_Rep E xm ym om H → va_S (bd_A E) s.heap H locs → ∀ (ls : Array Slot), lv_has ls 5 [(3, .int (nI j)), (1, .long (kx_d3 (kx_d2 (kx_d1 xm w n nb z 7) xm w 4) xm w j)), (0, .ref (bd_ea E 1 w 0))] → W p l e { frames := 3, cells := 0, slots := 0, locals := 70 } s m args below meth c H locs 0 0 (MQ below (bd_Q E xm ym om (some (.long (kx_sum xm w n nb z)))) args s 0 0 (bd_A E)) (F0 m 74 ls []) := by
                intro t3
                induction t3 with
                | zero => intro j h1 h2; exact absurd h2 (Nat.not_lt_zero _)
                | succ t3 ih3 =>
                  intro j hj1 hj2 H locs hR hS ls hl
                  refine lv_iload_n hx hb dX4_checksum_74 rfl (lv_at hl 0 rfl) ?_
                  refine lv_aload_n hx hb dX4_checksum_75 rfl (lv_at hl 2 rfl) ?_
                  refine bd_g_X4_playerCount C hR (by omega) qf_X4_32 dX4_checksum_76 ?_
                  rw [show xm 30 w 0 = nI n from (show kx_Sh xm w n nb z from hs).1]
                  refine lv_icmp_ge (tgt := 123) hx hb dX4_checksum_79 (by decide) (fun c79 => ?_) (fun c79 => ?_)
                  · skip
                    have nc79 : n ≤ j := (nI_leI (a := n) (b := j) (by omega) (by omega)).mp c79
                    obtain rfl : n = j := by omega
                    refine lv_iconst (v := 0) hx hb dX4_checksum_123 (by decide) ?_
                    refine lv_istore_n (lv' := [(3, .int 0), (1, .long (kx_d3 (kx_d2 (kx_d1 xm w n nb z 7) xm w 4) xm w n)), (0, .ref (bd_ea E 1 w 0))]) hx hb dX4_checksum_124 rfl hl (by decide) rfl (fun ls hl => ?_)
                    have lp4 : ∀ (t4 j : Nat), j ≤ nb → nb - j < t4 → ∀ (H : Heap) (locs : List Loc), bd_Rep E xm ym om H → va_S (bd_A E) s.heap H locs → ∀ (ls : Array Slot), lv_has ls 5 [(3, .int (nI j)), (1, .long (kx_d4 (kx_d3 (kx_d2 (kx_d1 xm w n nb z 7) xm w 4) xm w n) xm w z j)), (0, .ref (bd_ea E 1 w 0))] → W p l e { frames := 3, cells := 0, slots := 0, locals := 70 } s m args below meth c H locs 0 0 (MQ below (bd_Q E xm ym om (some (.long (kx_sum xm w n nb z)))) args s 0 0 (bd_A E)) (F0 m 125 ls []) := by
                      intro t4
                      induction t4 with
                      | zero => intro j h1 h2; exact absurd h2 (Nat.not_lt_zero _)
                      | succ t4 ih4 =>
                        intro j hj1 hj2 H locs hR hS ls hl
                        refine lv_iload_n hx hb dX4_checksum_125 rfl (lv_at hl 0 rfl) ?_
                        refine lv_aload_n hx hb dX4_checksum_126 rfl (lv_at hl 2 rfl) ?_
                        refine bd_g_X4_bandCount C hR (by omega) qf_X4_40 dX4_checksum_127 ?_
                        rw [show xm 31 w 0 = nI nb from (show kx_Sh xm w n nb z from hs).2.2.1]
                        refine lv_icmp_ge (tgt := 151) hx hb dX4_checksum_130 (by decide) (fun c130 => ?_) (fun c130 => ?_)
                        · skip
                          have nc130 : nb ≤ j := (nI_leI (a := nb) (b := j) (by omega) (by omega)).mp c130
                          obtain rfl : nb = j := by omega
                          refine lv_lload_n hx hb dX4_checksum_151 rfl (lv_at hl 1 rfl) ?_
                          exact bd_rl C hr hlk (hR.eq rfl rfl) hS (Nat.zero_le _) (Nat.zero_le _) dX4_checksum_152 (by first | (simp (config := { decide := true }) only [kx_sum, eq_true c9, eq_true nc9, eq_true c35, eq_true nc35, eq_true c79, eq_true nc79, eq_true c130, eq_true nc130, ↓reduceIte, not_true_eq_false, not_false_eq_true, and_self, and_true, true_and, and_false, false_and]; done) | rfl)
                        · skip
                          have nc130 : ¬ nb ≤ j := fun q9 => c130 ((nI_leI (a := nb) (b := j) (by omega) (by omega)).mpr q9)
                          refine lv_aload_n hx hb dX4_checksum_133 rfl (lv_at hl 2 rfl) ?_
                          refine lv_lload_n hx hb dX4_checksum_134 rfl (lv_at hl 1 rfl) ?_
                          refine lv_aload_n hx hb dX4_checksum_135 rfl (lv_at hl 2 rfl) ?_
                          refine bd_g_X4_bands C hR (by omega) qf_X4_19 dX4_checksum_136 ?_
                          refine lv_iload_n hx hb dX4_checksum_139 rfl (lv_at hl 0 rfl) ?_
                          refine bd_ld_4 C hR (by omega) (j := j) (by omega) dX4_checksum_140 ?_
                          refine bd_cV1 [.long (kx_d4 (kx_d3 (kx_d2 (kx_d1 xm w n nb z 7) xm w 4) xm w n) xm w z j), .ref (bd_ea E 9 w j)] [] C (k_X4_withBand l E xm ym om w n nb z j (kx_d4 (kx_d3 (kx_d2 (kx_d1 xm w n nb z 7) xm w 4) xm w n) xm w z j) (by omega) hs (by omega)) hR hS (bd_recv C.2 hR ⟨by decide, show w < 2 by omega, (by decide)⟩ rfl rfl) qm_X4_145 qi_X4_withBand qs_X4_withBand qz_X4 qc_X4_withBand qp_X4_withBand ⟨Nat.le_of_ble_eq_true rfl, Nat.le_of_ble_eq_true rfl⟩ hl.1 (Nat.le_of_ble_eq_true rfl) dX4_checksum_141 ⟨Nat.le_of_ble_eq_true rfl, Nat.le_of_ble_eq_true rfl⟩ (fun H locs hR hS hz141 => ?_)
                          refine lv_lstore_n (lv' := [(1, .long (kx_wb (kx_d4 (kx_d3 (kx_d2 (kx_d1 xm w n nb z 7) xm w 4) xm w n) xm w z j) xm w j (z j))), (3, .int (nI j)), (0, .ref (bd_ea E 1 w 0))]) hx hb dX4_checksum_144 rfl hl (by decide) rfl (fun ls hl => ?_)
                          refine lv_iinc (v := nI (j + 1)) (lv' := [(3, .int (nI (j + 1))), (1, .long (kx_wb (kx_d4 (kx_d3 (kx_d2 (kx_d1 xm w n nb z 7) xm w 4) xm w n) xm w z j) xm w j (z j))), (0, .ref (bd_ea E 1 w 0))]) hx hb dX4_checksum_145 hl (k := 1) rfl (nI_1 j) (by decide) rfl (fun ls hl => ?_)
                          refine lv_goto (tgt := 125) hx hb dX4_checksum_148 (by decide) ?_
                          exact ih4 (j + 1) (by omega) (by omega) _ _ (hR.eq rfl rfl) hS _ (by rw [show (kx_d4 (kx_d3 (kx_d2 (kx_d1 xm w n nb z 7) xm w 4) xm w n) xm w z (j + 1) : Int64) = kx_wb (kx_d4 (kx_d3 (kx_d2 (kx_d1 xm w n nb z 7) xm w 4) xm w n) xm w z j) xm w j (z j) from (by first | (simp (config := { decide := true }) only [kx_d4, eq_true c9, eq_true nc9, eq_true c35, eq_true nc35, eq_true c79, eq_true nc79, eq_false c130, eq_false nc130, ↓reduceIte, not_true_eq_false, not_false_eq_true, and_self, and_true, true_and, and_false, false_and]; done) | rfl)]; exact lv_sub hl [0, 1, 2] rfl)
                    exact lp4 (nb + 1) 0 (by omega) (by omega) _ _ (hR.eq rfl rfl) hS _ (by first | exact lv_sub hl [0, 1, 2] rfl | (rw [show (nI 0 : Int32) = 0 from by first | rfl | decide | simp [nI_0]]; rw [show (kx_d4 (kx_d3 (kx_d2 (kx_d1 xm w n nb z 7) xm w 4) xm w n) xm w z 0 : Int32) = kx_d3 (kx_d2 (kx_d1 xm w n nb z 7) xm w 4) xm w n from by first | rfl | decide | simp [nI_0]]; exact lv_sub hl [0, 1, 2] rfl))
                  · skip
                    have nc79 : ¬ n ≤ j := fun q9 => c79 ((nI_leI (a := n) (b := j) (by omega) (by omega)).mpr q9)
                    refine lv_iconst (v := 0) hx hb dX4_checksum_82 (by decide) ?_
                    refine lv_istore (lv' := [(4, .int 0), (3, .int (nI j)), (1, .long (kx_d3 (kx_d2 (kx_d1 xm w n nb z 7) xm w 4) xm w j)), (0, .ref (bd_ea E 1 w 0))]) hx hb dX4_checksum_83 hl (by decide) rfl (fun ls hl => ?_)
                    have lp5 : ∀ (t5 j2 : Nat), j2 ≤ 10 → 10 - j2 < t5 → ∀ (H : Heap) (locs : List Loc), bd_Rep E xm ym om H → va_S (bd_A E) s.heap H locs → ∀ (ls : Array Slot), lv_has ls 5 [(4, .int (nI j2)), (3, .int (nI j)), (1, .long (kx_d3i (kx_d3 (kx_d2 (kx_d1 xm w n nb z 7) xm w 4) xm w j) xm w j j2)), (0, .ref (bd_ea E 1 w 0))] → W p l e { frames := 3, cells := 0, slots := 0, locals := 70 } s m args below meth c H locs 0 0 (MQ below (bd_Q E xm ym om (some (.long (kx_sum xm w n nb z)))) args s 0 0 (bd_A E)) (F0 m 85 ls []) := by
                      intro t5
                      induction t5 with
                      | zero => intro j2 h1 h2; exact absurd h2 (Nat.not_lt_zero _)
                      | succ t5 ih5 =>
                        intro j2 hj21 hj22 H locs hR hS ls hl
                        refine lv_iload hx hb dX4_checksum_85 (lv_at hl 0 rfl) ?_
                        refine lv_bipush (v := 10) hx hb dX4_checksum_87 (by decide) ?_
                        refine lv_icmp_ge (tgt := 117) hx hb dX4_checksum_89 (by decide) (fun c89 => ?_) (fun c89 => ?_)
                        · skip
                          have nc89 : 10 ≤ j2 := (nI_leI (a := 10) (b := j2) (by omega) (by omega)).mp c89
                          obtain rfl : 10 = j2 := by omega
                          refine lv_iinc (v := nI (j + 1)) (lv' := [(3, .int (nI (j + 1))), (4, .int (nI 10)), (1, .long (kx_d3i (kx_d3 (kx_d2 (kx_d1 xm w n nb z 7) xm w 4) xm w j) xm w j 10)), (0, .ref (bd_ea E 1 w 0))]) hx hb dX4_checksum_117 hl (k := 1) rfl (nI_1 j) (by decide) rfl (fun ls hl => ?_)
                          refine lv_goto (tgt := 74) hx hb dX4_checksum_120 (by decide) ?_
                          exact ih3 (j + 1) (by omega) (by omega) _ _ (hR.eq rfl rfl) hS _ (by rw [show (kx_d3 (kx_d2 (kx_d1 xm w n nb z 7) xm w 4) xm w (j + 1) : Int64) = kx_d3i (kx_d3 (kx_d2 (kx_d1 xm w n nb z 7) xm w 4) xm w j) xm w j 10 from (by first | (simp (config := { decide := true }) only [kx_d3, eq_true c9, eq_true nc9, eq_true c35, eq_true nc35, eq_false c79, eq_false nc79, eq_true c89, eq_true nc89, ↓reduceIte, not_true_eq_false, not_false_eq_true, and_self, and_true, true_and, and_false, false_and]; done) | rfl)]; exact lv_sub hl [0, 2, 3] rfl)
                        · skip
                          have nc89 : ¬ 10 ≤ j2 := fun q9 => c89 ((nI_leI (a := 10) (b := j2) (by omega) (by omega)).mpr q9)
                          refine lv_lload_n hx hb dX4_checksum_92 rfl (lv_at hl 2 rfl) ?_
                          refine lv_ldc2 (v := 31) hx hb C.1.2.2.2.1 (C.1.2.2.2.2 _ qd_X4_139) dX4_checksum_93 ?_
                          refine lv_lmul hx hb dX4_checksum_96 ?_
                          refine lv_aload_n hx hb dX4_checksum_97 rfl (lv_at hl 3 rfl) ?_
                          refine bd_g_X4_players C hR (by omega) qf_X4_11 dX4_checksum_98 ?_
                          refine lv_iload_n hx hb dX4_checksum_101 rfl (lv_at hl 1 rfl) ?_
                          refine bd_ld_3 C hR (by omega) (j := j) (by omega) dX4_checksum_102 ?_
                          refine lv_iload hx hb dX4_checksum_103 (lv_at hl 0 rfl) ?_
                          refine bd_cV1 [.int (nI j2)] [.long ((kx_d3i (kx_d3 (kx_d2 (kx_d1 xm w n nb z 7) xm w 4) xm w j) xm w j j2) * 31)] C (k_X3_tell l E xm ym om w j (nI j2) (by omega) (by omega)) hR hS (bd_recv C.2 hR ⟨by decide, show w < 2 by omega, show j < 24 by omega⟩ rfl rfl) qm_X4_144 qi_X3_tell qs_X3_tell qz_X3 qc_X3_tell qp_X3_tell ⟨Nat.le_of_ble_eq_true rfl, Nat.le_of_ble_eq_true rfl⟩ hl.1 (Nat.le_of_ble_eq_true rfl) dX4_checksum_105 ⟨Nat.le_of_ble_eq_true rfl, Nat.le_of_ble_eq_true rfl⟩ (fun H locs hR hS hz105 => ?_)
                          refine lv_i2l hx hb dX4_checksum_108 rfl ?_
                          refine lv_ladd hx hb dX4_checksum_109 ?_
                          refine lv_lstore_n (lv' := [(1, .long (((kx_d3i (kx_d3 (kx_d2 (kx_d1 xm w n nb z 7) xm w 4) xm w j) xm w j j2) * 31) + ((kx_ptell xm w j (nI j2)).toInt64))), (4, .int (nI j2)), (3, .int (nI j)), (0, .ref (bd_ea E 1 w 0))]) hx hb dX4_checksum_110 rfl hl (by decide) rfl (fun ls hl => ?_)
                          refine lv_iinc (v := nI (j2 + 1)) (lv' := [(4, .int (nI (j2 + 1))), (1, .long (((kx_d3i (kx_d3 (kx_d2 (kx_d1 xm w n nb z 7) xm w 4) xm w j) xm w j j2) * 31) + ((kx_ptell xm w j (nI j2)).toInt64))), (3, .int (nI j)), (0, .ref (bd_ea E 1 w 0))]) hx hb dX4_checksum_111 hl (k := 1) rfl (nI_1 j2) (by decide) rfl (fun ls hl => ?_)
                          refine lv_goto (tgt := 85) hx hb dX4_checksum_114 (by decide) ?_
                          exact ih5 (j2 + 1) (by omega) (by omega) _ _ (hR.eq rfl rfl) hS _ (by rw [show (kx_d3i (kx_d3 (kx_d2 (kx_d1 xm w n nb z 7) xm w 4) xm w j) xm w j (j2 + 1) : Int64) = ((kx_d3i (kx_d3 (kx_d2 (kx_d1 xm w n nb z 7) xm w 4) xm w j) xm w j j2) * 31) + ((kx_ptell xm w j (nI j2)).toInt64) from (by first | (simp (config := { decide := true }) only [kx_d3i, eq_true c9, eq_true nc9, eq_true c35, eq_true nc35, eq_false c79, eq_false nc79, eq_false c89, eq_false nc89, ↓reduceIte, not_true_eq_false, not_false_eq_true, and_self, and_true, true_and, and_false, false_and]; done) | rfl)]; exact lv_sub hl [0, 2, 1, 3] rfl)
                    exact lp5 (10 + 1) 0 (by omega) (by omega) _ _ (hR.eq rfl rfl) hS _ (by first | exact lv_sub hl [0, 1, 2, 3] rfl | (rw [show (nI 0 : Int32) = 0 from by first | rfl | decide | simp [nI_0]]; rw [show (kx_d3i (kx_d3 (kx_d2 (kx_d1 xm w n nb z 7) xm w 4) xm w j) xm w j 0 : Int32) = kx_d3 (kx_d2 (kx_d1 xm w n nb z 7) xm w 4) xm w j from by first | rfl | decide | simp [nI_0]]; exact lv_sub hl [0, 1, 2, 3] rfl))
              exact lp3 (n + 1) 0 (by omega) (by omega) _ _ (hR.eq rfl rfl) hS _ (by first | exact lv_sub hl [0, 1, 2] rfl | (rw [show (nI 0 : Int32) = 0 from by first | rfl | decide | simp [nI_0]]; rw [show (kx_d3 (kx_d2 (kx_d1 xm w n nb z 7) xm w 4) xm w 0 : Int32) = kx_d2 (kx_d1 xm w n nb z 7) xm w 4 from by first | rfl | decide | simp [nI_0]]; exact lv_sub hl [0, 1, 2] rfl))
            · skip
              have nc35 : ¬ 4 ≤ j := fun q9 => c35 ((nI_leI (a := 4) (b := j) (by omega) (by omega)).mpr q9)
              refine lv_lload_n hx hb dX4_checksum_38 rfl (lv_at hl 1 rfl) ?_
              refine lv_ldc2 (v := 31) hx hb C.1.2.2.2.1 (C.1.2.2.2.2 _ qd_X4_139) dX4_checksum_39 ?_
              refine lv_lmul hx hb dX4_checksum_42 ?_
              refine lv_aload_n hx hb dX4_checksum_43 rfl (lv_at hl 2 rfl) ?_
              refine bd_g_X4_hard C hR (by omega) qf_X4_23 dX4_checksum_44 ?_
              refine lv_iload_n hx hb dX4_checksum_47 rfl (lv_at hl 0 rfl) ?_
              refine bd_ld_5 C hR (by omega) (j := j) (by omega) dX4_checksum_48 ?_
              refine lv_i2l hx hb dX4_checksum_49 rfl ?_
              refine lv_ladd hx hb dX4_checksum_50 ?_
              refine lv_lstore_n (lv' := [(1, .long (((kx_d2 (kx_d1 xm w n nb z 7) xm w j) * 31) + ((xm 35 w j).toInt64))), (3, .int (nI j)), (0, .ref (bd_ea E 1 w 0))]) hx hb dX4_checksum_51 rfl hl (by decide) rfl (fun ls hl => ?_)
              refine lv_lload_n hx hb dX4_checksum_52 rfl (lv_at hl 0 rfl) ?_
              refine lv_ldc2 (v := 31) hx hb C.1.2.2.2.1 (C.1.2.2.2.2 _ qd_X4_139) dX4_checksum_53 ?_
              refine lv_lmul hx hb dX4_checksum_56 ?_
              refine lv_aload_n hx hb dX4_checksum_57 rfl (lv_at hl 2 rfl) ?_
              refine bd_g_X4_weight C hR (by omega) qf_X4_27 dX4_checksum_58 ?_
              refine lv_iload_n hx hb dX4_checksum_61 rfl (lv_at hl 1 rfl) ?_
              refine bd_ld_6 C hR (by omega) (j := j) (by omega) dX4_checksum_62 ?_
              refine lv_i2l hx hb dX4_checksum_63 rfl ?_
              refine lv_ladd hx hb dX4_checksum_64 ?_
              refine lv_lstore_n (lv' := [(1, .long (((((kx_d2 (kx_d1 xm w n nb z 7) xm w j) * 31) + ((xm 35 w j).toInt64)) * 31) + ((xm 36 w j).toInt64))), (3, .int (nI j)), (0, .ref (bd_ea E 1 w 0))]) hx hb dX4_checksum_65 rfl hl (by decide) rfl (fun ls hl => ?_)
              refine lv_iinc (v := nI (j + 1)) (lv' := [(3, .int (nI (j + 1))), (1, .long (((((kx_d2 (kx_d1 xm w n nb z 7) xm w j) * 31) + ((xm 35 w j).toInt64)) * 31) + ((xm 36 w j).toInt64))), (0, .ref (bd_ea E 1 w 0))]) hx hb dX4_checksum_66 hl (k := 1) rfl (nI_1 j) (by decide) rfl (fun ls hl => ?_)
              refine lv_goto (tgt := 33) hx hb dX4_checksum_69 (by decide) ?_
              exact ih2 (j + 1) (by omega) (by omega) _ _ (hR.eq rfl rfl) hS _ (by rw [show (kx_d2 (kx_d1 xm w n nb z 7) xm w (j + 1) : Int64) = ((((kx_d2 (kx_d1 xm w n nb z 7) xm w j) * 31) + ((xm 35 w j).toInt64)) * 31) + ((xm 36 w j).toInt64) from (by first | (simp (config := { decide := true }) only [kx_d2, eq_true c9, eq_true nc9, eq_false c35, eq_false nc35, ↓reduceIte, not_true_eq_false, not_false_eq_true, and_self, and_true, true_and, and_false, false_and]; done) | rfl)]; exact lv_sub hl [0, 1, 2] rfl)
        exact lp2 (4 + 1) 0 (by omega) (by omega) _ _ (hR.eq rfl rfl) hS _ (by first | exact lv_sub hl [0, 1, 2] rfl | (rw [show (nI 0 : Int32) = 0 from by first | rfl | decide | simp [nI_0]]; rw [show (kx_d2 (kx_d1 xm w n nb z 7) xm w 0 : Int32) = kx_d1 xm w n nb z 7 from by first | rfl | decide | simp [nI_0]]; exact lv_sub hl [0, 1, 2] rfl))
      · skip
        have nc9 : ¬ 7 ≤ j := fun q9 => c9 ((nI_leI (a := 7) (b := j) (by omega) (by omega)).mpr q9)
        refine lv_lload_n hx hb dX4_checksum_12 rfl (lv_at hl 1 rfl) ?_
        refine lv_ldc2 (v := 31) hx hb C.1.2.2.2.1 (C.1.2.2.2.2 _ qd_X4_139) dX4_checksum_13 ?_
        refine lv_lmul hx hb dX4_checksum_16 ?_
        refine lv_aload_n hx hb dX4_checksum_17 rfl (lv_at hl 2 rfl) ?_
        refine lv_iload_n hx hb dX4_checksum_18 rfl (lv_at hl 0 rfl) ?_
        refine bd_cV1 [.int (nI j)] [.long ((kx_d1 xm w n nb z j) * 31)] C (k_X4_tell l E xm ym om w n nb z (nI j) (by omega) hs) hR hS (bd_recv C.2 hR ⟨by decide, show w < 2 by omega, (by decide)⟩ rfl rfl) qm_X4_141 qi_X4_tell qs_X4_tell qz_X4 qc_X4_tell qp_X4_tell ⟨Nat.le_of_ble_eq_true rfl, Nat.le_of_ble_eq_true rfl⟩ hl.1 (Nat.le_of_ble_eq_true rfl) dX4_checksum_19 ⟨Nat.le_of_ble_eq_true rfl, Nat.le_of_ble_eq_true rfl⟩ (fun H locs hR hS hz19 => ?_)
        refine lv_i2l hx hb dX4_checksum_22 rfl ?_
        refine lv_ladd hx hb dX4_checksum_23 ?_
        refine lv_lstore_n (lv' := [(1, .long (((kx_d1 xm w n nb z j) * 31) + ((kx_stell xm w n nb z (nI j)).toInt64))), (3, .int (nI j)), (0, .ref (bd_ea E 1 w 0))]) hx hb dX4_checksum_24 rfl hl (by decide) rfl (fun ls hl => ?_)
        refine lv_iinc (v := nI (j + 1)) (lv' := [(3, .int (nI (j + 1))), (1, .long (((kx_d1 xm w n nb z j) * 31) + ((kx_stell xm w n nb z (nI j)).toInt64))), (0, .ref (bd_ea E 1 w 0))]) hx hb dX4_checksum_25 hl (k := 1) rfl (nI_1 j) (by decide) rfl (fun ls hl => ?_)
        refine lv_goto (tgt := 6) hx hb dX4_checksum_28 (by decide) ?_
        exact ih1 (j + 1) (by omega) (by omega) _ _ (hR.eq rfl rfl) hS _ (by rw [show (kx_d1 xm w n nb z (j + 1) : Int64) = ((kx_d1 xm w n nb z j) * 31) + ((kx_stell xm w n nb z (nI j)).toInt64) from (by first | (simp (config := { decide := true }) only [kx_d1, eq_false c9, eq_false nc9, ↓reduceIte, not_true_eq_false, not_false_eq_true, and_self, and_true, true_and, and_false, false_and]; done) | rfl)]; exact lv_sub hl [0, 1, 2] rfl)
  exact lp1 (7 + 1) 0 (by omega) (by omega) _ _ (hR.eq rfl rfl) hS _ (by first | exact lv_sub hl [0, 1, 2] rfl | (rw [show (nI 0 : Int32) = 0 from by first | rfl | decide | simp [nI_0]]; rw [show (kx_d1 xm w n nb z 0 : Int32) = 613 from by first | rfl | decide | simp [nI_0]]; exact lv_sub hl [0, 1, 2] rfl))
set_option maxHeartbeats 4000000 in
set_option maxRecDepth 100000 in
theorem k_X4_copyFrom (l : Launch) (E : bd_E) (xm ym : bd_M) (om : Nat → Int64) (w : Nat) (w2 : Nat) (n : Nat) (nb : Nat) (z : (Nat→Nat)) (hw : w < 2) (hw2 : w2 < 2) (hne : w2 ≠ w) (hs : kx_Sh xm w2 n nb z) : bd_Ct l yX4_copyFrom cX4_copyFrom 3 none 2 61 0 0 E [.ref (bd_ea E 1 w 0), .ref (bd_ea E 1 w2 0)] xm ym om (kx_scopy xm w w2 n nb z) ym om (none) := by
  refine bd_open RX4 rfl (by decide) (Nat.le_of_ble_eq_true rfl) ?_
  intro p e s m args below meth c ls C hr hlk hS hR hl
  have hx := C.1.1
  have hb := C.1.2.1
  have hs24 := hs.2.1
  have hs6 := hs.2.2.2.1
  have hl : lv_has ls 3 [(0, .ref (bd_ea E 1 w 0)), (1, .ref (bd_ea E 1 w2 0))] := hl
  refine lv_aload_n hx hb dX4_copyFrom_0 rfl (lv_at hl 0 rfl) ?_
  refine lv_aload_n hx hb dX4_copyFrom_1 rfl (lv_at hl 1 rfl) ?_
  refine bd_g_X4_playerCount C hR (by omega) qf_X4_32 dX4_copyFrom_2 ?_
  rw [show xm 30 w2 0 = nI n from (show kx_Sh xm w2 n nb z from hs).1]
  refine bd_p_X4_playerCount C hR hS (by omega) qf_X4_32 dX4_copyFrom_5 (fun H locs hR hS => ?_)
  refine lv_iconst (v := 0) hx hb dX4_copyFrom_8 (by decide) ?_
  refine lv_istore_n (lv' := [(2, .int 0), (0, .ref (bd_ea E 1 w 0)), (1, .ref (bd_ea E 1 w2 0))]) hx hb dX4_copyFrom_9 rfl hl (by decide) rfl (fun ls hl => ?_)
  have lp1 : ∀ (t1 j : Nat), j ≤ n → n - j < t1 → ∀ (H : Heap) (locs : List Loc), bd_Rep E (kx_scP (bd_up xm 30 w 0 (nI n)) w w2 j) ym om H → va_S (bd_A E) s.heap H locs → ∀ (ls : Array Slot), lv_has ls 3 [(2, .int (nI j)), (0, .ref (bd_ea E 1 w 0)), (1, .ref (bd_ea E 1 w2 0))] → W p l e { frames := 2, cells := 0, slots := 0, locals := 61 } s m args below meth c H locs 0 0 (MQ below (bd_Q E (kx_scopy xm w w2 n nb z) ym om (none)) args s 0 0 (bd_A E)) (F0 m 10 ls []) := by
    intro t1
    induction t1 with
    | zero => intro j h1 h2; exact absurd h2 (Nat.not_lt_zero _)
    | succ t1 ih1 =>
      intro j hj1 hj2 H locs hR hS ls hl
      refine lv_iload_n hx hb dX4_copyFrom_10 rfl (lv_at hl 0 rfl) ?_
      refine lv_aload_n hx hb dX4_copyFrom_11 rfl (lv_at hl 1 rfl) ?_
      refine bd_g_X4_playerCount C hR (by omega) qf_X4_32 dX4_copyFrom_12 ?_
      rw [show (kx_scP (bd_up xm 30 w 0 (nI n)) w w2 j) 30 w 0 = nI n from by rw [kx_scP_f (by decide) (by decide), bd_up_s]]
      refine lv_icmp_ge (tgt := 39) hx hb dX4_copyFrom_15 (by decide) (fun c15 => ?_) (fun c15 => ?_)
      · skip
        have nc15 : n ≤ j := (nI_leI (a := n) (b := j) (by omega) (by omega)).mp c15
        obtain rfl : n = j := by omega
        refine lv_aload_n hx hb dX4_copyFrom_39 rfl (lv_at hl 1 rfl) ?_
        refine lv_aload_n hx hb dX4_copyFrom_40 rfl (lv_at hl 2 rfl) ?_
        refine bd_g_X4_bandCount C hR (by omega) qf_X4_40 dX4_copyFrom_41 ?_
        rw [show (kx_scP (bd_up xm 30 w 0 (nI n)) w w2 n) 31 w2 0 = nI nb from (show kx_Sh (kx_scP (bd_up xm 30 w 0 (nI n)) w w2 n) w2 n nb z from (kx_scP_sh (kx_Sh_w hs (by omega)) n)).2.2.1]
        refine bd_p_X4_bandCount C hR hS (by omega) qf_X4_40 dX4_copyFrom_44 (fun H locs hR hS => ?_)
        refine lv_iconst (v := 0) hx hb dX4_copyFrom_47 (by decide) ?_
        refine lv_istore_n (lv' := [(2, .int 0), (0, .ref (bd_ea E 1 w 0)), (1, .ref (bd_ea E 1 w2 0))]) hx hb dX4_copyFrom_48 rfl hl (by decide) rfl (fun ls hl => ?_)
        have lp2 : ∀ (t2 j : Nat), j ≤ nb → nb - j < t2 → ∀ (H : Heap) (locs : List Loc), bd_Rep E (kx_scB (bd_up (kx_scP (bd_up xm 30 w 0 (nI n)) w w2 n) 31 w 0 (nI nb)) w w2 z j) ym om H → va_S (bd_A E) s.heap H locs → ∀ (ls : Array Slot), lv_has ls 3 [(2, .int (nI j)), (0, .ref (bd_ea E 1 w 0)), (1, .ref (bd_ea E 1 w2 0))] → W p l e { frames := 2, cells := 0, slots := 0, locals := 61 } s m args below meth c H locs 0 0 (MQ below (bd_Q E (kx_scopy xm w w2 n nb z) ym om (none)) args s 0 0 (bd_A E)) (F0 m 49 ls []) := by
          intro t2
          induction t2 with
          | zero => intro j h1 h2; exact absurd h2 (Nat.not_lt_zero _)
          | succ t2 ih2 =>
            intro j hj1 hj2 H locs hR hS ls hl
            refine lv_iload_n hx hb dX4_copyFrom_49 rfl (lv_at hl 0 rfl) ?_
            refine lv_aload_n hx hb dX4_copyFrom_50 rfl (lv_at hl 1 rfl) ?_
            refine bd_g_X4_bandCount C hR (by omega) qf_X4_40 dX4_copyFrom_51 ?_
            rw [show (kx_scB (bd_up (kx_scP (bd_up xm 30 w 0 (nI n)) w w2 n) 31 w 0 (nI nb)) w w2 z j) 31 w 0 = nI nb from by rw [kx_scB_f (by decide), bd_up_s]]
            refine lv_icmp_ge (tgt := 78) hx hb dX4_copyFrom_54 (by decide) (fun c54 => ?_) (fun c54 => ?_)
            · skip
              have nc54 : nb ≤ j := (nI_leI (a := nb) (b := j) (by omega) (by omega)).mp c54
              obtain rfl : nb = j := by omega
              refine lv_aload_n hx hb dX4_copyFrom_78 rfl (lv_at hl 2 rfl) ?_
              refine bd_g_X4_hard C hR (by omega) qf_X4_23 dX4_copyFrom_79 ?_
              refine lv_iconst (v := 0) hx hb dX4_copyFrom_82 (by decide) ?_
              refine lv_aload_n hx hb dX4_copyFrom_83 rfl (lv_at hl 1 rfl) ?_
              refine bd_g_X4_hard C hR (by omega) qf_X4_23 dX4_copyFrom_84 ?_
              refine lv_iconst (v := 0) hx hb dX4_copyFrom_87 (by decide) ?_
              refine lv_iconst (v := 4) hx hb dX4_copyFrom_88 (by decide) ?_
              refine bd_cpG (n := 4) (dp := 0) (sp := 0) C hR hS hl.1 qm_X4_46 (f1 := 5) (f2 := 5) ⟨by decide, show w2 < 2 by omega, (by decide)⟩ ⟨by decide, show w < 2 by omega, (by decide)⟩ rfl rfl (by omega) (by omega) (by omega) (by omega) (by omega) bd_ro5 ⟨Nat.le_of_ble_eq_true rfl, Nat.le_of_ble_eq_true rfl⟩ dX4_copyFrom_89 (fun H locs hR hS => ?_)
              obtain ⟨xn3, hxn3⟩ : ∃ z9, z9 = bd_ro (kx_scB (bd_up (kx_scP (bd_up xm 30 w 0 (nI n)) w w2 n) 31 w 0 (nI nb)) w w2 z nb) 35 w (va_cpy (fun j => (kx_scB (bd_up (kx_scP (bd_up xm 30 w 0 (nI n)) w w2 n) 31 w 0 (nI nb)) w w2 z nb) 35 w2 j) (fun j => (kx_scB (bd_up (kx_scP (bd_up xm 30 w 0 (nI n)) w w2 n) 31 w 0 (nI nb)) w w2 z nb) 35 w j) 0 0 4) := ⟨_, rfl⟩
              rw [← hxn3] at hR
              have sxn3_0 : kx_Sh xn3 w2 n nb z := by rw [hxn3]; exact (kx_Sh_ro (kx_scB_sh (kx_Sh_w (kx_scP_sh (kx_Sh_w hs (by omega)) n) (by omega)) (by omega) nb) (by decide))
              refine lv_aload_n hx hb dX4_copyFrom_92 rfl (lv_at hl 2 rfl) ?_
              refine bd_g_X4_weight C hR (by omega) qf_X4_27 dX4_copyFrom_93 ?_
              refine lv_iconst (v := 0) hx hb dX4_copyFrom_96 (by decide) ?_
              refine lv_aload_n hx hb dX4_copyFrom_97 rfl (lv_at hl 1 rfl) ?_
              refine bd_g_X4_weight C hR (by omega) qf_X4_27 dX4_copyFrom_98 ?_
              refine lv_iconst (v := 0) hx hb dX4_copyFrom_101 (by decide) ?_
              refine lv_iconst (v := 4) hx hb dX4_copyFrom_102 (by decide) ?_
              refine bd_cpG (n := 4) (dp := 0) (sp := 0) C hR hS hl.1 qm_X4_46 (f1 := 6) (f2 := 6) ⟨by decide, show w2 < 2 by omega, (by decide)⟩ ⟨by decide, show w < 2 by omega, (by decide)⟩ rfl rfl (by omega) (by omega) (by omega) (by omega) (by omega) bd_ro6 ⟨Nat.le_of_ble_eq_true rfl, Nat.le_of_ble_eq_true rfl⟩ dX4_copyFrom_103 (fun H locs hR hS => ?_)
              obtain ⟨xn4, hxn4⟩ : ∃ z9, z9 = bd_ro xn3 36 w (va_cpy (fun j => xn3 36 w2 j) (fun j => xn3 36 w j) 0 0 4) := ⟨_, rfl⟩
              rw [← hxn4] at hR
              have sxn4_0 : kx_Sh xn4 w2 n nb z := by rw [hxn4]; exact (kx_Sh_ro sxn3_0 (by decide))
              refine lv_aload_n hx hb dX4_copyFrom_106 rfl (lv_at hl 1 rfl) ?_
              refine lv_aload_n hx hb dX4_copyFrom_107 rfl (lv_at hl 2 rfl) ?_
              refine bd_g_X4_contests C hR (by omega) qf_X4_52 dX4_copyFrom_108 ?_
              refine bd_p_X4_contests C hR hS (by omega) qf_X4_52 dX4_copyFrom_111 (fun H locs hR hS => ?_)
              obtain ⟨xn5, hxn5⟩ : ∃ z9, z9 = bd_up xn4 32 w 0 (xn4 32 w2 0) := ⟨_, rfl⟩
              rw [← hxn5] at hR
              have sxn5_0 : kx_Sh xn5 w2 n nb z := by rw [hxn5]; exact (kx_Sh_up sxn4_0 (by decide))
              refine lv_aload_n hx hb dX4_copyFrom_114 rfl (lv_at hl 1 rfl) ?_
              refine lv_aload_n hx hb dX4_copyFrom_115 rfl (lv_at hl 2 rfl) ?_
              refine bd_g_X4_deputies C hR (by omega) qf_X4_55 dX4_copyFrom_116 ?_
              refine bd_p_X4_deputies C hR hS (by omega) qf_X4_55 dX4_copyFrom_119 (fun H locs hR hS => ?_)
              obtain ⟨xn6, hxn6⟩ : ∃ z9, z9 = bd_up xn5 33 w 0 (xn5 33 w2 0) := ⟨_, rfl⟩
              rw [← hxn6] at hR
              have sxn6_0 : kx_Sh xn6 w2 n nb z := by rw [hxn6]; exact (kx_Sh_up sxn5_0 (by decide))
              refine lv_aload_n hx hb dX4_copyFrom_122 rfl (lv_at hl 1 rfl) ?_
              refine lv_aload_n hx hb dX4_copyFrom_123 rfl (lv_at hl 2 rfl) ?_
              refine bd_g_X4_empties C hR (by omega) qf_X4_58 dX4_copyFrom_124 ?_
              refine bd_p_X4_empties C hR hS (by omega) qf_X4_58 dX4_copyFrom_127 (fun H locs hR hS => ?_)
              obtain ⟨xn7, hxn7⟩ : ∃ z9, z9 = bd_up xn6 34 w 0 (xn6 34 w2 0) := ⟨_, rfl⟩
              rw [← hxn7] at hR
              have sxn7_0 : kx_Sh xn7 w2 n nb z := by rw [hxn7]; exact (kx_Sh_up sxn6_0 (by decide))
              exact bd_rv C hr hlk (hR.eq (by first | rfl | (subst_vars; rfl)) rfl) hS (Nat.zero_le _) (Nat.zero_le _) dX4_copyFrom_130
            · skip
              have nc54 : ¬ nb ≤ j := fun q9 => c54 ((nI_leI (a := nb) (b := j) (by omega) (by omega)).mpr q9)
              refine lv_aload_n hx hb dX4_copyFrom_57 rfl (lv_at hl 1 rfl) ?_
              refine bd_g_X4_bands C hR (by omega) qf_X4_19 dX4_copyFrom_58 ?_
              refine lv_iload_n hx hb dX4_copyFrom_61 rfl (lv_at hl 0 rfl) ?_
              refine bd_ld_4 C hR (by omega) (j := j) (by omega) dX4_copyFrom_62 ?_
              refine lv_aload_n hx hb dX4_copyFrom_63 rfl (lv_at hl 2 rfl) ?_
              refine bd_g_X4_bands C hR (by omega) qf_X4_19 dX4_copyFrom_64 ?_
              refine lv_iload_n hx hb dX4_copyFrom_67 rfl (lv_at hl 0 rfl) ?_
              refine bd_ld_4 C hR (by omega) (j := j) (by omega) dX4_copyFrom_68 ?_
              refine bd_cV0 [.ref (bd_ea E 9 w2 j)] [] C (k_X0_copyFrom l E (kx_scB (bd_up (kx_scP (bd_up xm 30 w 0 (nI n)) w w2 n) 31 w 0 (nI nb)) w w2 z j) ym om w j w2 j n nb z (by omega) (by omega) (by assumption) (kx_scB_sh (kx_Sh_w (kx_scP_sh (kx_Sh_w hs (by omega)) n) (by omega)) (by omega) j) (by omega) (by omega)) hR hS (bd_recv C.2 hR ⟨by decide, show w < 2 by omega, show j < 6 by omega⟩ rfl rfl) qm_X4_43 qi_X0_copyFrom qs_X0_copyFrom qz_X0 qc_X0_copyFrom qp_X0_copyFrom ⟨Nat.le_of_ble_eq_true rfl, Nat.le_of_ble_eq_true rfl⟩ hl.1 (Nat.le_of_ble_eq_true rfl) dX4_copyFrom_69 ⟨Nat.le_of_ble_eq_true rfl, Nat.le_of_ble_eq_true rfl⟩ (fun H locs hR hS hz69 => ?_)
              refine lv_iinc (v := nI (j + 1)) (lv' := [(2, .int (nI (j + 1))), (0, .ref (bd_ea E 1 w 0)), (1, .ref (bd_ea E 1 w2 0))]) hx hb dX4_copyFrom_72 hl (k := 0) rfl (nI_1 j) (by decide) rfl (fun ls hl => ?_)
              refine lv_goto (tgt := 49) hx hb dX4_copyFrom_75 (by decide) ?_
              exact ih2 (j + 1) (by omega) (by omega) _ _ (hR.eq (by first | rfl | (subst_vars; rfl)) rfl) hS _ (lv_sub hl [0, 1, 2] rfl)
        exact lp2 (nb + 1) 0 (by omega) (by omega) _ _ (hR.eq rfl rfl) hS _ (by first | exact lv_sub hl [0, 1, 2] rfl | (rw [show (nI 0 : Int32) = 0 from by first | rfl | decide | simp [nI_0]]; exact lv_sub hl [0, 1, 2] rfl))
      · skip
        have nc15 : ¬ n ≤ j := fun q9 => c15 ((nI_leI (a := n) (b := j) (by omega) (by omega)).mpr q9)
        refine lv_aload_n hx hb dX4_copyFrom_18 rfl (lv_at hl 1 rfl) ?_
        refine bd_g_X4_players C hR (by omega) qf_X4_11 dX4_copyFrom_19 ?_
        refine lv_iload_n hx hb dX4_copyFrom_22 rfl (lv_at hl 0 rfl) ?_
        refine bd_ld_3 C hR (by omega) (j := j) (by omega) dX4_copyFrom_23 ?_
        refine lv_aload_n hx hb dX4_copyFrom_24 rfl (lv_at hl 2 rfl) ?_
        refine bd_g_X4_players C hR (by omega) qf_X4_11 dX4_copyFrom_25 ?_
        refine lv_iload_n hx hb dX4_copyFrom_28 rfl (lv_at hl 0 rfl) ?_
        refine bd_ld_3 C hR (by omega) (j := j) (by omega) dX4_copyFrom_29 ?_
        refine bd_cV0 [.ref (bd_ea E 7 w2 j)] [] C (k_X3_copyFrom l E (kx_scP (bd_up xm 30 w 0 (nI n)) w w2 j) ym om w j w2 j (by omega) (by omega) (by omega) (by omega)) hR hS (bd_recv C.2 hR ⟨by decide, show w < 2 by omega, show j < 24 by omega⟩ rfl rfl) qm_X4_36 qi_X3_copyFrom qs_X3_copyFrom qz_X3 qc_X3_copyFrom qp_X3_copyFrom ⟨Nat.le_of_ble_eq_true rfl, Nat.le_of_ble_eq_true rfl⟩ hl.1 (Nat.le_of_ble_eq_true rfl) dX4_copyFrom_30 ⟨Nat.le_of_ble_eq_true rfl, Nat.le_of_ble_eq_true rfl⟩ (fun H locs hR hS hz30 => ?_)
        refine lv_iinc (v := nI (j + 1)) (lv' := [(2, .int (nI (j + 1))), (0, .ref (bd_ea E 1 w 0)), (1, .ref (bd_ea E 1 w2 0))]) hx hb dX4_copyFrom_33 hl (k := 0) rfl (nI_1 j) (by decide) rfl (fun ls hl => ?_)
        refine lv_goto (tgt := 10) hx hb dX4_copyFrom_36 (by decide) ?_
        exact ih1 (j + 1) (by omega) (by omega) _ _ (hR.eq (by first | rfl | (subst_vars; rfl)) rfl) hS _ (lv_sub hl [0, 1, 2] rfl)
  exact lp1 (n + 1) 0 (by omega) (by omega) _ _ (hR.eq rfl rfl) hS _ (by first | exact lv_sub hl [0, 1, 2] rfl | (rw [show (nI 0 : Int32) = 0 from by first | rfl | decide | simp [nI_0]]; exact lv_sub hl [0, 1, 2] rfl))
