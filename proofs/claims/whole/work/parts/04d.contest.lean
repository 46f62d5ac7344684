/-! A CONTEST -/
set_option maxHeartbeats 4000000 in
set_option maxRecDepth 100000 in
theorem k_X2_forgetDeputies (l : Launch) (E : bd_E) (xm ym : bd_M) (om : Nat → Int64) (w : Nat) (n : Nat) (nb : Nat) (z : (Nat→Nat)) (hw : w < 2) (hs : kx_Sh xm w n nb z) : bd_Ct l yX2_forgetDeputies cX2_forgetDeputies 2 none 0 0 0 0 E [.ref (bd_ea E 2 w 0)] xm ym om (kx_fd xm w n) ym om (none) := by
  refine bd_open RX2 rfl (by decide) (Nat.le_of_ble_eq_true rfl) ?_
  intro p e s m args below meth c ls C hr hlk hS hR hl
  have hx := C.1.1
  have hb := C.1.2.1
  have hs24 := hs.2.1
  have hs6 := hs.2.2.2.1
  have hl : lv_has ls 2 [(0, .ref (bd_ea E 2 w 0))] := hl
  refine lv_iconst (v := 0) hx hb dX2_forgetDeputies_0 (by decide) ?_
  refine lv_istore_n (lv' := [(1, .int 0), (0, .ref (bd_ea E 2 w 0))]) hx hb dX2_forgetDeputies_1 rfl hl (by decide) rfl (fun ls hl => ?_)
  have lp1 : ∀ (t1 j : Nat), j ≤ n → n - j < t1 → ∀ (H : Heap) (locs : List Loc), bd_Rep E (kx_fd xm w j) ym om H → va_S (bd_A E) s.heap H locs → ∀ (ls : Array Slot), lv_has ls 2 [(1, .int (nI j)), (0, .ref (bd_ea E 2 w 0))] → W p l e { frames := 0, cells := 0, slots := 0, locals := 0 } s m args below meth c H locs 0 0 (MQ below (bd_Q E (kx_fd xm w n) ym om (none)) args s 0 0 (bd_A E)) (F0 m 2 ls []) := by
    intro t1
    induction t1 with
    | zero => intro j h1 h2; exact absurd h2 (Nat.not_lt_zero _)
    | succ t1 ih1 =>
      intro j hj1 hj2 H locs hR hS ls hl
      refine lv_iload_n hx hb dX2_forgetDeputies_2 rfl (lv_at hl 0 rfl) ?_
      refine lv_aload_n hx hb dX2_forgetDeputies_3 rfl (lv_at hl 1 rfl) ?_
      refine bd_g_X2_season C hR (by omega) qf_X2_12 dX2_forgetDeputies_4 ?_
      refine bd_g_X4_playerCount C hR (by omega) qf_X2_52 dX2_forgetDeputies_7 ?_
      rw [show (kx_fd xm w j) 30 w 0 = nI n from (show kx_Sh (kx_fd xm w j) w n nb z from (kx_fd_sh hs j)).1]
      refine lv_icmp_ge (tgt := 32) hx hb dX2_forgetDeputies_10 (by decide) (fun c10 => ?_) (fun c10 => ?_)
      · skip
        have nc10 : n ≤ j := (nI_leI (a := n) (b := j) (by omega) (by omega)).mp c10
        obtain rfl : n = j := by omega
        exact bd_rv C hr hlk (hR.eq rfl rfl) hS (Nat.zero_le _) (Nat.zero_le _) dX2_forgetDeputies_32
      · skip
        have nc10 : ¬ n ≤ j := fun q9 => c10 ((nI_leI (a := n) (b := j) (by omega) (by omega)).mpr q9)
        refine lv_aload_n hx hb dX2_forgetDeputies_13 rfl (lv_at hl 1 rfl) ?_
        refine bd_g_X2_season C hR (by omega) qf_X2_12 dX2_forgetDeputies_14 ?_
        refine bd_g_X4_players C hR (by omega) qf_X2_55 dX2_forgetDeputies_17 ?_
        refine lv_iload_n hx hb dX2_forgetDeputies_20 rfl (lv_at hl 0 rfl) ?_
        refine bd_ld_3 C hR (by omega) (j := j) (by omega) dX2_forgetDeputies_21 ?_
        refine lv_iconst (v := 0) hx hb dX2_forgetDeputies_22 (by decide) ?_
        refine bd_p_X3_deputyToday C hR hS (by omega) (by omega) qf_X2_88 dX2_forgetDeputies_23 (fun H locs hR hS => ?_)
        refine lv_iinc (v := nI (j + 1)) (lv' := [(1, .int (nI (j + 1))), (0, .ref (bd_ea E 2 w 0))]) hx hb dX2_forgetDeputies_26 hl (k := 0) rfl (nI_1 j) (by decide) rfl (fun ls hl => ?_)
        refine lv_goto (tgt := 2) hx hb dX2_forgetDeputies_29 (by decide) ?_
        exact ih1 (j + 1) (by omega) (by omega) _ _ (hR.eq (by first | (simp (config := { decide := true }) only [kx_fd, eq_false c10, eq_false nc10, ↓reduceIte, not_true_eq_false, not_false_eq_true, and_self, and_true, true_and, and_false, false_and]; done) | rfl) rfl) hS _ (lv_sub hl [0, 1] rfl)
  exact lp1 (n + 1) 0 (by omega) (by omega) _ _ (hR.eq rfl rfl) hS _ (by first | exact lv_sub hl [0, 1] rfl | (rw [show (nI 0 : Int32) = 0 from by first | rfl | decide | simp [nI_0]]; exact lv_sub hl [0, 1] rfl))
set_option maxHeartbeats 4000000 in
set_option maxRecDepth 100000 in
theorem k_X2_bandInTurn (l : Launch) (E : bd_E) (xm ym : bd_M) (om : Nat → Int64) (w : Nat) (n : Nat) (nb : Nat) (z : (Nat→Nat)) (t : Nat) (i : Nat) (hw : w < 2) (hs : kx_Sh xm w n nb z) (ht : xm 32 w 0 = nI t) (ht2 : t < 1073741824) (hnb : 0 < nb) (hi : i < nb) : bd_Ct l yX2_bandInTurn cX2_bandInTurn 3 (some .int) 0 0 0 0 E [.ref (bd_ea E 2 w 0), .int (nI i)] xm ym om xm ym om (some (.int (nI (kx_tu t nb i)))) := by
  refine bd_open RX2 rfl (by decide) (Nat.le_of_ble_eq_true rfl) ?_
  intro p e s m args below meth c ls C hr hlk hS hR hl
  have hx := C.1.1
  have hb := C.1.2.1
  have hs24 := hs.2.1
  have hs6 := hs.2.2.2.1
  have hmd := Nat.mod_lt t hnb
  have hl : lv_has ls 3 [(0, .ref (bd_ea E 2 w 0)), (1, .int (nI i))] := hl
  refine lv_aload_n hx hb dX2_bandInTurn_0 rfl (lv_at hl 0 rfl) ?_
  refine bd_g_X2_season C hR (by omega) qf_X2_12 dX2_bandInTurn_1 ?_
  refine bd_g_X4_bandCount C hR (by omega) qf_X2_21 dX2_bandInTurn_4 ?_
  rw [show xm 31 w 0 = nI nb from (show kx_Sh xm w n nb z from hs).2.2.1]
  refine lv_istore_n (lv' := [(2, .int (nI nb)), (0, .ref (bd_ea E 2 w 0)), (1, .int (nI i))]) hx hb dX2_bandInTurn_7 rfl hl (by decide) rfl (fun ls hl => ?_)
  refine lv_iload_n hx hb dX2_bandInTurn_8 rfl (lv_at hl 0 rfl) ?_
  refine lv_if_le (tgt := 28) hx hb dX2_bandInTurn_9 (by decide) (fun c9 => ?_) (fun c9 => ?_)
  · exact absurd c9 (nI_nle hnb (by omega))
  · skip
    have nc9 : ¬ nb ≤ 0 := fun q9 => c9 ((nI_leI (a := nb) (b := 0) (by omega) (by omega)).mpr q9)
    refine lv_aload_n hx hb dX2_bandInTurn_12 rfl (lv_at hl 1 rfl) ?_
    refine bd_g_X2_season C hR (by omega) qf_X2_12 dX2_bandInTurn_13 ?_
    refine bd_g_X4_contests C hR (by omega) qf_X2_70 dX2_bandInTurn_16 ?_
    rw [show xm 32 w 0 = nI t from ht]
    refine lv_iload_n hx hb dX2_bandInTurn_19 rfl (lv_at hl 0 rfl) ?_
    refine lv_irem hx hb dX2_bandInTurn_20 (nI_ne0 hnb (by omega)) ?_
    rw [pk_rem (by omega) (by omega) (by omega)]
    refine lv_iload_n hx hb dX2_bandInTurn_21 rfl (lv_at hl 2 rfl) ?_
    refine lv_iadd hx hb dX2_bandInTurn_22 ?_
    rw [nI_add]
    refine lv_iload_n hx hb dX2_bandInTurn_23 rfl (lv_at hl 0 rfl) ?_
    refine lv_irem hx hb dX2_bandInTurn_24 (nI_ne0 hnb (by omega)) ?_
    rw [pk_rem (by omega) (by omega) (by omega)]
    refine lv_goto (tgt := 29) hx hb dX2_bandInTurn_25 (by decide) ?_
    exact bd_ri C hr hlk (hR.eq rfl rfl) hS (Nat.zero_le _) (Nat.zero_le _) dX2_bandInTurn_29 (by first | (simp (config := { decide := true }) only [eq_false c9, eq_false nc9, ↓reduceIte, not_true_eq_false, not_false_eq_true, and_self, and_true, true_and, and_false, false_and]; done) | rfl)
set_option maxHeartbeats 4000000 in
set_option maxRecDepth 100000 in
theorem k_X2_seatMembers (l : Launch) (E : bd_E) (xm ym : bd_M) (om : Nat → Int64) (w : Nat) (n : Nat) (nb : Nat) (z : (Nat→Nat)) (b : Nat) (hw : w < 2) (hs : kx_Sh xm w n nb z) (hb6 : b < 6) : bd_Ct l yX2_seatMembers cX2_seatMembers 5 none 1 21 0 0 E [.ref (bd_ea E 2 w 0), .ref (bd_ea E 9 w b)] xm ym om (kx_sm xm w n b (z b)) ym om (none) := by
  refine bd_open RX2 rfl (by decide) (Nat.le_of_ble_eq_true rfl) ?_
  intro p e s m args below meth c ls C hr hlk hS hR hl
  have hx := C.1.1
  have hb := C.1.2.1
  have hs24 := hs.2.1
  have hs6 := hs.2.2.2.1
  have z8 := (hs.2.2.2.2 b (by omega)).2
  have hl : lv_has ls 5 [(0, .ref (bd_ea E 2 w 0)), (1, .ref (bd_ea E 9 w b))] := hl
  refine lv_iconst (v := 0) hx hb dX2_seatMembers_0 (by decide) ?_
  refine lv_istore_n (lv' := [(2, .int 0), (0, .ref (bd_ea E 2 w 0)), (1, .ref (bd_ea E 9 w b))]) hx hb dX2_seatMembers_1 rfl hl (by decide) rfl (fun ls hl => ?_)
  have lp1 : ∀ (t1 j : Nat), j ≤ z b → (z b) - j < t1 → ∀ (H : Heap) (locs : List Loc), bd_Rep E (kx_sm xm w n b j) ym om H → va_S (bd_A E) s.heap H locs → ∀ (ls : Array Slot), lv_has ls 5 [(2, .int (nI j)), (0, .ref (bd_ea E 2 w 0)), (1, .ref (bd_ea E 9 w b))] → W p l e { frames := 1, cells := 0, slots := 0, locals := 21 } s m args below meth c H locs 0 0 (MQ below (bd_Q E (kx_sm xm w n b (z b)) ym om (none)) args s 0 0 (bd_A E)) (F0 m 2 ls []) := by
    intro t1
    induction t1 with
    | zero => intro j h1 h2; exact absurd h2 (Nat.not_lt_zero _)
    | succ t1 ih1 =>
      intro j hj1 hj2 H locs hR hS ls hl
      refine lv_iload_n hx hb dX2_seatMembers_2 rfl (lv_at hl 0 rfl) ?_
      refine lv_aload_n hx hb dX2_seatMembers_3 rfl (lv_at hl 2 rfl) ?_
      refine bd_g_X0_size C hR (by omega) (by omega) qf_X2_81 dX2_seatMembers_4 ?_
      have z4 := ((show kx_Sh (kx_sm xm w n b j) w n nb z from (kx_sm_sh hs j)).2.2.2.2 b (by omega)).2
      rw [show (kx_sm xm w n b j) 20 w b = nI (z b) from ((show kx_Sh (kx_sm xm w n b j) w n nb z from (kx_sm_sh hs j)).2.2.2.2 b (by omega)).1]
      refine lv_icmp_ge (tgt := 68) hx hb dX2_seatMembers_7 (by decide) (fun c7 => ?_) (fun c7 => ?_)
      · skip
        have nc7 : (z b) ≤ j := (nI_leI (a := (z b)) (b := j) (by omega) (by omega)).mp c7
        obtain rfl : z b = j := by omega
        exact bd_rv C hr hlk (hR.eq rfl rfl) hS (Nat.zero_le _) (Nat.zero_le _) dX2_seatMembers_68
      · skip
        have nc7 : ¬ (z b) ≤ j := fun q9 => c7 ((nI_leI (a := (z b)) (b := j) (by omega) (by omega)).mpr q9)
        refine lv_aload_n hx hb dX2_seatMembers_10 rfl (lv_at hl 2 rfl) ?_
        refine bd_g_X0_chairs C hR (by omega) (by omega) qf_X2_132 dX2_seatMembers_11 ?_
        refine lv_iload_n hx hb dX2_seatMembers_14 rfl (lv_at hl 0 rfl) ?_
        refine bd_ld_10 C hR (by omega) (by omega) (j := j) (by omega) dX2_seatMembers_15 ?_
        refine lv_astore_n (lv' := [(3, .ref (bd_ea E 11 w (8 * b + j))), (2, .int (nI j)), (0, .ref (bd_ea E 2 w 0)), (1, .ref (bd_ea E 9 w b))]) hx hb dX2_seatMembers_16 rfl hl (by decide) rfl (fun ls hl => ?_)
        refine lv_aload_n hx hb dX2_seatMembers_17 rfl (lv_at hl 2 rfl) ?_
        refine bd_g_X2_season C hR (by omega) qf_X2_12 dX2_seatMembers_18 ?_
        refine lv_aload_n hx hb dX2_seatMembers_21 rfl (lv_at hl 0 rfl) ?_
        refine bd_g_X1_member C hR (by omega) (by omega) qf_X2_136 dX2_seatMembers_22 ?_
        refine bd_cV1 [.int ((kx_sm xm w n b j) 11 w (8 * b + j))] [] C (k_X4_playerAt l E (kx_sm xm w n b j) ym om w n nb z ((kx_sm xm w n b j) 11 w (8 * b + j)) (by omega) (kx_sm_sh hs j)) hR hS (bd_recv C.2 hR ⟨by decide, show w < 2 by omega, (by decide)⟩ rfl rfl) qm_X2_141 qi_X4_playerAt qs_X4_playerAt qz_X4 qc_X4_playerAt qp_X4_playerAt ⟨Nat.le_of_ble_eq_true rfl, Nat.le_of_ble_eq_true rfl⟩ hl.1 (Nat.le_of_ble_eq_true rfl) dX2_seatMembers_25 ⟨Nat.le_of_ble_eq_true rfl, Nat.le_of_ble_eq_true rfl⟩ (fun H locs hR hS hz25 => ?_)
        by_cases o25 : ¬ ((kx_sm xm w n b j) 11 w (8 * b + j)) < 0 ∧ ((kx_sm xm w n b j) 11 w (8 * b + j)) < nI n
        · rw [if_pos o25]
          have no25 := bd_tnl o25.1 o25.2 (by omega)
          refine lv_astore (lv' := [(4, .ref (bd_ea E 7 w (((kx_sm xm w n b j) 11 w (8 * b + j)).toNatClampNeg))), (3, .ref (bd_ea E 11 w (8 * b + j))), (2, .int (nI j)), (0, .ref (bd_ea E 2 w 0)), (1, .ref (bd_ea E 9 w b))]) hx hb dX2_seatMembers_28 hl (by decide) rfl (fun ls hl => ?_)
          refine lv_aload_n hx hb dX2_seatMembers_30 rfl (lv_at hl 1 rfl) ?_
          refine lv_iconst (v := (-1)) hx hb dX2_seatMembers_31 (by decide) ?_
          refine bd_p_X1_sitter C hR hS (by omega) (by omega) qf_X2_145 dX2_seatMembers_32 (fun H locs hR hS => ?_)
          refine lv_aload hx hb dX2_seatMembers_35 (lv_at hl 0 rfl) ?_
          refine lv_ifnull hx hb dX2_seatMembers_37 ?_
          refine lv_aload hx hb dX2_seatMembers_40 (lv_at hl 0 rfl) ?_
          refine bd_cV1 [] [] C (k_X3_isThere l E (bd_up (kx_sm xm w n b j) 12 w (8 * b + j) (-1)) ym om w (((kx_sm xm w n b j) 11 w (8 * b + j)).toNatClampNeg) (by omega) (by omega)) hR hS (bd_recv C.2 hR ⟨by decide, show w < 2 by omega, show ((kx_sm xm w n b j) 11 w (8 * b + j)).toNatClampNeg < 24 by omega⟩ rfl rfl) qm_X2_148 qi_X3_isThere qs_X3_isThere qz_X3 qc_X3_isThere qp_X3_isThere ⟨Nat.le_of_ble_eq_true rfl, Nat.le_of_ble_eq_true rfl⟩ hl.1 (Nat.le_of_ble_eq_true rfl) dX2_seatMembers_42 ⟨Nat.le_of_ble_eq_true rfl, Nat.le_of_ble_eq_true rfl⟩ (fun H locs hR hS hz42 => ?_)
          refine bd_ifeq (P := (bd_up (kx_sm xm w n b j) 12 w (8 * b + j) (-1)) 1 w (((kx_sm xm w n b j) 11 w (8 * b + j)).toNatClampNeg) = 0) (tgt := 62) C dX2_seatMembers_45 (by decide) (fun c45 => ?_) (fun c45 => ?_)
          · skip
            refine lv_iinc (v := nI (j + 1)) (lv' := [(2, .int (nI (j + 1))), (4, .ref (bd_ea E 7 w (((kx_sm xm w n b j) 11 w (8 * b + j)).toNatClampNeg))), (3, .ref (bd_ea E 11 w (8 * b + j))), (0, .ref (bd_ea E 2 w 0)), (1, .ref (bd_ea E 9 w b))]) hx hb dX2_seatMembers_62 hl (k := 2) rfl (nI_1 j) (by decide) rfl (fun ls hl => ?_)
            refine lv_goto (tgt := 2) hx hb dX2_seatMembers_65 (by decide) ?_
            exact ih1 (j + 1) (by omega) (by omega) _ _ (hR.eq (by first | (simp (config := { decide := true }) only [kx_sm, kx_sm1, eq_false c7, eq_false nc7, eq_true o25, eq_false c45, ↓reduceIte, not_true_eq_false, not_false_eq_true, and_self, and_true, true_and, and_false, false_and]; done) | rfl) rfl) hS _ (lv_sub hl [0, 3, 4] rfl)
          · skip
            refine lv_aload_n hx hb dX2_seatMembers_48 rfl (lv_at hl 1 rfl) ?_
            refine lv_aload_n hx hb dX2_seatMembers_49 rfl (lv_at hl 1 rfl) ?_
            refine bd_g_X1_member C hR (by omega) (by omega) qf_X2_136 dX2_seatMembers_50 ?_
            refine bd_p_X1_sitter C hR hS (by omega) (by omega) qf_X2_145 dX2_seatMembers_53 (fun H locs hR hS => ?_)
            refine lv_aload hx hb dX2_seatMembers_56 (lv_at hl 0 rfl) ?_
            refine lv_iconst (v := 1) hx hb dX2_seatMembers_58 (by decide) ?_
            refine bd_p_X3_sits C hR hS (by omega) (by omega) qf_X2_119 dX2_seatMembers_59 rfl rfl (fun H locs hR hS => ?_)
            refine lv_iinc (v := nI (j + 1)) (lv' := [(2, .int (nI (j + 1))), (4, .ref (bd_ea E 7 w (((kx_sm xm w n b j) 11 w (8 * b + j)).toNatClampNeg))), (3, .ref (bd_ea E 11 w (8 * b + j))), (0, .ref (bd_ea E 2 w 0)), (1, .ref (bd_ea E 9 w b))]) hx hb dX2_seatMembers_62 hl (k := 2) rfl (nI_1 j) (by decide) rfl (fun ls hl => ?_)
            refine lv_goto (tgt := 2) hx hb dX2_seatMembers_65 (by decide) ?_
            exact ih1 (j + 1) (by omega) (by omega) _ _ (hR.eq (by first | (simp (config := { decide := true }) only [kx_sm, kx_sm1, eq_false c7, eq_false nc7, eq_true o25, eq_true c45, ↓reduceIte, not_true_eq_false, not_false_eq_true, and_self, and_true, true_and, and_false, false_and]; done) | rfl) rfl) hS _ (lv_sub hl [0, 3, 4] rfl)
        · rw [if_neg o25]
          refine lv_astoreN (lv' := [(4, .null), (3, .ref (bd_ea E 11 w (8 * b + j))), (2, .int (nI j)), (0, .ref (bd_ea E 2 w 0)), (1, .ref (bd_ea E 9 w b))]) hx hb dX2_seatMembers_28 hl (by decide) rfl (fun ls hl => ?_)
          refine lv_aload_n hx hb dX2_seatMembers_30 rfl (lv_at hl 1 rfl) ?_
          refine lv_iconst (v := (-1)) hx hb dX2_seatMembers_31 (by decide) ?_
          refine bd_p_X1_sitter C hR hS (by omega) (by omega) qf_X2_145 dX2_seatMembers_32 (fun H locs hR hS => ?_)
          refine lv_aloadN hx hb dX2_seatMembers_35 (lv_at hl 0 rfl) ?_
          refine lv_ifnullN (tgt := 62) hx hb dX2_seatMembers_37 (by decide) ?_
          refine lv_iinc (v := nI (j + 1)) (lv' := [(2, .int (nI (j + 1))), (4, .null), (3, .ref (bd_ea E 11 w (8 * b + j))), (0, .ref (bd_ea E 2 w 0)), (1, .ref (bd_ea E 9 w b))]) hx hb dX2_seatMembers_62 hl (k := 2) rfl (nI_1 j) (by decide) rfl (fun ls hl => ?_)
          refine lv_goto (tgt := 2) hx hb dX2_seatMembers_65 (by decide) ?_
          exact ih1 (j + 1) (by omega) (by omega) _ _ (hR.eq (by first | (simp (config := { decide := true }) only [kx_sm, kx_sm1, eq_false c7, eq_false nc7, eq_false o25, ↓reduceIte, not_true_eq_false, not_false_eq_true, and_self, and_true, true_and, and_false, false_and]; done) | rfl) rfl) hS _ (lv_sub hl [0, 3, 4] rfl)
  exact lp1 ((z b) + 1) 0 (by omega) (by omega) _ _ (hR.eq rfl rfl) hS _ (by first | exact lv_sub hl [0, 1, 2] rfl | (rw [show (nI 0 : Int32) = 0 from by first | rfl | decide | simp [nI_0]]; exact lv_sub hl [0, 1, 2] rfl))
set_option maxHeartbeats 4000000 in
set_option maxRecDepth 100000 in
theorem k_X2_deputyFor (l : Launch) (E : bd_E) (xm ym : bd_M) (om : Nat → Int64) (w : Nat) (n : Nat) (nb : Nat) (z : (Nat→Nat)) (k : Nat) (hw : w < 2) (hs : kx_Sh xm w n nb z) (hk : k < 48) : bd_Ct l yX2_deputyFor cX2_deputyFor 12 (some .int) 1 21 0 0 E [.ref (bd_ea E 2 w 0), .ref (bd_ea E 11 w k)] xm ym om xm ym om (some (.int (kx_who xm w n k))) := by
  refine bd_open RX2 rfl (by decide) (Nat.le_of_ble_eq_true rfl) ?_
  intro p e s m args below meth c ls C hr hlk hS hR hl
  have hx := C.1.1
  have hb := C.1.2.1
  have hs24 := hs.2.1
  have hs6 := hs.2.2.2.1
  have hl : lv_has ls 12 [(0, .ref (bd_ea E 2 w 0)), (1, .ref (bd_ea E 11 w k))] := hl
  refine lv_aload_n hx hb dX2_deputyFor_0 rfl (lv_at hl 0 rfl) ?_
  refine bd_g_X2_season C hR (by omega) qf_X2_12 dX2_deputyFor_1 ?_
  refine lv_aload_n hx hb dX2_deputyFor_4 rfl (lv_at hl 1 rfl) ?_
  refine bd_g_X1_member C hR (by omega) (by omega) qf_X2_136 dX2_deputyFor_5 ?_
  refine bd_cV1 [.int (xm 11 w k)] [] C (k_X4_playerAt l E xm ym om w n nb z (xm 11 w k) (by omega) hs) hR hS (bd_recv C.2 hR ⟨by decide, show w < 2 by omega, (by decide)⟩ rfl rfl) qm_X2_141 qi_X4_playerAt qs_X4_playerAt qz_X4 qc_X4_playerAt qp_X4_playerAt ⟨Nat.le_of_ble_eq_true rfl, Nat.le_of_ble_eq_true rfl⟩ hl.1 (Nat.le_of_ble_eq_true rfl) dX2_deputyFor_8 ⟨Nat.le_of_ble_eq_true rfl, Nat.le_of_ble_eq_true rfl⟩ (fun H locs hR hS hz8 => ?_)
  by_cases o8 : ¬ (xm 11 w k) < 0 ∧ (xm 11 w k) < nI n
  · rw [if_pos o8]
    have no8 := bd_tnl o8.1 o8.2 (by omega)
    refine lv_astore_n (lv' := [(2, .ref (bd_ea E 7 w ((xm 11 w k).toNatClampNeg))), (0, .ref (bd_ea E 2 w 0)), (1, .ref (bd_ea E 11 w k))]) hx hb dX2_deputyFor_11 rfl hl (by decide) rfl (fun ls hl => ?_)
    refine lv_aload_n hx hb dX2_deputyFor_12 rfl (lv_at hl 0 rfl) ?_
    refine lv_ifnonnull (tgt := 20) hx hb dX2_deputyFor_13 (by decide) ?_
    refine lv_aload_n hx hb dX2_deputyFor_20 rfl (lv_at hl 0 rfl) ?_
    refine lv_aload_n hx hb dX2_deputyFor_21 rfl (lv_at hl 2 rfl) ?_
    refine bd_g_X1_instrument C hR (by omega) (by omega) qf_X2_159 dX2_deputyFor_22 ?_
    refine bd_cV1 [.int (xm 10 w k)] [] C (k_X3_skillFor l E xm ym om w ((xm 11 w k).toNatClampNeg) (xm 10 w k) (by omega) (by omega)) hR hS (bd_recv C.2 hR ⟨by decide, show w < 2 by omega, show (xm 11 w k).toNatClampNeg < 24 by omega⟩ rfl rfl) qm_X2_162 qi_X3_skillFor qs_X3_skillFor qz_X3 qc_X3_skillFor qp_X3_skillFor ⟨Nat.le_of_ble_eq_true rfl, Nat.le_of_ble_eq_true rfl⟩ hl.1 (Nat.le_of_ble_eq_true rfl) dX2_deputyFor_25 ⟨Nat.le_of_ble_eq_true rfl, Nat.le_of_ble_eq_true rfl⟩ (fun H locs hR hS hz25 => ?_)
    refine lv_iconst (v := 1) hx hb dX2_deputyFor_28 (by decide) ?_
    refine lv_iadd hx hb dX2_deputyFor_29 ?_
    rw [show ((kx_skill xm w ((xm 11 w k).toNatClampNeg) (xm 10 w k)) + 1 : Int32) = kx_lim xm w n k by rw [kx_lim, if_pos o8]]
    refine lv_istore_n (lv' := [(3, .int (kx_lim xm w n k)), (2, .ref (bd_ea E 7 w ((xm 11 w k).toNatClampNeg))), (0, .ref (bd_ea E 2 w 0)), (1, .ref (bd_ea E 11 w k))]) hx hb dX2_deputyFor_30 rfl hl (by decide) rfl (fun ls hl => ?_)
    refine lv_iconst (v := (-1)) hx hb dX2_deputyFor_31 (by decide) ?_
    refine lv_istore (lv' := [(4, .int (-1)), (3, .int (kx_lim xm w n k)), (2, .ref (bd_ea E 7 w ((xm 11 w k).toNatClampNeg))), (0, .ref (bd_ea E 2 w 0)), (1, .ref (bd_ea E 11 w k))]) hx hb dX2_deputyFor_32 hl (by decide) rfl (fun ls hl => ?_)
    refine lv_iconst (v := (-1)) hx hb dX2_deputyFor_34 (by decide) ?_
    refine lv_istore (lv' := [(5, .int (-1)), (4, .int (-1)), (3, .int (kx_lim xm w n k)), (2, .ref (bd_ea E 7 w ((xm 11 w k).toNatClampNeg))), (0, .ref (bd_ea E 2 w 0)), (1, .ref (bd_ea E 11 w k))]) hx hb dX2_deputyFor_35 hl (by decide) rfl (fun ls hl => ?_)
    refine lv_iconst (v := 0) hx hb dX2_deputyFor_37 (by decide) ?_
    refine lv_istore (lv' := [(6, .int 0), (5, .int (-1)), (4, .int (-1)), (3, .int (kx_lim xm w n k)), (2, .ref (bd_ea E 7 w ((xm 11 w k).toNatClampNeg))), (0, .ref (bd_ea E 2 w 0)), (1, .ref (bd_ea E 11 w k))]) hx hb dX2_deputyFor_38 hl (by decide) rfl (fun ls hl => ?_)
    refine lv_iconst (v := 0) hx hb dX2_deputyFor_40 (by decide) ?_
    refine lv_istore (lv' := [(7, .int 0), (6, .int 0), (5, .int (-1)), (4, .int (-1)), (3, .int (kx_lim xm w n k)), (2, .ref (bd_ea E 7 w ((xm 11 w k).toNatClampNeg))), (0, .ref (bd_ea E 2 w 0)), (1, .ref (bd_ea E 11 w k))]) hx hb dX2_deputyFor_41 hl (by decide) rfl (fun ls hl => ?_)
    have lp1 : ∀ (t1 j : Nat), j ≤ n → n - j < t1 → ∀ (H : Heap) (locs : List Loc), bd_Rep E xm ym om H → va_S (bd_A E) s.heap H locs → ∀ (ls : Array Slot), lv_has ls 12 [(7, .int (nI j)), (6, .int ((kx_df xm w k (kx_lim xm w n k) j).2.2)), (5, .int ((kx_df xm w k (kx_lim xm w n k) j).2.1)), (4, .int ((kx_df xm w k (kx_lim xm w n k) j).1)), (3, .int (kx_lim xm w n k)), (0, .ref (bd_ea E 2 w 0)), (1, .ref (bd_ea E 11 w k))] → W p l e { frames := 1, cells := 0, slots := 0, locals := 21 } s m args below meth c H locs 0 0 (MQ below (bd_Q E xm ym om (some (.int (kx_who xm w n k)))) args s 0 0 (bd_A E)) (F0 m 43 ls []) := by
      intro t1
      induction t1 with
      | zero => intro j h1 h2; exact absurd h2 (Nat.not_lt_zero _)
      | succ t1 ih1 =>
        intro j hj1 hj2 H locs hR hS ls hl
        refine lv_iload hx hb dX2_deputyFor_43 (lv_at hl 0 rfl) ?_
        refine lv_aload_n hx hb dX2_deputyFor_45 rfl (lv_at hl 5 rfl) ?_
        refine bd_g_X2_season C hR (by omega) qf_X2_12 dX2_deputyFor_46 ?_
        refine bd_g_X4_playerCount C hR (by omega) qf_X2_52 dX2_deputyFor_49 ?_
        rw [show xm 30 w 0 = nI n from (show kx_Sh xm w n nb z from hs).1]
        refine lv_icmp_ge (tgt := 161) hx hb dX2_deputyFor_52 (by decide) (fun c52 => ?_) (fun c52 => ?_)
        · skip
          have nc52 : n ≤ j := (nI_leI (a := n) (b := j) (by omega) (by omega)).mp c52
          obtain rfl : n = j := by omega
          refine lv_iload hx hb dX2_deputyFor_161 (lv_at hl 3 rfl) ?_
          exact bd_ri C hr hlk (hR.eq rfl rfl) hS (Nat.zero_le _) (Nat.zero_le _) dX2_deputyFor_163 (by first | rfl | (rfl))
        · skip
          have nc52 : ¬ n ≤ j := fun q9 => c52 ((nI_leI (a := n) (b := j) (by omega) (by omega)).mpr q9)
          refine lv_aload_n hx hb dX2_deputyFor_55 rfl (lv_at hl 5 rfl) ?_
          refine bd_g_X2_season C hR (by omega) qf_X2_12 dX2_deputyFor_56 ?_
          refine bd_g_X4_players C hR (by omega) qf_X2_55 dX2_deputyFor_59 ?_
          refine lv_iload hx hb dX2_deputyFor_62 (lv_at hl 0 rfl) ?_
          refine bd_ld_3 C hR (by omega) (j := j) (by omega) dX2_deputyFor_64 ?_
          refine lv_astore (lv' := [(8, .ref (bd_ea E 7 w j)), (7, .int (nI j)), (6, .int ((kx_df xm w k (kx_lim xm w n k) j).2.2)), (5, .int ((kx_df xm w k (kx_lim xm w n k) j).2.1)), (4, .int ((kx_df xm w k (kx_lim xm w n k) j).1)), (3, .int (kx_lim xm w n k)), (0, .ref (bd_ea E 2 w 0)), (1, .ref (bd_ea E 11 w k))]) hx hb dX2_deputyFor_65 hl (by decide) rfl (fun ls hl => ?_)
          refine lv_aload hx hb dX2_deputyFor_67 (lv_at hl 0 rfl) ?_
          refine lv_aload_n hx hb dX2_deputyFor_69 rfl (lv_at hl 7 rfl) ?_
          refine bd_g_X1_instrument C hR (by omega) (by omega) qf_X2_159 dX2_deputyFor_70 ?_
          refine bd_cV1 [.int (xm 10 w k)] [] C (k_X3_skillFor l E xm ym om w j (xm 10 w k) (by omega) (by omega)) hR hS (bd_recv C.2 hR ⟨by decide, show w < 2 by omega, show j < 24 by omega⟩ rfl rfl) qm_X2_162 qi_X3_skillFor qs_X3_skillFor qz_X3 qc_X3_skillFor qp_X3_skillFor ⟨Nat.le_of_ble_eq_true rfl, Nat.le_of_ble_eq_true rfl⟩ hl.1 (Nat.le_of_ble_eq_true rfl) dX2_deputyFor_73 ⟨Nat.le_of_ble_eq_true rfl, Nat.le_of_ble_eq_true rfl⟩ (fun H locs hR hS hz73 => ?_)
          refine lv_istore (lv' := [(9, .int (kx_skill xm w j (xm 10 w k))), (8, .ref (bd_ea E 7 w j)), (7, .int (nI j)), (6, .int ((kx_df xm w k (kx_lim xm w n k) j).2.2)), (5, .int ((kx_df xm w k (kx_lim xm w n k) j).2.1)), (4, .int ((kx_df xm w k (kx_lim xm w n k) j).1)), (3, .int (kx_lim xm w n k)), (0, .ref (bd_ea E 2 w 0)), (1, .ref (bd_ea E 11 w k))]) hx hb dX2_deputyFor_76 hl (by decide) rfl (fun ls hl => ?_)
          refine lv_aload hx hb dX2_deputyFor_78 (lv_at hl 1 rfl) ?_
          refine bd_cV1 [] [] C (k_X3_mayBeDeputy l E xm ym om w j (by omega) (by omega)) hR hS (bd_recv C.2 hR ⟨by decide, show w < 2 by omega, show j < 24 by omega⟩ rfl rfl) qm_X2_165 qi_X3_mayBeDeputy qs_X3_mayBeDeputy qz_X3 qc_X3_mayBeDeputy qp_X3_mayBeDeputy ⟨Nat.le_of_ble_eq_true rfl, Nat.le_of_ble_eq_true rfl⟩ hl.1 (Nat.le_of_ble_eq_true rfl) dX2_deputyFor_80 ⟨Nat.le_of_ble_eq_true rfl, Nat.le_of_ble_eq_true rfl⟩ (fun H locs hR hS hz80 => ?_)
          refine bd_ifeq (P := kx_may xm w j) (tgt := 96) C dX2_deputyFor_83 (by decide) (fun c83 => ?_) (fun c83 => ?_)
          · skip
            refine lv_iconst (v := 0) hx hb dX2_deputyFor_96 (by decide) ?_
            refine lv_istore (lv' := [(10, .int 0), (9, .int (kx_skill xm w j (xm 10 w k))), (8, .ref (bd_ea E 7 w j)), (7, .int (nI j)), (6, .int ((kx_df xm w k (kx_lim xm w n k) j).2.2)), (5, .int ((kx_df xm w k (kx_lim xm w n k) j).2.1)), (4, .int ((kx_df xm w k (kx_lim xm w n k) j).1)), (3, .int (kx_lim xm w n k)), (0, .ref (bd_ea E 2 w 0)), (1, .ref (bd_ea E 11 w k))]) hx hb dX2_deputyFor_97 hl (by decide) rfl (fun ls hl => ?_)
            refine lv_iload hx hb dX2_deputyFor_99 (lv_at hl 1 rfl) ?_
            refine lv_iload hx hb dX2_deputyFor_101 (lv_at hl 5 rfl) ?_
            refine lv_icmp_gt (tgt := 123) hx hb dX2_deputyFor_103 (by decide) (fun c103 => ?_) (fun c103 => ?_)
            · skip
              refine lv_iconst (v := 1) hx hb dX2_deputyFor_123 (by decide) ?_
              refine lv_goto (tgt := 128) hx hb dX2_deputyFor_124 (by decide) ?_
              refine lv_istore (lv' := [(11, .int 1), (10, .int 0), (9, .int (kx_skill xm w j (xm 10 w k))), (8, .ref (bd_ea E 7 w j)), (7, .int (nI j)), (6, .int ((kx_df xm w k (kx_lim xm w n k) j).2.2)), (5, .int ((kx_df xm w k (kx_lim xm w n k) j).2.1)), (4, .int ((kx_df xm w k (kx_lim xm w n k) j).1)), (3, .int (kx_lim xm w n k)), (0, .ref (bd_ea E 2 w 0)), (1, .ref (bd_ea E 11 w k))]) hx hb dX2_deputyFor_128 hl (by decide) rfl (fun ls hl => ?_)
              refine lv_iload hx hb dX2_deputyFor_130 (lv_at hl 1 rfl) ?_
              refine lv_if_eq (tgt := 155) hx hb dX2_deputyFor_132 (by decide) (fun _ => ?_) (fun q9 => absurd rfl q9)
              refine lv_iinc (v := nI (j + 1)) (lv' := [(7, .int (nI (j + 1))), (11, .int 1), (10, .int 0), (9, .int (kx_skill xm w j (xm 10 w k))), (8, .ref (bd_ea E 7 w j)), (6, .int ((kx_df xm w k (kx_lim xm w n k) j).2.2)), (5, .int ((kx_df xm w k (kx_lim xm w n k) j).2.1)), (4, .int ((kx_df xm w k (kx_lim xm w n k) j).1)), (3, .int (kx_lim xm w n k)), (0, .ref (bd_ea E 2 w 0)), (1, .ref (bd_ea E 11 w k))]) hx hb dX2_deputyFor_155 hl (k := 4) rfl (nI_1 j) (by decide) rfl (fun ls hl => ?_)
              refine lv_goto (tgt := 43) hx hb dX2_deputyFor_158 (by decide) ?_
              exact ih1 (j + 1) (by omega) (by omega) _ _ (hR.eq rfl rfl) hS _ (by rw [show ((kx_df xm w k (kx_lim xm w n k) (j + 1)).2.2 : Int32) = (kx_df xm w k (kx_lim xm w n k) j).2.2 from (by first | (simp (config := { decide := true }) only [kx_df, eq_true o8, eq_false c52, eq_false nc52, eq_false c83, eq_true c103, ↓reduceIte, not_true_eq_false, not_false_eq_true, and_self, and_true, true_and, and_false, false_and]; done) | rfl)]; rw [show ((kx_df xm w k (kx_lim xm w n k) (j + 1)).2.1 : Int32) = (kx_df xm w k (kx_lim xm w n k) j).2.1 from (by first | (simp (config := { decide := true }) only [kx_df, eq_true o8, eq_false c52, eq_false nc52, eq_false c83, eq_true c103, ↓reduceIte, not_true_eq_false, not_false_eq_true, and_self, and_true, true_and, and_false, false_and]; done) | rfl)]; rw [show ((kx_df xm w k (kx_lim xm w n k) (j + 1)).1 : Int32) = (kx_df xm w k (kx_lim xm w n k) j).1 from (by first | (simp (config := { decide := true }) only [kx_df, eq_true o8, eq_false c52, eq_false nc52, eq_false c83, eq_true c103, ↓reduceIte, not_true_eq_false, not_false_eq_true, and_self, and_true, true_and, and_false, false_and]; done) | rfl)]; exact lv_sub hl [0, 5, 6, 7, 8, 9, 10] rfl)
            · skip
              refine lv_iload hx hb dX2_deputyFor_106 (lv_at hl 1 rfl) ?_
              refine lv_iload hx hb dX2_deputyFor_108 (lv_at hl 5 rfl) ?_
              refine lv_icmp_ne (tgt := 127) hx hb dX2_deputyFor_110 (by decide) (fun c110 => ?_) (fun c110 => ?_)
              · skip
                refine lv_iconst (v := 0) hx hb dX2_deputyFor_127 (by decide) ?_
                refine lv_istore (lv' := [(11, .int 0), (10, .int 0), (9, .int (kx_skill xm w j (xm 10 w k))), (8, .ref (bd_ea E 7 w j)), (7, .int (nI j)), (6, .int ((kx_df xm w k (kx_lim xm w n k) j).2.2)), (5, .int ((kx_df xm w k (kx_lim xm w n k) j).2.1)), (4, .int ((kx_df xm w k (kx_lim xm w n k) j).1)), (3, .int (kx_lim xm w n k)), (0, .ref (bd_ea E 2 w 0)), (1, .ref (bd_ea E 11 w k))]) hx hb dX2_deputyFor_128 hl (by decide) rfl (fun ls hl => ?_)
                refine lv_iload hx hb dX2_deputyFor_130 (lv_at hl 1 rfl) ?_
                refine lv_if_eq (tgt := 155) hx hb dX2_deputyFor_132 (by decide) (fun _ => ?_) (fun q9 => absurd rfl q9)
                refine lv_iinc (v := nI (j + 1)) (lv' := [(7, .int (nI (j + 1))), (11, .int 0), (10, .int 0), (9, .int (kx_skill xm w j (xm 10 w k))), (8, .ref (bd_ea E 7 w j)), (6, .int ((kx_df xm w k (kx_lim xm w n k) j).2.2)), (5, .int ((kx_df xm w k (kx_lim xm w n k) j).2.1)), (4, .int ((kx_df xm w k (kx_lim xm w n k) j).1)), (3, .int (kx_lim xm w n k)), (0, .ref (bd_ea E 2 w 0)), (1, .ref (bd_ea E 11 w k))]) hx hb dX2_deputyFor_155 hl (k := 4) rfl (nI_1 j) (by decide) rfl (fun ls hl => ?_)
                refine lv_goto (tgt := 43) hx hb dX2_deputyFor_158 (by decide) ?_
                exact ih1 (j + 1) (by omega) (by omega) _ _ (hR.eq rfl rfl) hS _ (by rw [show ((kx_df xm w k (kx_lim xm w n k) (j + 1)).2.2 : Int32) = (kx_df xm w k (kx_lim xm w n k) j).2.2 from (by first | (simp (config := { decide := true }) only [kx_df, eq_true o8, eq_false c52, eq_false nc52, eq_false c83, eq_false c103, eq_false c110, ↓reduceIte, not_true_eq_false, not_false_eq_true, and_self, and_true, true_and, and_false, false_and]; done) | rfl)]; rw [show ((kx_df xm w k (kx_lim xm w n k) (j + 1)).2.1 : Int32) = (kx_df xm w k (kx_lim xm w n k) j).2.1 from (by first | (simp (config := { decide := true }) only [kx_df, eq_true o8, eq_false c52, eq_false nc52, eq_false c83, eq_false c103, eq_false c110, ↓reduceIte, not_true_eq_false, not_false_eq_true, and_self, and_true, true_and, and_false, false_and]; done) | rfl)]; rw [show ((kx_df xm w k (kx_lim xm w n k) (j + 1)).1 : Int32) = (kx_df xm w k (kx_lim xm w n k) j).1 from (by first | (simp (config := { decide := true }) only [kx_df, eq_true o8, eq_false c52, eq_false nc52, eq_false c83, eq_false c103, eq_false c110, ↓reduceIte, not_true_eq_false, not_false_eq_true, and_self, and_true, true_and, and_false, false_and]; done) | rfl)]; exact lv_sub hl [0, 5, 6, 7, 8, 9, 10] rfl)
              · skip
                refine lv_aload hx hb dX2_deputyFor_113 (lv_at hl 2 rfl) ?_
                refine bd_g_X3_tired C hR (by omega) (by omega) qf_X2_168 dX2_deputyFor_115 ?_
                refine lv_iload hx hb dX2_deputyFor_118 (lv_at hl 4 rfl) ?_
                refine lv_icmp_ge (tgt := 127) hx hb dX2_deputyFor_120 (by decide) (fun c120 => ?_) (fun c120 => ?_)
                · skip
                  refine lv_iconst (v := 0) hx hb dX2_deputyFor_127 (by decide) ?_
                  refine lv_istore (lv' := [(11, .int 0), (10, .int 0), (9, .int (kx_skill xm w j (xm 10 w k))), (8, .ref (bd_ea E 7 w j)), (7, .int (nI j)), (6, .int ((kx_df xm w k (kx_lim xm w n k) j).2.2)), (5, .int ((kx_df xm w k (kx_lim xm w n k) j).2.1)), (4, .int ((kx_df xm w k (kx_lim xm w n k) j).1)), (3, .int (kx_lim xm w n k)), (0, .ref (bd_ea E 2 w 0)), (1, .ref (bd_ea E 11 w k))]) hx hb dX2_deputyFor_128 hl (by decide) rfl (fun ls hl => ?_)
                  refine lv_iload hx hb dX2_deputyFor_130 (lv_at hl 1 rfl) ?_
                  refine lv_if_eq (tgt := 155) hx hb dX2_deputyFor_132 (by decide) (fun _ => ?_) (fun q9 => absurd rfl q9)
                  refine lv_iinc (v := nI (j + 1)) (lv' := [(7, .int (nI (j + 1))), (11, .int 0), (10, .int 0), (9, .int (kx_skill xm w j (xm 10 w k))), (8, .ref (bd_ea E 7 w j)), (6, .int ((kx_df xm w k (kx_lim xm w n k) j).2.2)), (5, .int ((kx_df xm w k (kx_lim xm w n k) j).2.1)), (4, .int ((kx_df xm w k (kx_lim xm w n k) j).1)), (3, .int (kx_lim xm w n k)), (0, .ref (bd_ea E 2 w 0)), (1, .ref (bd_ea E 11 w k))]) hx hb dX2_deputyFor_155 hl (k := 4) rfl (nI_1 j) (by decide) rfl (fun ls hl => ?_)
                  refine lv_goto (tgt := 43) hx hb dX2_deputyFor_158 (by decide) ?_
                  exact ih1 (j + 1) (by omega) (by omega) _ _ (hR.eq rfl rfl) hS _ (by rw [show ((kx_df xm w k (kx_lim xm w n k) (j + 1)).2.2 : Int32) = (kx_df xm w k (kx_lim xm w n k) j).2.2 from (by first | (simp (config := { decide := true }) only [kx_df, eq_true o8, eq_false c52, eq_false nc52, eq_false c83, eq_false c103, eq_true c110, eq_true c120, ↓reduceIte, not_true_eq_false, not_false_eq_true, and_self, and_true, true_and, and_false, false_and]; done) | rfl)]; rw [show ((kx_df xm w k (kx_lim xm w n k) (j + 1)).2.1 : Int32) = (kx_df xm w k (kx_lim xm w n k) j).2.1 from (by first | (simp (config := { decide := true }) only [kx_df, eq_true o8, eq_false c52, eq_false nc52, eq_false c83, eq_false c103, eq_true c110, eq_true c120, ↓reduceIte, not_true_eq_false, not_false_eq_true, and_self, and_true, true_and, and_false, false_and]; done) | rfl)]; rw [show ((kx_df xm w k (kx_lim xm w n k) (j + 1)).1 : Int32) = (kx_df xm w k (kx_lim xm w n k) j).1 from (by first | (simp (config := { decide := true }) only [kx_df, eq_true o8, eq_false c52, eq_false nc52, eq_false c83, eq_false c103, eq_true c110, eq_true c120, ↓reduceIte, not_true_eq_false, not_false_eq_true, and_self, and_true, true_and, and_false, false_and]; done) | rfl)]; exact lv_sub hl [0, 5, 6, 7, 8, 9, 10] rfl)
                · skip
                  refine lv_iconst (v := 1) hx hb dX2_deputyFor_123 (by decide) ?_
                  refine lv_goto (tgt := 128) hx hb dX2_deputyFor_124 (by decide) ?_
                  refine lv_istore (lv' := [(11, .int 1), (10, .int 0), (9, .int (kx_skill xm w j (xm 10 w k))), (8, .ref (bd_ea E 7 w j)), (7, .int (nI j)), (6, .int ((kx_df xm w k (kx_lim xm w n k) j).2.2)), (5, .int ((kx_df xm w k (kx_lim xm w n k) j).2.1)), (4, .int ((kx_df xm w k (kx_lim xm w n k) j).1)), (3, .int (kx_lim xm w n k)), (0, .ref (bd_ea E 2 w 0)), (1, .ref (bd_ea E 11 w k))]) hx hb dX2_deputyFor_128 hl (by decide) rfl (fun ls hl => ?_)
                  refine lv_iload hx hb dX2_deputyFor_130 (lv_at hl 1 rfl) ?_
                  refine lv_if_eq (tgt := 155) hx hb dX2_deputyFor_132 (by decide) (fun _ => ?_) (fun q9 => absurd rfl q9)
                  refine lv_iinc (v := nI (j + 1)) (lv' := [(7, .int (nI (j + 1))), (11, .int 1), (10, .int 0), (9, .int (kx_skill xm w j (xm 10 w k))), (8, .ref (bd_ea E 7 w j)), (6, .int ((kx_df xm w k (kx_lim xm w n k) j).2.2)), (5, .int ((kx_df xm w k (kx_lim xm w n k) j).2.1)), (4, .int ((kx_df xm w k (kx_lim xm w n k) j).1)), (3, .int (kx_lim xm w n k)), (0, .ref (bd_ea E 2 w 0)), (1, .ref (bd_ea E 11 w k))]) hx hb dX2_deputyFor_155 hl (k := 4) rfl (nI_1 j) (by decide) rfl (fun ls hl => ?_)
                  refine lv_goto (tgt := 43) hx hb dX2_deputyFor_158 (by decide) ?_
                  exact ih1 (j + 1) (by omega) (by omega) _ _ (hR.eq rfl rfl) hS _ (by rw [show ((kx_df xm w k (kx_lim xm w n k) (j + 1)).2.2 : Int32) = (kx_df xm w k (kx_lim xm w n k) j).2.2 from (by first | (simp (config := { decide := true }) only [kx_df, eq_true o8, eq_false c52, eq_false nc52, eq_false c83, eq_false c103, eq_true c110, eq_false c120, ↓reduceIte, not_true_eq_false, not_false_eq_true, and_self, and_true, true_and, and_false, false_and]; done) | rfl)]; rw [show ((kx_df xm w k (kx_lim xm w n k) (j + 1)).2.1 : Int32) = (kx_df xm w k (kx_lim xm w n k) j).2.1 from (by first | (simp (config := { decide := true }) only [kx_df, eq_true o8, eq_false c52, eq_false nc52, eq_false c83, eq_false c103, eq_true c110, eq_false c120, ↓reduceIte, not_true_eq_false, not_false_eq_true, and_self, and_true, true_and, and_false, false_and]; done) | rfl)]; rw [show ((kx_df xm w k (kx_lim xm w n k) (j + 1)).1 : Int32) = (kx_df xm w k (kx_lim xm w n k) j).1 from (by first | (simp (config := { decide := true }) only [kx_df, eq_true o8, eq_false c52, eq_false nc52, eq_false c83, eq_false c103, eq_true c110, eq_false c120, ↓reduceIte, not_true_eq_false, not_false_eq_true, and_self, and_true, true_and, and_false, false_and]; done) | rfl)]; exact lv_sub hl [0, 5, 6, 7, 8, 9, 10] rfl)
          · skip
            refine lv_iload hx hb dX2_deputyFor_86 (lv_at hl 0 rfl) ?_
            refine lv_iload_n hx hb dX2_deputyFor_88 rfl (lv_at hl 6 rfl) ?_
            refine lv_icmp_gt (tgt := 96) hx hb dX2_deputyFor_89 (by decide) (fun c89 => ?_) (fun c89 => ?_)
            · skip
              refine lv_iconst (v := 0) hx hb dX2_deputyFor_96 (by decide) ?_
              refine lv_istore (lv' := [(10, .int 0), (9, .int (kx_skill xm w j (xm 10 w k))), (8, .ref (bd_ea E 7 w j)), (7, .int (nI j)), (6, .int ((kx_df xm w k (kx_lim xm w n k) j).2.2)), (5, .int ((kx_df xm w k (kx_lim xm w n k) j).2.1)), (4, .int ((kx_df xm w k (kx_lim xm w n k) j).1)), (3, .int (kx_lim xm w n k)), (0, .ref (bd_ea E 2 w 0)), (1, .ref (bd_ea E 11 w k))]) hx hb dX2_deputyFor_97 hl (by decide) rfl (fun ls hl => ?_)
              refine lv_iload hx hb dX2_deputyFor_99 (lv_at hl 1 rfl) ?_
              refine lv_iload hx hb dX2_deputyFor_101 (lv_at hl 5 rfl) ?_
              refine lv_icmp_gt (tgt := 123) hx hb dX2_deputyFor_103 (by decide) (fun c103 => ?_) (fun c103 => ?_)
              · skip
                refine lv_iconst (v := 1) hx hb dX2_deputyFor_123 (by decide) ?_
                refine lv_goto (tgt := 128) hx hb dX2_deputyFor_124 (by decide) ?_
                refine lv_istore (lv' := [(11, .int 1), (10, .int 0), (9, .int (kx_skill xm w j (xm 10 w k))), (8, .ref (bd_ea E 7 w j)), (7, .int (nI j)), (6, .int ((kx_df xm w k (kx_lim xm w n k) j).2.2)), (5, .int ((kx_df xm w k (kx_lim xm w n k) j).2.1)), (4, .int ((kx_df xm w k (kx_lim xm w n k) j).1)), (3, .int (kx_lim xm w n k)), (0, .ref (bd_ea E 2 w 0)), (1, .ref (bd_ea E 11 w k))]) hx hb dX2_deputyFor_128 hl (by decide) rfl (fun ls hl => ?_)
                refine lv_iload hx hb dX2_deputyFor_130 (lv_at hl 1 rfl) ?_
                refine lv_if_eq (tgt := 155) hx hb dX2_deputyFor_132 (by decide) (fun _ => ?_) (fun q9 => absurd rfl q9)
                refine lv_iinc (v := nI (j + 1)) (lv' := [(7, .int (nI (j + 1))), (11, .int 1), (10, .int 0), (9, .int (kx_skill xm w j (xm 10 w k))), (8, .ref (bd_ea E 7 w j)), (6, .int ((kx_df xm w k (kx_lim xm w n k) j).2.2)), (5, .int ((kx_df xm w k (kx_lim xm w n k) j).2.1)), (4, .int ((kx_df xm w k (kx_lim xm w n k) j).1)), (3, .int (kx_lim xm w n k)), (0, .ref (bd_ea E 2 w 0)), (1, .ref (bd_ea E 11 w k))]) hx hb dX2_deputyFor_155 hl (k := 4) rfl (nI_1 j) (by decide) rfl (fun ls hl => ?_)
                refine lv_goto (tgt := 43) hx hb dX2_deputyFor_158 (by decide) ?_
                exact ih1 (j + 1) (by omega) (by omega) _ _ (hR.eq rfl rfl) hS _ (by rw [show ((kx_df xm w k (kx_lim xm w n k) (j + 1)).2.2 : Int32) = (kx_df xm w k (kx_lim xm w n k) j).2.2 from (by first | (simp (config := { decide := true }) only [kx_df, eq_true o8, eq_false c52, eq_false nc52, eq_true c83, eq_true c89, eq_true c103, ↓reduceIte, not_true_eq_false, not_false_eq_true, and_self, and_true, true_and, and_false, false_and]; done) | rfl)]; rw [show ((kx_df xm w k (kx_lim xm w n k) (j + 1)).2.1 : Int32) = (kx_df xm w k (kx_lim xm w n k) j).2.1 from (by first | (simp (config := { decide := true }) only [kx_df, eq_true o8, eq_false c52, eq_false nc52, eq_true c83, eq_true c89, eq_true c103, ↓reduceIte, not_true_eq_false, not_false_eq_true, and_self, and_true, true_and, and_false, false_and]; done) | rfl)]; rw [show ((kx_df xm w k (kx_lim xm w n k) (j + 1)).1 : Int32) = (kx_df xm w k (kx_lim xm w n k) j).1 from (by first | (simp (config := { decide := true }) only [kx_df, eq_true o8, eq_false c52, eq_false nc52, eq_true c83, eq_true c89, eq_true c103, ↓reduceIte, not_true_eq_false, not_false_eq_true, and_self, and_true, true_and, and_false, false_and]; done) | rfl)]; exact lv_sub hl [0, 5, 6, 7, 8, 9, 10] rfl)
              · skip
                refine lv_iload hx hb dX2_deputyFor_106 (lv_at hl 1 rfl) ?_
                refine lv_iload hx hb dX2_deputyFor_108 (lv_at hl 5 rfl) ?_
                refine lv_icmp_ne (tgt := 127) hx hb dX2_deputyFor_110 (by decide) (fun c110 => ?_) (fun c110 => ?_)
                · skip
                  refine lv_iconst (v := 0) hx hb dX2_deputyFor_127 (by decide) ?_
                  refine lv_istore (lv' := [(11, .int 0), (10, .int 0), (9, .int (kx_skill xm w j (xm 10 w k))), (8, .ref (bd_ea E 7 w j)), (7, .int (nI j)), (6, .int ((kx_df xm w k (kx_lim xm w n k) j).2.2)), (5, .int ((kx_df xm w k (kx_lim xm w n k) j).2.1)), (4, .int ((kx_df xm w k (kx_lim xm w n k) j).1)), (3, .int (kx_lim xm w n k)), (0, .ref (bd_ea E 2 w 0)), (1, .ref (bd_ea E 11 w k))]) hx hb dX2_deputyFor_128 hl (by decide) rfl (fun ls hl => ?_)
                  refine lv_iload hx hb dX2_deputyFor_130 (lv_at hl 1 rfl) ?_
                  refine lv_if_eq (tgt := 155) hx hb dX2_deputyFor_132 (by decide) (fun _ => ?_) (fun q9 => absurd rfl q9)
                  refine lv_iinc (v := nI (j + 1)) (lv' := [(7, .int (nI (j + 1))), (11, .int 0), (10, .int 0), (9, .int (kx_skill xm w j (xm 10 w k))), (8, .ref (bd_ea E 7 w j)), (6, .int ((kx_df xm w k (kx_lim xm w n k) j).2.2)), (5, .int ((kx_df xm w k (kx_lim xm w n k) j).2.1)), (4, .int ((kx_df xm w k (kx_lim xm w n k) j).1)), (3, .int (kx_lim xm w n k)), (0, .ref (bd_ea E 2 w 0)), (1, .ref (bd_ea E 11 w k))]) hx hb dX2_deputyFor_155 hl (k := 4) rfl (nI_1 j) (by decide) rfl (fun ls hl => ?_)
                  refine lv_goto (tgt := 43) hx hb dX2_deputyFor_158 (by decide) ?_
                  exact ih1 (j + 1) (by omega) (by omega) _ _ (hR.eq rfl rfl) hS _ (by rw [show ((kx_df xm w k (kx_lim xm w n k) (j + 1)).2.2 : Int32) = (kx_df xm w k (kx_lim xm w n k) j).2.2 from (by first | (simp (config := { decide := true }) only [kx_df, eq_true o8, eq_false c52, eq_false nc52, eq_true c83, eq_true c89, eq_false c103, eq_false c110, ↓reduceIte, not_true_eq_false, not_false_eq_true, and_self, and_true, true_and, and_false, false_and]; done) | rfl)]; rw [show ((kx_df xm w k (kx_lim xm w n k) (j + 1)).2.1 : Int32) = (kx_df xm w k (kx_lim xm w n k) j).2.1 from (by first | (simp (config := { decide := true }) only [kx_df, eq_true o8, eq_false c52, eq_false nc52, eq_true c83, eq_true c89, eq_false c103, eq_false c110, ↓reduceIte, not_true_eq_false, not_false_eq_true, and_self, and_true, true_and, and_false, false_and]; done) | rfl)]; rw [show ((kx_df xm w k (kx_lim xm w n k) (j + 1)).1 : Int32) = (kx_df xm w k (kx_lim xm w n k) j).1 from (by first | (simp (config := { decide := true }) only [kx_df, eq_true o8, eq_false c52, eq_false nc52, eq_true c83, eq_true c89, eq_false c103, eq_false c110, ↓reduceIte, not_true_eq_false, not_false_eq_true, and_self, and_true, true_and, and_false, false_and]; done) | rfl)]; exact lv_sub hl [0, 5, 6, 7, 8, 9, 10] rfl)
                · skip
                  refine lv_aload hx hb dX2_deputyFor_113 (lv_at hl 2 rfl) ?_
                  refine bd_g_X3_tired C hR (by omega) (by omega) qf_X2_168 dX2_deputyFor_115 ?_
                  refine lv_iload hx hb dX2_deputyFor_118 (lv_at hl 4 rfl) ?_
                  refine lv_icmp_ge (tgt := 127) hx hb dX2_deputyFor_120 (by decide) (fun c120 => ?_) (fun c120 => ?_)
                  · skip
                    refine lv_iconst (v := 0) hx hb dX2_deputyFor_127 (by decide) ?_
                    refine lv_istore (lv' := [(11, .int 0), (10, .int 0), (9, .int (kx_skill xm w j (xm 10 w k))), (8, .ref (bd_ea E 7 w j)), (7, .int (nI j)), (6, .int ((kx_df xm w k (kx_lim xm w n k) j).2.2)), (5, .int ((kx_df xm w k (kx_lim xm w n k) j).2.1)), (4, .int ((kx_df xm w k (kx_lim xm w n k) j).1)), (3, .int (kx_lim xm w n k)), (0, .ref (bd_ea E 2 w 0)), (1, .ref (bd_ea E 11 w k))]) hx hb dX2_deputyFor_128 hl (by decide) rfl (fun ls hl => ?_)
                    refine lv_iload hx hb dX2_deputyFor_130 (lv_at hl 1 rfl) ?_
                    refine lv_if_eq (tgt := 155) hx hb dX2_deputyFor_132 (by decide) (fun _ => ?_) (fun q9 => absurd rfl q9)
                    refine lv_iinc (v := nI (j + 1)) (lv' := [(7, .int (nI (j + 1))), (11, .int 0), (10, .int 0), (9, .int (kx_skill xm w j (xm 10 w k))), (8, .ref (bd_ea E 7 w j)), (6, .int ((kx_df xm w k (kx_lim xm w n k) j).2.2)), (5, .int ((kx_df xm w k (kx_lim xm w n k) j).2.1)), (4, .int ((kx_df xm w k (kx_lim xm w n k) j).1)), (3, .int (kx_lim xm w n k)), (0, .ref (bd_ea E 2 w 0)), (1, .ref (bd_ea E 11 w k))]) hx hb dX2_deputyFor_155 hl (k := 4) rfl (nI_1 j) (by decide) rfl (fun ls hl => ?_)
                    refine lv_goto (tgt := 43) hx hb dX2_deputyFor_158 (by decide) ?_
                    exact ih1 (j + 1) (by omega) (by omega) _ _ (hR.eq rfl rfl) hS _ (by rw [show ((kx_df xm w k (kx_lim xm w n k) (j + 1)).2.2 : Int32) = (kx_df xm w k (kx_lim xm w n k) j).2.2 from (by first | (simp (config := { decide := true }) only [kx_df, eq_true o8, eq_false c52, eq_false nc52, eq_true c83, eq_true c89, eq_false c103, eq_true c110, eq_true c120, ↓reduceIte, not_true_eq_false, not_false_eq_true, and_self, and_true, true_and, and_false, false_and]; done) | rfl)]; rw [show ((kx_df xm w k (kx_lim xm w n k) (j + 1)).2.1 : Int32) = (kx_df xm w k (kx_lim xm w n k) j).2.1 from (by first | (simp (config := { decide := true }) only [kx_df, eq_true o8, eq_false c52, eq_false nc52, eq_true c83, eq_true c89, eq_false c103, eq_true c110, eq_true c120, ↓reduceIte, not_true_eq_false, not_false_eq_true, and_self, and_true, true_and, and_false, false_and]; done) | rfl)]; rw [show ((kx_df xm w k (kx_lim xm w n k) (j + 1)).1 : Int32) = (kx_df xm w k (kx_lim xm w n k) j).1 from (by first | (simp (config := { decide := true }) only [kx_df, eq_true o8, eq_false c52, eq_false nc52, eq_true c83, eq_true c89, eq_false c103, eq_true c110, eq_true c120, ↓reduceIte, not_true_eq_false, not_false_eq_true, and_self, and_true, true_and, and_false, false_and]; done) | rfl)]; exact lv_sub hl [0, 5, 6, 7, 8, 9, 10] rfl)
                  · skip
                    refine lv_iconst (v := 1) hx hb dX2_deputyFor_123 (by decide) ?_
                    refine lv_goto (tgt := 128) hx hb dX2_deputyFor_124 (by decide) ?_
                    refine lv_istore (lv' := [(11, .int 1), (10, .int 0), (9, .int (kx_skill xm w j (xm 10 w k))), (8, .ref (bd_ea E 7 w j)), (7, .int (nI j)), (6, .int ((kx_df xm w k (kx_lim xm w n k) j).2.2)), (5, .int ((kx_df xm w k (kx_lim xm w n k) j).2.1)), (4, .int ((kx_df xm w k (kx_lim xm w n k) j).1)), (3, .int (kx_lim xm w n k)), (0, .ref (bd_ea E 2 w 0)), (1, .ref (bd_ea E 11 w k))]) hx hb dX2_deputyFor_128 hl (by decide) rfl (fun ls hl => ?_)
                    refine lv_iload hx hb dX2_deputyFor_130 (lv_at hl 1 rfl) ?_
                    refine lv_if_eq (tgt := 155) hx hb dX2_deputyFor_132 (by decide) (fun _ => ?_) (fun q9 => absurd rfl q9)
                    refine lv_iinc (v := nI (j + 1)) (lv' := [(7, .int (nI (j + 1))), (11, .int 1), (10, .int 0), (9, .int (kx_skill xm w j (xm 10 w k))), (8, .ref (bd_ea E 7 w j)), (6, .int ((kx_df xm w k (kx_lim xm w n k) j).2.2)), (5, .int ((kx_df xm w k (kx_lim xm w n k) j).2.1)), (4, .int ((kx_df xm w k (kx_lim xm w n k) j).1)), (3, .int (kx_lim xm w n k)), (0, .ref (bd_ea E 2 w 0)), (1, .ref (bd_ea E 11 w k))]) hx hb dX2_deputyFor_155 hl (k := 4) rfl (nI_1 j) (by decide) rfl (fun ls hl => ?_)
                    refine lv_goto (tgt := 43) hx hb dX2_deputyFor_158 (by decide) ?_
                    exact ih1 (j + 1) (by omega) (by omega) _ _ (hR.eq rfl rfl) hS _ (by rw [show ((kx_df xm w k (kx_lim xm w n k) (j + 1)).2.2 : Int32) = (kx_df xm w k (kx_lim xm w n k) j).2.2 from (by first | (simp (config := { decide := true }) only [kx_df, eq_true o8, eq_false c52, eq_false nc52, eq_true c83, eq_true c89, eq_false c103, eq_true c110, eq_false c120, ↓reduceIte, not_true_eq_false, not_false_eq_true, and_self, and_true, true_and, and_false, false_and]; done) | rfl)]; rw [show ((kx_df xm w k (kx_lim xm w n k) (j + 1)).2.1 : Int32) = (kx_df xm w k (kx_lim xm w n k) j).2.1 from (by first | (simp (config := { decide := true }) only [kx_df, eq_true o8, eq_false c52, eq_false nc52, eq_true c83, eq_true c89, eq_false c103, eq_true c110, eq_false c120, ↓reduceIte, not_true_eq_false, not_false_eq_true, and_self, and_true, true_and, and_false, false_and]; done) | rfl)]; rw [show ((kx_df xm w k (kx_lim xm w n k) (j + 1)).1 : Int32) = (kx_df xm w k (kx_lim xm w n k) j).1 from (by first | (simp (config := { decide := true }) only [kx_df, eq_true o8, eq_false c52, eq_false nc52, eq_true c83, eq_true c89, eq_false c103, eq_true c110, eq_false c120, ↓reduceIte, not_true_eq_false, not_false_eq_true, and_self, and_true, true_and, and_false, false_and]; done) | rfl)]; exact lv_sub hl [0, 5, 6, 7, 8, 9, 10] rfl)
            · skip
              refine lv_iconst (v := 1) hx hb dX2_deputyFor_92 (by decide) ?_
              refine lv_goto (tgt := 97) hx hb dX2_deputyFor_93 (by decide) ?_
              refine lv_istore (lv' := [(10, .int 1), (9, .int (kx_skill xm w j (xm 10 w k))), (8, .ref (bd_ea E 7 w j)), (7, .int (nI j)), (6, .int ((kx_df xm w k (kx_lim xm w n k) j).2.2)), (5, .int ((kx_df xm w k (kx_lim xm w n k) j).2.1)), (4, .int ((kx_df xm w k (kx_lim xm w n k) j).1)), (3, .int (kx_lim xm w n k)), (0, .ref (bd_ea E 2 w 0)), (1, .ref (bd_ea E 11 w k))]) hx hb dX2_deputyFor_97 hl (by decide) rfl (fun ls hl => ?_)
              refine lv_iload hx hb dX2_deputyFor_99 (lv_at hl 1 rfl) ?_
              refine lv_iload hx hb dX2_deputyFor_101 (lv_at hl 5 rfl) ?_
              refine lv_icmp_gt (tgt := 123) hx hb dX2_deputyFor_103 (by decide) (fun c103 => ?_) (fun c103 => ?_)
              · skip
                refine lv_iconst (v := 1) hx hb dX2_deputyFor_123 (by decide) ?_
                refine lv_goto (tgt := 128) hx hb dX2_deputyFor_124 (by decide) ?_
                refine lv_istore (lv' := [(11, .int 1), (10, .int 1), (9, .int (kx_skill xm w j (xm 10 w k))), (8, .ref (bd_ea E 7 w j)), (7, .int (nI j)), (6, .int ((kx_df xm w k (kx_lim xm w n k) j).2.2)), (5, .int ((kx_df xm w k (kx_lim xm w n k) j).2.1)), (4, .int ((kx_df xm w k (kx_lim xm w n k) j).1)), (3, .int (kx_lim xm w n k)), (0, .ref (bd_ea E 2 w 0)), (1, .ref (bd_ea E 11 w k))]) hx hb dX2_deputyFor_128 hl (by decide) rfl (fun ls hl => ?_)
                refine lv_iload hx hb dX2_deputyFor_130 (lv_at hl 1 rfl) ?_
                refine lv_if_eq (tgt := 155) hx hb dX2_deputyFor_132 (by decide) (fun c132 => ?_) (fun c132 => ?_)
                · exact absurd c132 (by decide)
                · skip
                  refine lv_iload hx hb dX2_deputyFor_135 (lv_at hl 0 rfl) ?_
                  refine lv_if_eq (tgt := 155) hx hb dX2_deputyFor_137 (by decide) (fun q9 => absurd q9 c132) (fun _ => ?_)
                  refine lv_iload hx hb dX2_deputyFor_140 (lv_at hl 4 rfl) ?_
                  refine lv_istore (lv' := [(4, .int (nI j)), (11, .int 1), (10, .int 1), (9, .int (kx_skill xm w j (xm 10 w k))), (8, .ref (bd_ea E 7 w j)), (7, .int (nI j)), (6, .int ((kx_df xm w k (kx_lim xm w n k) j).2.2)), (5, .int ((kx_df xm w k (kx_lim xm w n k) j).2.1)), (3, .int (kx_lim xm w n k)), (0, .ref (bd_ea E 2 w 0)), (1, .ref (bd_ea E 11 w k))]) hx hb dX2_deputyFor_142 hl (by decide) rfl (fun ls hl => ?_)
                  refine lv_iload hx hb dX2_deputyFor_144 (lv_at hl 3 rfl) ?_
                  refine lv_istore (lv' := [(5, .int (kx_skill xm w j (xm 10 w k))), (4, .int (nI j)), (11, .int 1), (10, .int 1), (9, .int (kx_skill xm w j (xm 10 w k))), (8, .ref (bd_ea E 7 w j)), (7, .int (nI j)), (6, .int ((kx_df xm w k (kx_lim xm w n k) j).2.2)), (3, .int (kx_lim xm w n k)), (0, .ref (bd_ea E 2 w 0)), (1, .ref (bd_ea E 11 w k))]) hx hb dX2_deputyFor_146 hl (by decide) rfl (fun ls hl => ?_)
                  refine lv_aload hx hb dX2_deputyFor_148 (lv_at hl 5 rfl) ?_
                  refine bd_g_X3_tired C hR (by omega) (by omega) qf_X2_168 dX2_deputyFor_150 ?_
                  refine lv_istore (lv' := [(6, .int (xm 0 w j)), (5, .int (kx_skill xm w j (xm 10 w k))), (4, .int (nI j)), (11, .int 1), (10, .int 1), (9, .int (kx_skill xm w j (xm 10 w k))), (8, .ref (bd_ea E 7 w j)), (7, .int (nI j)), (3, .int (kx_lim xm w n k)), (0, .ref (bd_ea E 2 w 0)), (1, .ref (bd_ea E 11 w k))]) hx hb dX2_deputyFor_153 hl (by decide) rfl (fun ls hl => ?_)
                  refine lv_iinc (v := nI (j + 1)) (lv' := [(7, .int (nI (j + 1))), (6, .int (xm 0 w j)), (5, .int (kx_skill xm w j (xm 10 w k))), (4, .int (nI j)), (11, .int 1), (10, .int 1), (9, .int (kx_skill xm w j (xm 10 w k))), (8, .ref (bd_ea E 7 w j)), (3, .int (kx_lim xm w n k)), (0, .ref (bd_ea E 2 w 0)), (1, .ref (bd_ea E 11 w k))]) hx hb dX2_deputyFor_155 hl (k := 7) rfl (nI_1 j) (by decide) rfl (fun ls hl => ?_)
                  refine lv_goto (tgt := 43) hx hb dX2_deputyFor_158 (by decide) ?_
                  exact ih1 (j + 1) (by omega) (by omega) _ _ (hR.eq rfl rfl) hS _ (by rw [show ((kx_df xm w k (kx_lim xm w n k) (j + 1)).2.2 : Int32) = xm 0 w j from (by first | (simp (config := { decide := true }) only [kx_df, eq_true o8, eq_false c52, eq_false nc52, eq_true c83, eq_false c89, eq_true c103, eq_false c132, ↓reduceIte, not_true_eq_false, not_false_eq_true, and_self, and_true, true_and, and_false, false_and]; done) | rfl)]; rw [show ((kx_df xm w k (kx_lim xm w n k) (j + 1)).2.1 : Int32) = kx_skill xm w j (xm 10 w k) from (by first | (simp (config := { decide := true }) only [kx_df, eq_true o8, eq_false c52, eq_false nc52, eq_true c83, eq_false c89, eq_true c103, eq_false c132, ↓reduceIte, not_true_eq_false, not_false_eq_true, and_self, and_true, true_and, and_false, false_and]; done) | rfl)]; rw [show ((kx_df xm w k (kx_lim xm w n k) (j + 1)).1 : Int32) = nI j from (by first | (simp (config := { decide := true }) only [kx_df, eq_true o8, eq_false c52, eq_false nc52, eq_true c83, eq_false c89, eq_true c103, eq_false c132, ↓reduceIte, not_true_eq_false, not_false_eq_true, and_self, and_true, true_and, and_false, false_and]; done) | rfl)]; exact lv_sub hl [0, 1, 2, 3, 8, 9, 10] rfl)
              · skip
                refine lv_iload hx hb dX2_deputyFor_106 (lv_at hl 1 rfl) ?_
                refine lv_iload hx hb dX2_deputyFor_108 (lv_at hl 5 rfl) ?_
                refine lv_icmp_ne (tgt := 127) hx hb dX2_deputyFor_110 (by decide) (fun c110 => ?_) (fun c110 => ?_)
                · skip
                  refine lv_iconst (v := 0) hx hb dX2_deputyFor_127 (by decide) ?_
                  refine lv_istore (lv' := [(11, .int 0), (10, .int 1), (9, .int (kx_skill xm w j (xm 10 w k))), (8, .ref (bd_ea E 7 w j)), (7, .int (nI j)), (6, .int ((kx_df xm w k (kx_lim xm w n k) j).2.2)), (5, .int ((kx_df xm w k (kx_lim xm w n k) j).2.1)), (4, .int ((kx_df xm w k (kx_lim xm w n k) j).1)), (3, .int (kx_lim xm w n k)), (0, .ref (bd_ea E 2 w 0)), (1, .ref (bd_ea E 11 w k))]) hx hb dX2_deputyFor_128 hl (by decide) rfl (fun ls hl => ?_)
                  refine lv_iload hx hb dX2_deputyFor_130 (lv_at hl 1 rfl) ?_
                  refine lv_if_eq (tgt := 155) hx hb dX2_deputyFor_132 (by decide) (fun c132 => ?_) (fun c132 => ?_)
                  · exact absurd c132 (by decide)
                  · skip
                    refine lv_iload hx hb dX2_deputyFor_135 (lv_at hl 0 rfl) ?_
                    refine lv_if_eq (tgt := 155) hx hb dX2_deputyFor_137 (by decide) (fun _ => ?_) (fun q9 => absurd rfl q9)
                    refine lv_iinc (v := nI (j + 1)) (lv' := [(7, .int (nI (j + 1))), (11, .int 0), (10, .int 1), (9, .int (kx_skill xm w j (xm 10 w k))), (8, .ref (bd_ea E 7 w j)), (6, .int ((kx_df xm w k (kx_lim xm w n k) j).2.2)), (5, .int ((kx_df xm w k (kx_lim xm w n k) j).2.1)), (4, .int ((kx_df xm w k (kx_lim xm w n k) j).1)), (3, .int (kx_lim xm w n k)), (0, .ref (bd_ea E 2 w 0)), (1, .ref (bd_ea E 11 w k))]) hx hb dX2_deputyFor_155 hl (k := 4) rfl (nI_1 j) (by decide) rfl (fun ls hl => ?_)
                    refine lv_goto (tgt := 43) hx hb dX2_deputyFor_158 (by decide) ?_
                    exact ih1 (j + 1) (by omega) (by omega) _ _ (hR.eq rfl rfl) hS _ (by rw [show ((kx_df xm w k (kx_lim xm w n k) (j + 1)).2.2 : Int32) = (kx_df xm w k (kx_lim xm w n k) j).2.2 from (by first | (simp (config := { decide := true }) only [kx_df, eq_true o8, eq_false c52, eq_false nc52, eq_true c83, eq_false c89, eq_false c103, eq_false c110, eq_false c132, ↓reduceIte, not_true_eq_false, not_false_eq_true, and_self, and_true, true_and, and_false, false_and]; done) | rfl)]; rw [show ((kx_df xm w k (kx_lim xm w n k) (j + 1)).2.1 : Int32) = (kx_df xm w k (kx_lim xm w n k) j).2.1 from (by first | (simp (config := { decide := true }) only [kx_df, eq_true o8, eq_false c52, eq_false nc52, eq_true c83, eq_false c89, eq_false c103, eq_false c110, eq_false c132, ↓reduceIte, not_true_eq_false, not_false_eq_true, and_self, and_true, true_and, and_false, false_and]; done) | rfl)]; rw [show ((kx_df xm w k (kx_lim xm w n k) (j + 1)).1 : Int32) = (kx_df xm w k (kx_lim xm w n k) j).1 from (by first | (simp (config := { decide := true }) only [kx_df, eq_true o8, eq_false c52, eq_false nc52, eq_true c83, eq_false c89, eq_false c103, eq_false c110, eq_false c132, ↓reduceIte, not_true_eq_false, not_false_eq_true, and_self, and_true, true_and, and_false, false_and]; done) | rfl)]; exact lv_sub hl [0, 5, 6, 7, 8, 9, 10] rfl)
                · skip
                  refine lv_aload hx hb dX2_deputyFor_113 (lv_at hl 2 rfl) ?_
                  refine bd_g_X3_tired C hR (by omega) (by omega) qf_X2_168 dX2_deputyFor_115 ?_
                  refine lv_iload hx hb dX2_deputyFor_118 (lv_at hl 4 rfl) ?_
                  refine lv_icmp_ge (tgt := 127) hx hb dX2_deputyFor_120 (by decide) (fun c120 => ?_) (fun c120 => ?_)
                  · skip
                    refine lv_iconst (v := 0) hx hb dX2_deputyFor_127 (by decide) ?_
                    refine lv_istore (lv' := [(11, .int 0), (10, .int 1), (9, .int (kx_skill xm w j (xm 10 w k))), (8, .ref (bd_ea E 7 w j)), (7, .int (nI j)), (6, .int ((kx_df xm w k (kx_lim xm w n k) j).2.2)), (5, .int ((kx_df xm w k (kx_lim xm w n k) j).2.1)), (4, .int ((kx_df xm w k (kx_lim xm w n k) j).1)), (3, .int (kx_lim xm w n k)), (0, .ref (bd_ea E 2 w 0)), (1, .ref (bd_ea E 11 w k))]) hx hb dX2_deputyFor_128 hl (by decide) rfl (fun ls hl => ?_)
                    refine lv_iload hx hb dX2_deputyFor_130 (lv_at hl 1 rfl) ?_
                    refine lv_if_eq (tgt := 155) hx hb dX2_deputyFor_132 (by decide) (fun c132 => ?_) (fun c132 => ?_)
                    · exact absurd c132 (by decide)
                    · skip
                      refine lv_iload hx hb dX2_deputyFor_135 (lv_at hl 0 rfl) ?_
                      refine lv_if_eq (tgt := 155) hx hb dX2_deputyFor_137 (by decide) (fun _ => ?_) (fun q9 => absurd rfl q9)
                      refine lv_iinc (v := nI (j + 1)) (lv' := [(7, .int (nI (j + 1))), (11, .int 0), (10, .int 1), (9, .int (kx_skill xm w j (xm 10 w k))), (8, .ref (bd_ea E 7 w j)), (6, .int ((kx_df xm w k (kx_lim xm w n k) j).2.2)), (5, .int ((kx_df xm w k (kx_lim xm w n k) j).2.1)), (4, .int ((kx_df xm w k (kx_lim xm w n k) j).1)), (3, .int (kx_lim xm w n k)), (0, .ref (bd_ea E 2 w 0)), (1, .ref (bd_ea E 11 w k))]) hx hb dX2_deputyFor_155 hl (k := 4) rfl (nI_1 j) (by decide) rfl (fun ls hl => ?_)
                      refine lv_goto (tgt := 43) hx hb dX2_deputyFor_158 (by decide) ?_
                      exact ih1 (j + 1) (by omega) (by omega) _ _ (hR.eq rfl rfl) hS _ (by rw [show ((kx_df xm w k (kx_lim xm w n k) (j + 1)).2.2 : Int32) = (kx_df xm w k (kx_lim xm w n k) j).2.2 from (by first | (simp (config := { decide := true }) only [kx_df, eq_true o8, eq_false c52, eq_false nc52, eq_true c83, eq_false c89, eq_false c103, eq_true c110, eq_true c120, eq_false c132, ↓reduceIte, not_true_eq_false, not_false_eq_true, and_self, and_true, true_and, and_false, false_and]; done) | rfl)]; rw [show ((kx_df xm w k (kx_lim xm w n k) (j + 1)).2.1 : Int32) = (kx_df xm w k (kx_lim xm w n k) j).2.1 from (by first | (simp (config := { decide := true }) only [kx_df, eq_true o8, eq_false c52, eq_false nc52, eq_true c83, eq_false c89, eq_false c103, eq_true c110, eq_true c120, eq_false c132, ↓reduceIte, not_true_eq_false, not_false_eq_true, and_self, and_true, true_and, and_false, false_and]; done) | rfl)]; rw [show ((kx_df xm w k (kx_lim xm w n k) (j + 1)).1 : Int32) = (kx_df xm w k (kx_lim xm w n k) j).1 from (by first | (simp (config := { decide := true }) only [kx_df, eq_true o8, eq_false c52, eq_false nc52, eq_true c83, eq_false c89, eq_false c103, eq_true c110, eq_true c120, eq_false c132, ↓reduceIte, not_true_eq_false, not_false_eq_true, and_self, and_true, true_and, and_false, false_and]; done) | rfl)]; exact lv_sub hl [0, 5, 6, 7, 8, 9, 10] rfl)
                  · skip
                    refine lv_iconst (v := 1) hx hb dX2_deputyFor_123 (by decide) ?_
                    refine lv_goto (tgt := 128) hx hb dX2_deputyFor_124 (by decide) ?_
                    refine lv_istore (lv' := [(11, .int 1), (10, .int 1), (9, .int (kx_skill xm w j (xm 10 w k))), (8, .ref (bd_ea E 7 w j)), (7, .int (nI j)), (6, .int ((kx_df xm w k (kx_lim xm w n k) j).2.2)), (5, .int ((kx_df xm w k (kx_lim xm w n k) j).2.1)), (4, .int ((kx_df xm w k (kx_lim xm w n k) j).1)), (3, .int (kx_lim xm w n k)), (0, .ref (bd_ea E 2 w 0)), (1, .ref (bd_ea E 11 w k))]) hx hb dX2_deputyFor_128 hl (by decide) rfl (fun ls hl => ?_)
                    refine lv_iload hx hb dX2_deputyFor_130 (lv_at hl 1 rfl) ?_
                    refine lv_if_eq (tgt := 155) hx hb dX2_deputyFor_132 (by decide) (fun c132 => ?_) (fun c132 => ?_)
                    · exact absurd c132 (by decide)
                    · skip
                      refine lv_iload hx hb dX2_deputyFor_135 (lv_at hl 0 rfl) ?_
                      refine lv_if_eq (tgt := 155) hx hb dX2_deputyFor_137 (by decide) (fun q9 => absurd q9 c132) (fun _ => ?_)
                      refine lv_iload hx hb dX2_deputyFor_140 (lv_at hl 4 rfl) ?_
                      refine lv_istore (lv' := [(4, .int (nI j)), (11, .int 1), (10, .int 1), (9, .int (kx_skill xm w j (xm 10 w k))), (8, .ref (bd_ea E 7 w j)), (7, .int (nI j)), (6, .int ((kx_df xm w k (kx_lim xm w n k) j).2.2)), (5, .int ((kx_df xm w k (kx_lim xm w n k) j).2.1)), (3, .int (kx_lim xm w n k)), (0, .ref (bd_ea E 2 w 0)), (1, .ref (bd_ea E 11 w k))]) hx hb dX2_deputyFor_142 hl (by decide) rfl (fun ls hl => ?_)
                      refine lv_iload hx hb dX2_deputyFor_144 (lv_at hl 3 rfl) ?_
                      refine lv_istore (lv' := [(5, .int (kx_skill xm w j (xm 10 w k))), (4, .int (nI j)), (11, .int 1), (10, .int 1), (9, .int (kx_skill xm w j (xm 10 w k))), (8, .ref (bd_ea E 7 w j)), (7, .int (nI j)), (6, .int ((kx_df xm w k (kx_lim xm w n k) j).2.2)), (3, .int (kx_lim xm w n k)), (0, .ref (bd_ea E 2 w 0)), (1, .ref (bd_ea E 11 w k))]) hx hb dX2_deputyFor_146 hl (by decide) rfl (fun ls hl => ?_)
                      refine lv_aload hx hb dX2_deputyFor_148 (lv_at hl 5 rfl) ?_
                      refine bd_g_X3_tired C hR (by omega) (by omega) qf_X2_168 dX2_deputyFor_150 ?_
                      refine lv_istore (lv' := [(6, .int (xm 0 w j)), (5, .int (kx_skill xm w j (xm 10 w k))), (4, .int (nI j)), (11, .int 1), (10, .int 1), (9, .int (kx_skill xm w j (xm 10 w k))), (8, .ref (bd_ea E 7 w j)), (7, .int (nI j)), (3, .int (kx_lim xm w n k)), (0, .ref (bd_ea E 2 w 0)), (1, .ref (bd_ea E 11 w k))]) hx hb dX2_deputyFor_153 hl (by decide) rfl (fun ls hl => ?_)
                      refine lv_iinc (v := nI (j + 1)) (lv' := [(7, .int (nI (j + 1))), (6, .int (xm 0 w j)), (5, .int (kx_skill xm w j (xm 10 w k))), (4, .int (nI j)), (11, .int 1), (10, .int 1), (9, .int (kx_skill xm w j (xm 10 w k))), (8, .ref (bd_ea E 7 w j)), (3, .int (kx_lim xm w n k)), (0, .ref (bd_ea E 2 w 0)), (1, .ref (bd_ea E 11 w k))]) hx hb dX2_deputyFor_155 hl (k := 7) rfl (nI_1 j) (by decide) rfl (fun ls hl => ?_)
                      refine lv_goto (tgt := 43) hx hb dX2_deputyFor_158 (by decide) ?_
                      exact ih1 (j + 1) (by omega) (by omega) _ _ (hR.eq rfl rfl) hS _ (by rw [show ((kx_df xm w k (kx_lim xm w n k) (j + 1)).2.2 : Int32) = xm 0 w j from (by first | (simp (config := { decide := true }) only [kx_df, eq_true o8, eq_false c52, eq_false nc52, eq_true c83, eq_false c89, eq_false c103, eq_true c110, eq_false c120, eq_false c132, ↓reduceIte, not_true_eq_false, not_false_eq_true, and_self, and_true, true_and, and_false, false_and]; done) | rfl)]; rw [show ((kx_df xm w k (kx_lim xm w n k) (j + 1)).2.1 : Int32) = kx_skill xm w j (xm 10 w k) from (by first | (simp (config := { decide := true }) only [kx_df, eq_true o8, eq_false c52, eq_false nc52, eq_true c83, eq_false c89, eq_false c103, eq_true c110, eq_false c120, eq_false c132, ↓reduceIte, not_true_eq_false, not_false_eq_true, and_self, and_true, true_and, and_false, false_and]; done) | rfl)]; rw [show ((kx_df xm w k (kx_lim xm w n k) (j + 1)).1 : Int32) = nI j from (by first | (simp (config := { decide := true }) only [kx_df, eq_true o8, eq_false c52, eq_false nc52, eq_true c83, eq_false c89, eq_false c103, eq_true c110, eq_false c120, eq_false c132, ↓reduceIte, not_true_eq_false, not_false_eq_true, and_self, and_true, true_and, and_false, false_and]; done) | rfl)]; exact lv_sub hl [0, 1, 2, 3, 8, 9, 10] rfl)
    exact lp1 (n + 1) 0 (by omega) (by omega) _ _ (hR.eq rfl rfl) hS _ (by first | exact lv_sub hl [0, 1, 2, 3, 4, 6, 7] rfl | (rw [show (nI 0 : Int32) = 0 from by first | rfl | decide | simp [nI_0]]; rw [show ((kx_df xm w k (kx_lim xm w n k) 0).2.2 : Int32) = 0 from by first | rfl | decide | simp [nI_0]]; rw [show ((kx_df xm w k (kx_lim xm w n k) 0).2.1 : Int32) = (-1) from by first | rfl | decide | simp [nI_0]]; rw [show ((kx_df xm w k (kx_lim xm w n k) 0).1 : Int32) = (-1) from by first | rfl | decide | simp [nI_0]]; exact lv_sub hl [0, 1, 2, 3, 4, 6, 7] rfl))
  · rw [if_neg o8]
    refine lv_astore_nN (lv' := [(2, .null), (0, .ref (bd_ea E 2 w 0)), (1, .ref (bd_ea E 11 w k))]) hx hb dX2_deputyFor_11 rfl hl (by decide) rfl (fun ls hl => ?_)
    refine lv_aload_nN hx hb dX2_deputyFor_12 rfl (lv_at hl 0 rfl) ?_
    refine lv_ifnonnullN hx hb dX2_deputyFor_13 ?_
    refine lv_iconst (v := 5) hx hb dX2_deputyFor_16 (by decide) ?_
    refine lv_goto (tgt := 30) hx hb dX2_deputyFor_17 (by decide) ?_
    rw [show (5 : Int32) = kx_lim xm w n k by rw [kx_lim, if_neg o8]]
    refine lv_istore_n (lv' := [(3, .int (kx_lim xm w n k)), (2, .null), (0, .ref (bd_ea E 2 w 0)), (1, .ref (bd_ea E 11 w k))]) hx hb dX2_deputyFor_30 rfl hl (by decide) rfl (fun ls hl => ?_)
    refine lv_iconst (v := (-1)) hx hb dX2_deputyFor_31 (by decide) ?_
    refine lv_istore (lv' := [(4, .int (-1)), (3, .int (kx_lim xm w n k)), (2, .null), (0, .ref (bd_ea E 2 w 0)), (1, .ref (bd_ea E 11 w k))]) hx hb dX2_deputyFor_32 hl (by decide) rfl (fun ls hl => ?_)
    refine lv_iconst (v := (-1)) hx hb dX2_deputyFor_34 (by decide) ?_
    refine lv_istore (lv' := [(5, .int (-1)), (4, .int (-1)), (3, .int (kx_lim xm w n k)), (2, .null), (0, .ref (bd_ea E 2 w 0)), (1, .ref (bd_ea E 11 w k))]) hx hb dX2_deputyFor_35 hl (by decide) rfl (fun ls hl => ?_)
    refine lv_iconst (v := 0) hx hb dX2_deputyFor_37 (by decide) ?_
    refine lv_istore (lv' := [(6, .int 0), (5, .int (-1)), (4, .int (-1)), (3, .int (kx_lim xm w n k)), (2, .null), (0, .ref (bd_ea E 2 w 0)), (1, .ref (bd_ea E 11 w k))]) hx hb dX2_deputyFor_38 hl (by decide) rfl (fun ls hl => ?_)
    refine lv_iconst (v := 0) hx hb dX2_deputyFor_40 (by decide) ?_
    refine lv_istore (lv' := [(7, .int 0), (6, .int 0), (5, .int (-1)), (4, .int (-1)), (3, .int (kx_lim xm w n k)), (2, .null), (0, .ref (bd_ea E 2 w 0)), (1, .ref (bd_ea E 11 w k))]) hx hb dX2_deputyFor_41 hl (by decide) rfl (fun ls hl => ?_)
    have lp2 : ∀ (t2 j : Nat), j ≤ n → n - j < t2 → ∀ (H : Heap) (locs : List Loc), bd_Rep E xm ym om H → va_S (bd_A E) s.heap H locs → ∀ (ls : Array Slot), lv_has ls 12 [(7, .int (nI j)), (6, .int ((kx_df xm w k (kx_lim xm w n k) j).2.2)), (5, .int ((kx_df xm w k (kx_lim xm w n k) j).2.1)), (4, .int ((kx_df xm w k (kx_lim xm w n k) j).1)), (3, .int (kx_lim xm w n k)), (0, .ref (bd_ea E 2 w 0)), (1, .ref (bd_ea E 11 w k))] → W p l e { frames := 1, cells := 0, slots := 0, locals := 21 } s m args below meth c H locs 0 0 (MQ below (bd_Q E xm ym om (some (.int (kx_who xm w n k)))) args s 0 0 (bd_A E)) (F0 m 43 ls []) := by
      intro t2
      induction t2 with
      | zero => intro j h1 h2; exact absurd h2 (Nat.not_lt_zero _)
      | succ t2 ih2 =>
        intro j hj1 hj2 H locs hR hS ls hl
        refine lv_iload hx hb dX2_deputyFor_43 (lv_at hl 0 rfl) ?_
        refine lv_aload_n hx hb dX2_deputyFor_45 rfl (lv_at hl 5 rfl) ?_
        refine bd_g_X2_season C hR (by omega) qf_X2_12 dX2_deputyFor_46 ?_
        refine bd_g_X4_playerCount C hR (by omega) qf_X2_52 dX2_deputyFor_49 ?_
        rw [show xm 30 w 0 = nI n from (show kx_Sh xm w n nb z from hs).1]
        refine lv_icmp_ge (tgt := 161) hx hb dX2_deputyFor_52 (by decide) (fun c52 => ?_) (fun c52 => ?_)
        · skip
          have nc52 : n ≤ j := (nI_leI (a := n) (b := j) (by omega) (by omega)).mp c52
          obtain rfl : n = j := by omega
          refine lv_iload hx hb dX2_deputyFor_161 (lv_at hl 3 rfl) ?_
          exact bd_ri C hr hlk (hR.eq rfl rfl) hS (Nat.zero_le _) (Nat.zero_le _) dX2_deputyFor_163 (by first | rfl | (rfl))
        · skip
          have nc52 : ¬ n ≤ j := fun q9 => c52 ((nI_leI (a := n) (b := j) (by omega) (by omega)).mpr q9)
          refine lv_aload_n hx hb dX2_deputyFor_55 rfl (lv_at hl 5 rfl) ?_
          refine bd_g_X2_season C hR (by omega) qf_X2_12 dX2_deputyFor_56 ?_
          refine bd_g_X4_players C hR (by omega) qf_X2_55 dX2_deputyFor_59 ?_
          refine lv_iload hx hb dX2_deputyFor_62 (lv_at hl 0 rfl) ?_
          refine bd_ld_3 C hR (by omega) (j := j) (by omega) dX2_deputyFor_64 ?_
          refine lv_astore (lv' := [(8, .ref (bd_ea E 7 w j)), (7, .int (nI j)), (6, .int ((kx_df xm w k (kx_lim xm w n k) j).2.2)), (5, .int ((kx_df xm w k (kx_lim xm w n k) j).2.1)), (4, .int ((kx_df xm w k (kx_lim xm w n k) j).1)), (3, .int (kx_lim xm w n k)), (0, .ref (bd_ea E 2 w 0)), (1, .ref (bd_ea E 11 w k))]) hx hb dX2_deputyFor_65 hl (by decide) rfl (fun ls hl => ?_)
          refine lv_aload hx hb dX2_deputyFor_67 (lv_at hl 0 rfl) ?_
          refine lv_aload_n hx hb dX2_deputyFor_69 rfl (lv_at hl 7 rfl) ?_
          refine bd_g_X1_instrument C hR (by omega) (by omega) qf_X2_159 dX2_deputyFor_70 ?_
          refine bd_cV1 [.int (xm 10 w k)] [] C (k_X3_skillFor l E xm ym om w j (xm 10 w k) (by omega) (by omega)) hR hS (bd_recv C.2 hR ⟨by decide, show w < 2 by omega, show j < 24 by omega⟩ rfl rfl) qm_X2_162 qi_X3_skillFor qs_X3_skillFor qz_X3 qc_X3_skillFor qp_X3_skillFor ⟨Nat.le_of_ble_eq_true rfl, Nat.le_of_ble_eq_true rfl⟩ hl.1 (Nat.le_of_ble_eq_true rfl) dX2_deputyFor_73 ⟨Nat.le_of_ble_eq_true rfl, Nat.le_of_ble_eq_true rfl⟩ (fun H locs hR hS hz73 => ?_)
          refine lv_istore (lv' := [(9, .int (kx_skill xm w j (xm 10 w k))), (8, .ref (bd_ea E 7 w j)), (7, .int (nI j)), (6, .int ((kx_df xm w k (kx_lim xm w n k) j).2.2)), (5, .int ((kx_df xm w k (kx_lim xm w n k) j).2.1)), (4, .int ((kx_df xm w k (kx_lim xm w n k) j).1)), (3, .int (kx_lim xm w n k)), (0, .ref (bd_ea E 2 w 0)), (1, .ref (bd_ea E 11 w k))]) hx hb dX2_deputyFor_76 hl (by decide) rfl (fun ls hl => ?_)
          refine lv_aload hx hb dX2_deputyFor_78 (lv_at hl 1 rfl) ?_
          refine bd_cV1 [] [] C (k_X3_mayBeDeputy l E xm ym om w j (by omega) (by omega)) hR hS (bd_recv C.2 hR ⟨by decide, show w < 2 by omega, show j < 24 by omega⟩ rfl rfl) qm_X2_165 qi_X3_mayBeDeputy qs_X3_mayBeDeputy qz_X3 qc_X3_mayBeDeputy qp_X3_mayBeDeputy ⟨Nat.le_of_ble_eq_true rfl, Nat.le_of_ble_eq_true rfl⟩ hl.1 (Nat.le_of_ble_eq_true rfl) dX2_deputyFor_80 ⟨Nat.le_of_ble_eq_true rfl, Nat.le_of_ble_eq_true rfl⟩ (fun H locs hR hS hz80 => ?_)
          refine bd_ifeq (P := kx_may xm w j) (tgt := 96) C dX2_deputyFor_83 (by decide) (fun c83 => ?_) (fun c83 => ?_)
          · skip
            refine lv_iconst (v := 0) hx hb dX2_deputyFor_96 (by decide) ?_
            refine lv_istore (lv' := [(10, .int 0), (9, .int (kx_skill xm w j (xm 10 w k))), (8, .ref (bd_ea E 7 w j)), (7, .int (nI j)), (6, .int ((kx_df xm w k (kx_lim xm w n k) j).2.2)), (5, .int ((kx_df xm w k (kx_lim xm w n k) j).2.1)), (4, .int ((kx_df xm w k (kx_lim xm w n k) j).1)), (3, .int (kx_lim xm w n k)), (0, .ref (bd_ea E 2 w 0)), (1, .ref (bd_ea E 11 w k))]) hx hb dX2_deputyFor_97 hl (by decide) rfl (fun ls hl => ?_)
            refine lv_iload hx hb dX2_deputyFor_99 (lv_at hl 1 rfl) ?_
            refine lv_iload hx hb dX2_deputyFor_101 (lv_at hl 5 rfl) ?_
            refine lv_icmp_gt (tgt := 123) hx hb dX2_deputyFor_103 (by decide) (fun c103 => ?_) (fun c103 => ?_)
            · skip
              refine lv_iconst (v := 1) hx hb dX2_deputyFor_123 (by decide) ?_
              refine lv_goto (tgt := 128) hx hb dX2_deputyFor_124 (by decide) ?_
              refine lv_istore (lv' := [(11, .int 1), (10, .int 0), (9, .int (kx_skill xm w j (xm 10 w k))), (8, .ref (bd_ea E 7 w j)), (7, .int (nI j)), (6, .int ((kx_df xm w k (kx_lim xm w n k) j).2.2)), (5, .int ((kx_df xm w k (kx_lim xm w n k) j).2.1)), (4, .int ((kx_df xm w k (kx_lim xm w n k) j).1)), (3, .int (kx_lim xm w n k)), (0, .ref (bd_ea E 2 w 0)), (1, .ref (bd_ea E 11 w k))]) hx hb dX2_deputyFor_128 hl (by decide) rfl (fun ls hl => ?_)
              refine lv_iload hx hb dX2_deputyFor_130 (lv_at hl 1 rfl) ?_
              refine lv_if_eq (tgt := 155) hx hb dX2_deputyFor_132 (by decide) (fun _ => ?_) (fun q9 => absurd rfl q9)
              refine lv_iinc (v := nI (j + 1)) (lv' := [(7, .int (nI (j + 1))), (11, .int 1), (10, .int 0), (9, .int (kx_skill xm w j (xm 10 w k))), (8, .ref (bd_ea E 7 w j)), (6, .int ((kx_df xm w k (kx_lim xm w n k) j).2.2)), (5, .int ((kx_df xm w k (kx_lim xm w n k) j).2.1)), (4, .int ((kx_df xm w k (kx_lim xm w n k) j).1)), (3, .int (kx_lim xm w n k)), (0, .ref (bd_ea E 2 w 0)), (1, .ref (bd_ea E 11 w k))]) hx hb dX2_deputyFor_155 hl (k := 4) rfl (nI_1 j) (by decide) rfl (fun ls hl => ?_)
              refine lv_goto (tgt := 43) hx hb dX2_deputyFor_158 (by decide) ?_
              exact ih2 (j + 1) (by omega) (by omega) _ _ (hR.eq rfl rfl) hS _ (by rw [show ((kx_df xm w k (kx_lim xm w n k) (j + 1)).2.2 : Int32) = (kx_df xm w k (kx_lim xm w n k) j).2.2 from (by first | (simp (config := { decide := true }) only [kx_df, eq_false o8, eq_false c52, eq_false nc52, eq_false c83, eq_true c103, ↓reduceIte, not_true_eq_false, not_false_eq_true, and_self, and_true, true_and, and_false, false_and]; done) | rfl)]; rw [show ((kx_df xm w k (kx_lim xm w n k) (j + 1)).2.1 : Int32) = (kx_df xm w k (kx_lim xm w n k) j).2.1 from (by first | (simp (config := { decide := true }) only [kx_df, eq_false o8, eq_false c52, eq_false nc52, eq_false c83, eq_true c103, ↓reduceIte, not_true_eq_false, not_false_eq_true, and_self, and_true, true_and, and_false, false_and]; done) | rfl)]; rw [show ((kx_df xm w k (kx_lim xm w n k) (j + 1)).1 : Int32) = (kx_df xm w k (kx_lim xm w n k) j).1 from (by first | (simp (config := { decide := true }) only [kx_df, eq_false o8, eq_false c52, eq_false nc52, eq_false c83, eq_true c103, ↓reduceIte, not_true_eq_false, not_false_eq_true, and_self, and_true, true_and, and_false, false_and]; done) | rfl)]; exact lv_sub hl [0, 5, 6, 7, 8, 9, 10] rfl)
            · skip
              refine lv_iload hx hb dX2_deputyFor_106 (lv_at hl 1 rfl) ?_
              refine lv_iload hx hb dX2_deputyFor_108 (lv_at hl 5 rfl) ?_
              refine lv_icmp_ne (tgt := 127) hx hb dX2_deputyFor_110 (by decide) (fun c110 => ?_) (fun c110 => ?_)
              · skip
                refine lv_iconst (v := 0) hx hb dX2_deputyFor_127 (by decide) ?_
                refine lv_istore (lv' := [(11, .int 0), (10, .int 0), (9, .int (kx_skill xm w j (xm 10 w k))), (8, .ref (bd_ea E 7 w j)), (7, .int (nI j)), (6, .int ((kx_df xm w k (kx_lim xm w n k) j).2.2)), (5, .int ((kx_df xm w k (kx_lim xm w n k) j).2.1)), (4, .int ((kx_df xm w k (kx_lim xm w n k) j).1)), (3, .int (kx_lim xm w n k)), (0, .ref (bd_ea E 2 w 0)), (1, .ref (bd_ea E 11 w k))]) hx hb dX2_deputyFor_128 hl (by decide) rfl (fun ls hl => ?_)
                refine lv_iload hx hb dX2_deputyFor_130 (lv_at hl 1 rfl) ?_
                refine lv_if_eq (tgt := 155) hx hb dX2_deputyFor_132 (by decide) (fun _ => ?_) (fun q9 => absurd rfl q9)
                refine lv_iinc (v := nI (j + 1)) (lv' := [(7, .int (nI (j + 1))), (11, .int 0), (10, .int 0), (9, .int (kx_skill xm w j (xm 10 w k))), (8, .ref (bd_ea E 7 w j)), (6, .int ((kx_df xm w k (kx_lim xm w n k) j).2.2)), (5, .int ((kx_df xm w k (kx_lim xm w n k) j).2.1)), (4, .int ((kx_df xm w k (kx_lim xm w n k) j).1)), (3, .int (kx_lim xm w n k)), (0, .ref (bd_ea E 2 w 0)), (1, .ref (bd_ea E 11 w k))]) hx hb dX2_deputyFor_155 hl (k := 4) rfl (nI_1 j) (by decide) rfl (fun ls hl => ?_)
                refine lv_goto (tgt := 43) hx hb dX2_deputyFor_158 (by decide) ?_
                exact ih2 (j + 1) (by omega) (by omega) _ _ (hR.eq rfl rfl) hS _ (by rw [show ((kx_df xm w k (kx_lim xm w n k) (j + 1)).2.2 : Int32) = (kx_df xm w k (kx_lim xm w n k) j).2.2 from (by first | (simp (config := { decide := true }) only [kx_df, eq_false o8, eq_false c52, eq_false nc52, eq_false c83, eq_false c103, eq_false c110, ↓reduceIte, not_true_eq_false, not_false_eq_true, and_self, and_true, true_and, and_false, false_and]; done) | rfl)]; rw [show ((kx_df xm w k (kx_lim xm w n k) (j + 1)).2.1 : Int32) = (kx_df xm w k (kx_lim xm w n k) j).2.1 from (by first | (simp (config := { decide := true }) only [kx_df, eq_false o8, eq_false c52, eq_false nc52, eq_false c83, eq_false c103, eq_false c110, ↓reduceIte, not_true_eq_false, not_false_eq_true, and_self, and_true, true_and, and_false, false_and]; done) | rfl)]; rw [show ((kx_df xm w k (kx_lim xm w n k) (j + 1)).1 : Int32) = (kx_df xm w k (kx_lim xm w n k) j).1 from (by first | (simp (config := { decide := true }) only [kx_df, eq_false o8, eq_false c52, eq_false nc52, eq_false c83, eq_false c103, eq_false c110, ↓reduceIte, not_true_eq_false, not_false_eq_true, and_self, and_true, true_and, and_false, false_and]; done) | rfl)]; exact lv_sub hl [0, 5, 6, 7, 8, 9, 10] rfl)
              · skip
                refine lv_aload hx hb dX2_deputyFor_113 (lv_at hl 2 rfl) ?_
                refine bd_g_X3_tired C hR (by omega) (by omega) qf_X2_168 dX2_deputyFor_115 ?_
                refine lv_iload hx hb dX2_deputyFor_118 (lv_at hl 4 rfl) ?_
                refine lv_icmp_ge (tgt := 127) hx hb dX2_deputyFor_120 (by decide) (fun c120 => ?_) (fun c120 => ?_)
                · skip
                  refine lv_iconst (v := 0) hx hb dX2_deputyFor_127 (by decide) ?_
                  refine lv_istore (lv' := [(11, .int 0), (10, .int 0), (9, .int (kx_skill xm w j (xm 10 w k))), (8, .ref (bd_ea E 7 w j)), (7, .int (nI j)), (6, .int ((kx_df xm w k (kx_lim xm w n k) j).2.2)), (5, .int ((kx_df xm w k (kx_lim xm w n k) j).2.1)), (4, .int ((kx_df xm w k (kx_lim xm w n k) j).1)), (3, .int (kx_lim xm w n k)), (0, .ref (bd_ea E 2 w 0)), (1, .ref (bd_ea E 11 w k))]) hx hb dX2_deputyFor_128 hl (by decide) rfl (fun ls hl => ?_)
                  refine lv_iload hx hb dX2_deputyFor_130 (lv_at hl 1 rfl) ?_
                  refine lv_if_eq (tgt := 155) hx hb dX2_deputyFor_132 (by decide) (fun _ => ?_) (fun q9 => absurd rfl q9)
                  refine lv_iinc (v := nI (j + 1)) (lv' := [(7, .int (nI (j + 1))), (11, .int 0), (10, .int 0), (9, .int (kx_skill xm w j (xm 10 w k))), (8, .ref (bd_ea E 7 w j)), (6, .int ((kx_df xm w k (kx_lim xm w n k) j).2.2)), (5, .int ((kx_df xm w k (kx_lim xm w n k) j).2.1)), (4, .int ((kx_df xm w k (kx_lim xm w n k) j).1)), (3, .int (kx_lim xm w n k)), (0, .ref (bd_ea E 2 w 0)), (1, .ref (bd_ea E 11 w k))]) hx hb dX2_deputyFor_155 hl (k := 4) rfl (nI_1 j) (by decide) rfl (fun ls hl => ?_)
                  refine lv_goto (tgt := 43) hx hb dX2_deputyFor_158 (by decide) ?_
                  exact ih2 (j + 1) (by omega) (by omega) _ _ (hR.eq rfl rfl) hS _ (by rw [show ((kx_df xm w k (kx_lim xm w n k) (j + 1)).2.2 : Int32) = (kx_df xm w k (kx_lim xm w n k) j).2.2 from (by first | (simp (config := { decide := true }) only [kx_df, eq_false o8, eq_false c52, eq_false nc52, eq_false c83, eq_false c103, eq_true c110, eq_true c120, ↓reduceIte, not_true_eq_false, not_false_eq_true, and_self, and_true, true_and, and_false, false_and]; done) | rfl)]; rw [show ((kx_df xm w k (kx_lim xm w n k) (j + 1)).2.1 : Int32) = (kx_df xm w k (kx_lim xm w n k) j).2.1 from (by first | (simp (config := { decide := true }) only [kx_df, eq_false o8, eq_false c52, eq_false nc52, eq_false c83, eq_false c103, eq_true c110, eq_true c120, ↓reduceIte, not_true_eq_false, not_false_eq_true, and_self, and_true, true_and, and_false, false_and]; done) | rfl)]; rw [show ((kx_df xm w k (kx_lim xm w n k) (j + 1)).1 : Int32) = (kx_df xm w k (kx_lim xm w n k) j).1 from (by first | (simp (config := { decide := true }) only [kx_df, eq_false o8, eq_false c52, eq_false nc52, eq_false c83, eq_false c103, eq_true c110, eq_true c120, ↓reduceIte, not_true_eq_false, not_false_eq_true, and_self, and_true, true_and, and_false, false_and]; done) | rfl)]; exact lv_sub hl [0, 5, 6, 7, 8, 9, 10] rfl)
                · skip
                  refine lv_iconst (v := 1) hx hb dX2_deputyFor_123 (by decide) ?_
                  refine lv_goto (tgt := 128) hx hb dX2_deputyFor_124 (by decide) ?_
                  refine lv_istore (lv' := [(11, .int 1), (10, .int 0), (9, .int (kx_skill xm w j (xm 10 w k))), (8, .ref (bd_ea E 7 w j)), (7, .int (nI j)), (6, .int ((kx_df xm w k (kx_lim xm w n k) j).2.2)), (5, .int ((kx_df xm w k (kx_lim xm w n k) j).2.1)), (4, .int ((kx_df xm w k (kx_lim xm w n k) j).1)), (3, .int (kx_lim xm w n k)), (0, .ref (bd_ea E 2 w 0)), (1, .ref (bd_ea E 11 w k))]) hx hb dX2_deputyFor_128 hl (by decide) rfl (fun ls hl => ?_)
                  refine lv_iload hx hb dX2_deputyFor_130 (lv_at hl 1 rfl) ?_
                  refine lv_if_eq (tgt := 155) hx hb dX2_deputyFor_132 (by decide) (fun _ => ?_) (fun q9 => absurd rfl q9)
                  refine lv_iinc (v := nI (j + 1)) (lv' := [(7, .int (nI (j + 1))), (11, .int 1), (10, .int 0), (9, .int (kx_skill xm w j (xm 10 w k))), (8, .ref (bd_ea E 7 w j)), (6, .int ((kx_df xm w k (kx_lim xm w n k) j).2.2)), (5, .int ((kx_df xm w k (kx_lim xm w n k) j).2.1)), (4, .int ((kx_df xm w k (kx_lim xm w n k) j).1)), (3, .int (kx_lim xm w n k)), (0, .ref (bd_ea E 2 w 0)), (1, .ref (bd_ea E 11 w k))]) hx hb dX2_deputyFor_155 hl (k := 4) rfl (nI_1 j) (by decide) rfl (fun ls hl => ?_)
                  refine lv_goto (tgt := 43) hx hb dX2_deputyFor_158 (by decide) ?_
                  exact ih2 (j + 1) (by omega) (by omega) _ _ (hR.eq rfl rfl) hS _ (by rw [show ((kx_df xm w k (kx_lim xm w n k) (j + 1)).2.2 : Int32) = (kx_df xm w k (kx_lim xm w n k) j).2.2 from (by first | (simp (config := { decide := true }) only [kx_df, eq_false o8, eq_false c52, eq_false nc52, eq_false c83, eq_false c103, eq_true c110, eq_false c120, ↓reduceIte, not_true_eq_false, not_false_eq_true, and_self, and_true, true_and, and_false, false_and]; done) | rfl)]; rw [show ((kx_df xm w k (kx_lim xm w n k) (j + 1)).2.1 : Int32) = (kx_df xm w k (kx_lim xm w n k) j).2.1 from (by first | (simp (config := { decide := true }) only [kx_df, eq_false o8, eq_false c52, eq_false nc52, eq_false c83, eq_false c103, eq_true c110, eq_false c120, ↓reduceIte, not_true_eq_false, not_false_eq_true, and_self, and_true, true_and, and_false, false_and]; done) | rfl)]; rw [show ((kx_df xm w k (kx_lim xm w n k) (j + 1)).1 : Int32) = (kx_df xm w k (kx_lim xm w n k) j).1 from (by first | (simp (config := { decide := true }) only [kx_df, eq_false o8, eq_false c52, eq_false nc52, eq_false c83, eq_false c103, eq_true c110, eq_false c120, ↓reduceIte, not_true_eq_false, not_false_eq_true, and_self, and_true, true_and, and_false, false_and]; done) | rfl)]; exact lv_sub hl [0, 5, 6, 7, 8, 9, 10] rfl)
          · skip
            refine lv_iload hx hb dX2_deputyFor_86 (lv_at hl 0 rfl) ?_
            refine lv_iload_n hx hb dX2_deputyFor_88 rfl (lv_at hl 6 rfl) ?_
            refine lv_icmp_gt (tgt := 96) hx hb dX2_deputyFor_89 (by decide) (fun c89 => ?_) (fun c89 => ?_)
            · skip
              refine lv_iconst (v := 0) hx hb dX2_deputyFor_96 (by decide) ?_
              refine lv_istore (lv' := [(10, .int 0), (9, .int (kx_skill xm w j (xm 10 w k))), (8, .ref (bd_ea E 7 w j)), (7, .int (nI j)), (6, .int ((kx_df xm w k (kx_lim xm w n k) j).2.2)), (5, .int ((kx_df xm w k (kx_lim xm w n k) j).2.1)), (4, .int ((kx_df xm w k (kx_lim xm w n k) j).1)), (3, .int (kx_lim xm w n k)), (0, .ref (bd_ea E 2 w 0)), (1, .ref (bd_ea E 11 w k))]) hx hb dX2_deputyFor_97 hl (by decide) rfl (fun ls hl => ?_)
              refine lv_iload hx hb dX2_deputyFor_99 (lv_at hl 1 rfl) ?_
              refine lv_iload hx hb dX2_deputyFor_101 (lv_at hl 5 rfl) ?_
              refine lv_icmp_gt (tgt := 123) hx hb dX2_deputyFor_103 (by decide) (fun c103 => ?_) (fun c103 => ?_)
              · skip
                refine lv_iconst (v := 1) hx hb dX2_deputyFor_123 (by decide) ?_
                refine lv_goto (tgt := 128) hx hb dX2_deputyFor_124 (by decide) ?_
                refine lv_istore (lv' := [(11, .int 1), (10, .int 0), (9, .int (kx_skill xm w j (xm 10 w k))), (8, .ref (bd_ea E 7 w j)), (7, .int (nI j)), (6, .int ((kx_df xm w k (kx_lim xm w n k) j).2.2)), (5, .int ((kx_df xm w k (kx_lim xm w n k) j).2.1)), (4, .int ((kx_df xm w k (kx_lim xm w n k) j).1)), (3, .int (kx_lim xm w n k)), (0, .ref (bd_ea E 2 w 0)), (1, .ref (bd_ea E 11 w k))]) hx hb dX2_deputyFor_128 hl (by decide) rfl (fun ls hl => ?_)
                refine lv_iload hx hb dX2_deputyFor_130 (lv_at hl 1 rfl) ?_
                refine lv_if_eq (tgt := 155) hx hb dX2_deputyFor_132 (by decide) (fun _ => ?_) (fun q9 => absurd rfl q9)
                refine lv_iinc (v := nI (j + 1)) (lv' := [(7, .int (nI (j + 1))), (11, .int 1), (10, .int 0), (9, .int (kx_skill xm w j (xm 10 w k))), (8, .ref (bd_ea E 7 w j)), (6, .int ((kx_df xm w k (kx_lim xm w n k) j).2.2)), (5, .int ((kx_df xm w k (kx_lim xm w n k) j).2.1)), (4, .int ((kx_df xm w k (kx_lim xm w n k) j).1)), (3, .int (kx_lim xm w n k)), (0, .ref (bd_ea E 2 w 0)), (1, .ref (bd_ea E 11 w k))]) hx hb dX2_deputyFor_155 hl (k := 4) rfl (nI_1 j) (by decide) rfl (fun ls hl => ?_)
                refine lv_goto (tgt := 43) hx hb dX2_deputyFor_158 (by decide) ?_
                exact ih2 (j + 1) (by omega) (by omega) _ _ (hR.eq rfl rfl) hS _ (by rw [show ((kx_df xm w k (kx_lim xm w n k) (j + 1)).2.2 : Int32) = (kx_df xm w k (kx_lim xm w n k) j).2.2 from (by first | (simp (config := { decide := true }) only [kx_df, eq_false o8, eq_false c52, eq_false nc52, eq_true c83, eq_true c89, eq_true c103, ↓reduceIte, not_true_eq_false, not_false_eq_true, and_self, and_true, true_and, and_false, false_and]; done) | rfl)]; rw [show ((kx_df xm w k (kx_lim xm w n k) (j + 1)).2.1 : Int32) = (kx_df xm w k (kx_lim xm w n k) j).2.1 from (by first | (simp (config := { decide := true }) only [kx_df, eq_false o8, eq_false c52, eq_false nc52, eq_true c83, eq_true c89, eq_true c103, ↓reduceIte, not_true_eq_false, not_false_eq_true, and_self, and_true, true_and, and_false, false_and]; done) | rfl)]; rw [show ((kx_df xm w k (kx_lim xm w n k) (j + 1)).1 : Int32) = (kx_df xm w k (kx_lim xm w n k) j).1 from (by first | (simp (config := { decide := true }) only [kx_df, eq_false o8, eq_false c52, eq_false nc52, eq_true c83, eq_true c89, eq_true c103, ↓reduceIte, not_true_eq_false, not_false_eq_true, and_self, and_true, true_and, and_false, false_and]; done) | rfl)]; exact lv_sub hl [0, 5, 6, 7, 8, 9, 10] rfl)
              · skip
                refine lv_iload hx hb dX2_deputyFor_106 (lv_at hl 1 rfl) ?_
                refine lv_iload hx hb dX2_deputyFor_108 (lv_at hl 5 rfl) ?_
                refine lv_icmp_ne (tgt := 127) hx hb dX2_deputyFor_110 (by decide) (fun c110 => ?_) (fun c110 => ?_)
                · skip
                  refine lv_iconst (v := 0) hx hb dX2_deputyFor_127 (by decide) ?_
                  refine lv_istore (lv' := [(11, .int 0), (10, .int 0), (9, .int (kx_skill xm w j (xm 10 w k))), (8, .ref (bd_ea E 7 w j)), (7, .int (nI j)), (6, .int ((kx_df xm w k (kx_lim xm w n k) j).2.2)), (5, .int ((kx_df xm w k (kx_lim xm w n k) j).2.1)), (4, .int ((kx_df xm w k (kx_lim xm w n k) j).1)), (3, .int (kx_lim xm w n k)), (0, .ref (bd_ea E 2 w 0)), (1, .ref (bd_ea E 11 w k))]) hx hb dX2_deputyFor_128 hl (by decide) rfl (fun ls hl => ?_)
                  refine lv_iload hx hb dX2_deputyFor_130 (lv_at hl 1 rfl) ?_
                  refine lv_if_eq (tgt := 155) hx hb dX2_deputyFor_132 (by decide) (fun _ => ?_) (fun q9 => absurd rfl q9)
                  refine lv_iinc (v := nI (j + 1)) (lv' := [(7, .int (nI (j + 1))), (11, .int 0), (10, .int 0), (9, .int (kx_skill xm w j (xm 10 w k))), (8, .ref (bd_ea E 7 w j)), (6, .int ((kx_df xm w k (kx_lim xm w n k) j).2.2)), (5, .int ((kx_df xm w k (kx_lim xm w n k) j).2.1)), (4, .int ((kx_df xm w k (kx_lim xm w n k) j).1)), (3, .int (kx_lim xm w n k)), (0, .ref (bd_ea E 2 w 0)), (1, .ref (bd_ea E 11 w k))]) hx hb dX2_deputyFor_155 hl (k := 4) rfl (nI_1 j) (by decide) rfl (fun ls hl => ?_)
                  refine lv_goto (tgt := 43) hx hb dX2_deputyFor_158 (by decide) ?_
                  exact ih2 (j + 1) (by omega) (by omega) _ _ (hR.eq rfl rfl) hS _ (by rw [show ((kx_df xm w k (kx_lim xm w n k) (j + 1)).2.2 : Int32) = (kx_df xm w k (kx_lim xm w n k) j).2.2 from (by first | (simp (config := { decide := true }) only [kx_df, eq_false o8, eq_false c52, eq_false nc52, eq_true c83, eq_true c89, eq_false c103, eq_false c110, ↓reduceIte, not_true_eq_false, not_false_eq_true, and_self, and_true, true_and, and_false, false_and]; done) | rfl)]; rw [show ((kx_df xm w k (kx_lim xm w n k) (j + 1)).2.1 : Int32) = (kx_df xm w k (kx_lim xm w n k) j).2.1 from (by first | (simp (config := { decide := true }) only [kx_df, eq_false o8, eq_false c52, eq_false nc52, eq_true c83, eq_true c89, eq_false c103, eq_false c110, ↓reduceIte, not_true_eq_false, not_false_eq_true, and_self, and_true, true_and, and_false, false_and]; done) | rfl)]; rw [show ((kx_df xm w k (kx_lim xm w n k) (j + 1)).1 : Int32) = (kx_df xm w k (kx_lim xm w n k) j).1 from (by first | (simp (config := { decide := true }) only [kx_df, eq_false o8, eq_false c52, eq_false nc52, eq_true c83, eq_true c89, eq_false c103, eq_false c110, ↓reduceIte, not_true_eq_false, not_false_eq_true, and_self, and_true, true_and, and_false, false_and]; done) | rfl)]; exact lv_sub hl [0, 5, 6, 7, 8, 9, 10] rfl)
                · skip
                  refine lv_aload hx hb dX2_deputyFor_113 (lv_at hl 2 rfl) ?_
                  refine bd_g_X3_tired C hR (by omega) (by omega) qf_X2_168 dX2_deputyFor_115 ?_
                  refine lv_iload hx hb dX2_deputyFor_118 (lv_at hl 4 rfl) ?_
                  refine lv_icmp_ge (tgt := 127) hx hb dX2_deputyFor_120 (by decide) (fun c120 => ?_) (fun c120 => ?_)
                  · skip
                    refine lv_iconst (v := 0) hx hb dX2_deputyFor_127 (by decide) ?_
                    refine lv_istore (lv' := [(11, .int 0), (10, .int 0), (9, .int (kx_skill xm w j (xm 10 w k))), (8, .ref (bd_ea E 7 w j)), (7, .int (nI j)), (6, .int ((kx_df xm w k (kx_lim xm w n k) j).2.2)), (5, .int ((kx_df xm w k (kx_lim xm w n k) j).2.1)), (4, .int ((kx_df xm w k (kx_lim xm w n k) j).1)), (3, .int (kx_lim xm w n k)), (0, .ref (bd_ea E 2 w 0)), (1, .ref (bd_ea E 11 w k))]) hx hb dX2_deputyFor_128 hl (by decide) rfl (fun ls hl => ?_)
                    refine lv_iload hx hb dX2_deputyFor_130 (lv_at hl 1 rfl) ?_
                    refine lv_if_eq (tgt := 155) hx hb dX2_deputyFor_132 (by decide) (fun _ => ?_) (fun q9 => absurd rfl q9)
                    refine lv_iinc (v := nI (j + 1)) (lv' := [(7, .int (nI (j + 1))), (11, .int 0), (10, .int 0), (9, .int (kx_skill xm w j (xm 10 w k))), (8, .ref (bd_ea E 7 w j)), (6, .int ((kx_df xm w k (kx_lim xm w n k) j).2.2)), (5, .int ((kx_df xm w k (kx_lim xm w n k) j).2.1)), (4, .int ((kx_df xm w k (kx_lim xm w n k) j).1)), (3, .int (kx_lim xm w n k)), (0, .ref (bd_ea E 2 w 0)), (1, .ref (bd_ea E 11 w k))]) hx hb dX2_deputyFor_155 hl (k := 4) rfl (nI_1 j) (by decide) rfl (fun ls hl => ?_)
                    refine lv_goto (tgt := 43) hx hb dX2_deputyFor_158 (by decide) ?_
                    exact ih2 (j + 1) (by omega) (by omega) _ _ (hR.eq rfl rfl) hS _ (by rw [show ((kx_df xm w k (kx_lim xm w n k) (j + 1)).2.2 : Int32) = (kx_df xm w k (kx_lim xm w n k) j).2.2 from (by first | (simp (config := { decide := true }) only [kx_df, eq_false o8, eq_false c52, eq_false nc52, eq_true c83, eq_true c89, eq_false c103, eq_true c110, eq_true c120, ↓reduceIte, not_true_eq_false, not_false_eq_true, and_self, and_true, true_and, and_false, false_and]; done) | rfl)]; rw [show ((kx_df xm w k (kx_lim xm w n k) (j + 1)).2.1 : Int32) = (kx_df xm w k (kx_lim xm w n k) j).2.1 from (by first | (simp (config := { decide := true }) only [kx_df, eq_false o8, eq_false c52, eq_false nc52, eq_true c83, eq_true c89, eq_false c103, eq_true c110, eq_true c120, ↓reduceIte, not_true_eq_false, not_false_eq_true, and_self, and_true, true_and, and_false, false_and]; done) | rfl)]; rw [show ((kx_df xm w k (kx_lim xm w n k) (j + 1)).1 : Int32) = (kx_df xm w k (kx_lim xm w n k) j).1 from (by first | (simp (config := { decide := true }) only [kx_df, eq_false o8, eq_false c52, eq_false nc52, eq_true c83, eq_true c89, eq_false c103, eq_true c110, eq_true c120, ↓reduceIte, not_true_eq_false, not_false_eq_true, and_self, and_true, true_and, and_false, false_and]; done) | rfl)]; exact lv_sub hl [0, 5, 6, 7, 8, 9, 10] rfl)
                  · skip
                    refine lv_iconst (v := 1) hx hb dX2_deputyFor_123 (by decide) ?_
                    refine lv_goto (tgt := 128) hx hb dX2_deputyFor_124 (by decide) ?_
                    refine lv_istore (lv' := [(11, .int 1), (10, .int 0), (9, .int (kx_skill xm w j (xm 10 w k))), (8, .ref (bd_ea E 7 w j)), (7, .int (nI j)), (6, .int ((kx_df xm w k (kx_lim xm w n k) j).2.2)), (5, .int ((kx_df xm w k (kx_lim xm w n k) j).2.1)), (4, .int ((kx_df xm w k (kx_lim xm w n k) j).1)), (3, .int (kx_lim xm w n k)), (0, .ref (bd_ea E 2 w 0)), (1, .ref (bd_ea E 11 w k))]) hx hb dX2_deputyFor_128 hl (by decide) rfl (fun ls hl => ?_)
                    refine lv_iload hx hb dX2_deputyFor_130 (lv_at hl 1 rfl) ?_
                    refine lv_if_eq (tgt := 155) hx hb dX2_deputyFor_132 (by decide) (fun _ => ?_) (fun q9 => absurd rfl q9)
                    refine lv_iinc (v := nI (j + 1)) (lv' := [(7, .int (nI (j + 1))), (11, .int 1), (10, .int 0), (9, .int (kx_skill xm w j (xm 10 w k))), (8, .ref (bd_ea E 7 w j)), (6, .int ((kx_df xm w k (kx_lim xm w n k) j).2.2)), (5, .int ((kx_df xm w k (kx_lim xm w n k) j).2.1)), (4, .int ((kx_df xm w k (kx_lim xm w n k) j).1)), (3, .int (kx_lim xm w n k)), (0, .ref (bd_ea E 2 w 0)), (1, .ref (bd_ea E 11 w k))]) hx hb dX2_deputyFor_155 hl (k := 4) rfl (nI_1 j) (by decide) rfl (fun ls hl => ?_)
                    refine lv_goto (tgt := 43) hx hb dX2_deputyFor_158 (by decide) ?_
                    exact ih2 (j + 1) (by omega) (by omega) _ _ (hR.eq rfl rfl) hS _ (by rw [show ((kx_df xm w k (kx_lim xm w n k) (j + 1)).2.2 : Int32) = (kx_df xm w k (kx_lim xm w n k) j).2.2 from (by first | (simp (config := { decide := true }) only [kx_df, eq_false o8, eq_false c52, eq_false nc52, eq_true c83, eq_true c89, eq_false c103, eq_true c110, eq_false c120, ↓reduceIte, not_true_eq_false, not_false_eq_true, and_self, and_true, true_and, and_false, false_and]; done) | rfl)]; rw [show ((kx_df xm w k (kx_lim xm w n k) (j + 1)).2.1 : Int32) = (kx_df xm w k (kx_lim xm w n k) j).2.1 from (by first | (simp (config := { decide := true }) only [kx_df, eq_false o8, eq_false c52, eq_false nc52, eq_true c83, eq_true c89, eq_false c103, eq_true c110, eq_false c120, ↓reduceIte, not_true_eq_false, not_false_eq_true, and_self, and_true, true_and, and_false, false_and]; done) | rfl)]; rw [show ((kx_df xm w k (kx_lim xm w n k) (j + 1)).1 : Int32) = (kx_df xm w k (kx_lim xm w n k) j).1 from (by first | (simp (config := { decide := true }) only [kx_df, eq_false o8, eq_false c52, eq_false nc52, eq_true c83, eq_true c89, eq_false c103, eq_true c110, eq_false c120, ↓reduceIte, not_true_eq_false, not_false_eq_true, and_self, and_true, true_and, and_false, false_and]; done) | rfl)]; exact lv_sub hl [0, 5, 6, 7, 8, 9, 10] rfl)
            · skip
              refine lv_iconst (v := 1) hx hb dX2_deputyFor_92 (by decide) ?_
              refine lv_goto (tgt := 97) hx hb dX2_deputyFor_93 (by decide) ?_
              refine lv_istore (lv' := [(10, .int 1), (9, .int (kx_skill xm w j (xm 10 w k))), (8, .ref (bd_ea E 7 w j)), (7, .int (nI j)), (6, .int ((kx_df xm w k (kx_lim xm w n k) j).2.2)), (5, .int ((kx_df xm w k (kx_lim xm w n k) j).2.1)), (4, .int ((kx_df xm w k (kx_lim xm w n k) j).1)), (3, .int (kx_lim xm w n k)), (0, .ref (bd_ea E 2 w 0)), (1, .ref (bd_ea E 11 w k))]) hx hb dX2_deputyFor_97 hl (by decide) rfl (fun ls hl => ?_)
              refine lv_iload hx hb dX2_deputyFor_99 (lv_at hl 1 rfl) ?_
              refine lv_iload hx hb dX2_deputyFor_101 (lv_at hl 5 rfl) ?_
              refine lv_icmp_gt (tgt := 123) hx hb dX2_deputyFor_103 (by decide) (fun c103 => ?_) (fun c103 => ?_)
              · skip
                refine lv_iconst (v := 1) hx hb dX2_deputyFor_123 (by decide) ?_
                refine lv_goto (tgt := 128) hx hb dX2_deputyFor_124 (by decide) ?_
                refine lv_istore (lv' := [(11, .int 1), (10, .int 1), (9, .int (kx_skill xm w j (xm 10 w k))), (8, .ref (bd_ea E 7 w j)), (7, .int (nI j)), (6, .int ((kx_df xm w k (kx_lim xm w n k) j).2.2)), (5, .int ((kx_df xm w k (kx_lim xm w n k) j).2.1)), (4, .int ((kx_df xm w k (kx_lim xm w n k) j).1)), (3, .int (kx_lim xm w n k)), (0, .ref (bd_ea E 2 w 0)), (1, .ref (bd_ea E 11 w k))]) hx hb dX2_deputyFor_128 hl (by decide) rfl (fun ls hl => ?_)
                refine lv_iload hx hb dX2_deputyFor_130 (lv_at hl 1 rfl) ?_
                refine lv_if_eq (tgt := 155) hx hb dX2_deputyFor_132 (by decide) (fun c132 => ?_) (fun c132 => ?_)
                · exact absurd c132 (by decide)
                · skip
                  refine lv_iload hx hb dX2_deputyFor_135 (lv_at hl 0 rfl) ?_
                  refine lv_if_eq (tgt := 155) hx hb dX2_deputyFor_137 (by decide) (fun q9 => absurd q9 c132) (fun _ => ?_)
                  refine lv_iload hx hb dX2_deputyFor_140 (lv_at hl 4 rfl) ?_
                  refine lv_istore (lv' := [(4, .int (nI j)), (11, .int 1), (10, .int 1), (9, .int (kx_skill xm w j (xm 10 w k))), (8, .ref (bd_ea E 7 w j)), (7, .int (nI j)), (6, .int ((kx_df xm w k (kx_lim xm w n k) j).2.2)), (5, .int ((kx_df xm w k (kx_lim xm w n k) j).2.1)), (3, .int (kx_lim xm w n k)), (0, .ref (bd_ea E 2 w 0)), (1, .ref (bd_ea E 11 w k))]) hx hb dX2_deputyFor_142 hl (by decide) rfl (fun ls hl => ?_)
                  refine lv_iload hx hb dX2_deputyFor_144 (lv_at hl 3 rfl) ?_
                  refine lv_istore (lv' := [(5, .int (kx_skill xm w j (xm 10 w k))), (4, .int (nI j)), (11, .int 1), (10, .int 1), (9, .int (kx_skill xm w j (xm 10 w k))), (8, .ref (bd_ea E 7 w j)), (7, .int (nI j)), (6, .int ((kx_df xm w k (kx_lim xm w n k) j).2.2)), (3, .int (kx_lim xm w n k)), (0, .ref (bd_ea E 2 w 0)), (1, .ref (bd_ea E 11 w k))]) hx hb dX2_deputyFor_146 hl (by decide) rfl (fun ls hl => ?_)
                  refine lv_aload hx hb dX2_deputyFor_148 (lv_at hl 5 rfl) ?_
                  refine bd_g_X3_tired C hR (by omega) (by omega) qf_X2_168 dX2_deputyFor_150 ?_
                  refine lv_istore (lv' := [(6, .int (xm 0 w j)), (5, .int (kx_skill xm w j (xm 10 w k))), (4, .int (nI j)), (11, .int 1), (10, .int 1), (9, .int (kx_skill xm w j (xm 10 w k))), (8, .ref (bd_ea E 7 w j)), (7, .int (nI j)), (3, .int (kx_lim xm w n k)), (0, .ref (bd_ea E 2 w 0)), (1, .ref (bd_ea E 11 w k))]) hx hb dX2_deputyFor_153 hl (by decide) rfl (fun ls hl => ?_)
                  refine lv_iinc (v := nI (j + 1)) (lv' := [(7, .int (nI (j + 1))), (6, .int (xm 0 w j)), (5, .int (kx_skill xm w j (xm 10 w k))), (4, .int (nI j)), (11, .int 1), (10, .int 1), (9, .int (kx_skill xm w j (xm 10 w k))), (8, .ref (bd_ea E 7 w j)), (3, .int (kx_lim xm w n k)), (0, .ref (bd_ea E 2 w 0)), (1, .ref (bd_ea E 11 w k))]) hx hb dX2_deputyFor_155 hl (k := 7) rfl (nI_1 j) (by decide) rfl (fun ls hl => ?_)
                  refine lv_goto (tgt := 43) hx hb dX2_deputyFor_158 (by decide) ?_
                  exact ih2 (j + 1) (by omega) (by omega) _ _ (hR.eq rfl rfl) hS _ (by rw [show ((kx_df xm w k (kx_lim xm w n k) (j + 1)).2.2 : Int32) = xm 0 w j from (by first | (simp (config := { decide := true }) only [kx_df, eq_false o8, eq_false c52, eq_false nc52, eq_true c83, eq_false c89, eq_true c103, eq_false c132, ↓reduceIte, not_true_eq_false, not_false_eq_true, and_self, and_true, true_and, and_false, false_and]; done) | rfl)]; rw [show ((kx_df xm w k (kx_lim xm w n k) (j + 1)).2.1 : Int32) = kx_skill xm w j (xm 10 w k) from (by first | (simp (config := { decide := true }) only [kx_df, eq_false o8, eq_false c52, eq_false nc52, eq_true c83, eq_false c89, eq_true c103, eq_false c132, ↓reduceIte, not_true_eq_false, not_false_eq_true, and_self, and_true, true_and, and_false, false_and]; done) | rfl)]; rw [show ((kx_df xm w k (kx_lim xm w n k) (j + 1)).1 : Int32) = nI j from (by first | (simp (config := { decide := true }) only [kx_df, eq_false o8, eq_false c52, eq_false nc52, eq_true c83, eq_false c89, eq_true c103, eq_false c132, ↓reduceIte, not_true_eq_false, not_false_eq_true, and_self, and_true, true_and, and_false, false_and]; done) | rfl)]; exact lv_sub hl [0, 1, 2, 3, 8, 9, 10] rfl)
              · skip
                refine lv_iload hx hb dX2_deputyFor_106 (lv_at hl 1 rfl) ?_
                refine lv_iload hx hb dX2_deputyFor_108 (lv_at hl 5 rfl) ?_
                refine lv_icmp_ne (tgt := 127) hx hb dX2_deputyFor_110 (by decide) (fun c110 => ?_) (fun c110 => ?_)
                · skip
                  refine lv_iconst (v := 0) hx hb dX2_deputyFor_127 (by decide) ?_
                  refine lv_istore (lv' := [(11, .int 0), (10, .int 1), (9, .int (kx_skill xm w j (xm 10 w k))), (8, .ref (bd_ea E 7 w j)), (7, .int (nI j)), (6, .int ((kx_df xm w k (kx_lim xm w n k) j).2.2)), (5, .int ((kx_df xm w k (kx_lim xm w n k) j).2.1)), (4, .int ((kx_df xm w k (kx_lim xm w n k) j).1)), (3, .int (kx_lim xm w n k)), (0, .ref (bd_ea E 2 w 0)), (1, .ref (bd_ea E 11 w k))]) hx hb dX2_deputyFor_128 hl (by decide) rfl (fun ls hl => ?_)
                  refine lv_iload hx hb dX2_deputyFor_130 (lv_at hl 1 rfl) ?_
                  refine lv_if_eq (tgt := 155) hx hb dX2_deputyFor_132 (by decide) (fun c132 => ?_) (fun c132 => ?_)
                  · exact absurd c132 (by decide)
                  · skip
                    refine lv_iload hx hb dX2_deputyFor_135 (lv_at hl 0 rfl) ?_
                    refine lv_if_eq (tgt := 155) hx hb dX2_deputyFor_137 (by decide) (fun _ => ?_) (fun q9 => absurd rfl q9)
                    refine lv_iinc (v := nI (j + 1)) (lv' := [(7, .int (nI (j + 1))), (11, .int 0), (10, .int 1), (9, .int (kx_skill xm w j (xm 10 w k))), (8, .ref (bd_ea E 7 w j)), (6, .int ((kx_df xm w k (kx_lim xm w n k) j).2.2)), (5, .int ((kx_df xm w k (kx_lim xm w n k) j).2.1)), (4, .int ((kx_df xm w k (kx_lim xm w n k) j).1)), (3, .int (kx_lim xm w n k)), (0, .ref (bd_ea E 2 w 0)), (1, .ref (bd_ea E 11 w k))]) hx hb dX2_deputyFor_155 hl (k := 4) rfl (nI_1 j) (by decide) rfl (fun ls hl => ?_)
                    refine lv_goto (tgt := 43) hx hb dX2_deputyFor_158 (by decide) ?_
                    exact ih2 (j + 1) (by omega) (by omega) _ _ (hR.eq rfl rfl) hS _ (by rw [show ((kx_df xm w k (kx_lim xm w n k) (j + 1)).2.2 : Int32) = (kx_df xm w k (kx_lim xm w n k) j).2.2 from (by first | (simp (config := { decide := true }) only [kx_df, eq_false o8, eq_false c52, eq_false nc52, eq_true c83, eq_false c89, eq_false c103, eq_false c110, eq_false c132, ↓reduceIte, not_true_eq_false, not_false_eq_true, and_self, and_true, true_and, and_false, false_and]; done) | rfl)]; rw [show ((kx_df xm w k (kx_lim xm w n k) (j + 1)).2.1 : Int32) = (kx_df xm w k (kx_lim xm w n k) j).2.1 from (by first | (simp (config := { decide := true }) only [kx_df, eq_false o8, eq_false c52, eq_false nc52, eq_true c83, eq_false c89, eq_false c103, eq_false c110, eq_false c132, ↓reduceIte, not_true_eq_false, not_false_eq_true, and_self, and_true, true_and, and_false, false_and]; done) | rfl)]; rw [show ((kx_df xm w k (kx_lim xm w n k) (j + 1)).1 : Int32) = (kx_df xm w k (kx_lim xm w n k) j).1 from (by first | (simp (config := { decide := true }) only [kx_df, eq_false o8, eq_false c52, eq_false nc52, eq_true c83, eq_false c89, eq_false c103, eq_false c110, eq_false c132, ↓reduceIte, not_true_eq_false, not_false_eq_true, and_self, and_true, true_and, and_false, false_and]; done) | rfl)]; exact lv_sub hl [0, 5, 6, 7, 8, 9, 10] rfl)
                · skip
                  refine lv_aload hx hb dX2_deputyFor_113 (lv_at hl 2 rfl) ?_
                  refine bd_g_X3_tired C hR (by omega) (by omega) qf_X2_168 dX2_deputyFor_115 ?_
                  refine lv_iload hx hb dX2_deputyFor_118 (lv_at hl 4 rfl) ?_
                  refine lv_icmp_ge (tgt := 127) hx hb dX2_deputyFor_120 (by decide) (fun c120 => ?_) (fun c120 => ?_)
                  · skip
                    refine lv_iconst (v := 0) hx hb dX2_deputyFor_127 (by decide) ?_
                    refine lv_istore (lv' := [(11, .int 0), (10, .int 1), (9, .int (kx_skill xm w j (xm 10 w k))), (8, .ref (bd_ea E 7 w j)), (7, .int (nI j)), (6, .int ((kx_df xm w k (kx_lim xm w n k) j).2.2)), (5, .int ((kx_df xm w k (kx_lim xm w n k) j).2.1)), (4, .int ((kx_df xm w k (kx_lim xm w n k) j).1)), (3, .int (kx_lim xm w n k)), (0, .ref (bd_ea E 2 w 0)), (1, .ref (bd_ea E 11 w k))]) hx hb dX2_deputyFor_128 hl (by decide) rfl (fun ls hl => ?_)
                    refine lv_iload hx hb dX2_deputyFor_130 (lv_at hl 1 rfl) ?_
                    refine lv_if_eq (tgt := 155) hx hb dX2_deputyFor_132 (by decide) (fun c132 => ?_) (fun c132 => ?_)
                    · exact absurd c132 (by decide)
                    · skip
                      refine lv_iload hx hb dX2_deputyFor_135 (lv_at hl 0 rfl) ?_
                      refine lv_if_eq (tgt := 155) hx hb dX2_deputyFor_137 (by decide) (fun _ => ?_) (fun q9 => absurd rfl q9)
                      refine lv_iinc (v := nI (j + 1)) (lv' := [(7, .int (nI (j + 1))), (11, .int 0), (10, .int 1), (9, .int (kx_skill xm w j (xm 10 w k))), (8, .ref (bd_ea E 7 w j)), (6, .int ((kx_df xm w k (kx_lim xm w n k) j).2.2)), (5, .int ((kx_df xm w k (kx_lim xm w n k) j).2.1)), (4, .int ((kx_df xm w k (kx_lim xm w n k) j).1)), (3, .int (kx_lim xm w n k)), (0, .ref (bd_ea E 2 w 0)), (1, .ref (bd_ea E 11 w k))]) hx hb dX2_deputyFor_155 hl (k := 4) rfl (nI_1 j) (by decide) rfl (fun ls hl => ?_)
                      refine lv_goto (tgt := 43) hx hb dX2_deputyFor_158 (by decide) ?_
                      exact ih2 (j + 1) (by omega) (by omega) _ _ (hR.eq rfl rfl) hS _ (by rw [show ((kx_df xm w k (kx_lim xm w n k) (j + 1)).2.2 : Int32) = (kx_df xm w k (kx_lim xm w n k) j).2.2 from (by first | (simp (config := { decide := true }) only [kx_df, eq_false o8, eq_false c52, eq_false nc52, eq_true c83, eq_false c89, eq_false c103, eq_true c110, eq_true c120, eq_false c132, ↓reduceIte, not_true_eq_false, not_false_eq_true, and_self, and_true, true_and, and_false, false_and]; done) | rfl)]; rw [show ((kx_df xm w k (kx_lim xm w n k) (j + 1)).2.1 : Int32) = (kx_df xm w k (kx_lim xm w n k) j).2.1 from (by first | (simp (config := { decide := true }) only [kx_df, eq_false o8, eq_false c52, eq_false nc52, eq_true c83, eq_false c89, eq_false c103, eq_true c110, eq_true c120, eq_false c132, ↓reduceIte, not_true_eq_false, not_false_eq_true, and_self, and_true, true_and, and_false, false_and]; done) | rfl)]; rw [show ((kx_df xm w k (kx_lim xm w n k) (j + 1)).1 : Int32) = (kx_df xm w k (kx_lim xm w n k) j).1 from (by first | (simp (config := { decide := true }) only [kx_df, eq_false o8, eq_false c52, eq_false nc52, eq_true c83, eq_false c89, eq_false c103, eq_true c110, eq_true c120, eq_false c132, ↓reduceIte, not_true_eq_false, not_false_eq_true, and_self, and_true, true_and, and_false, false_and]; done) | rfl)]; exact lv_sub hl [0, 5, 6, 7, 8, 9, 10] rfl)
                  · skip
                    refine lv_iconst (v := 1) hx hb dX2_deputyFor_123 (by decide) ?_
                    refine lv_goto (tgt := 128) hx hb dX2_deputyFor_124 (by decide) ?_
                    refine lv_istore (lv' := [(11, .int 1), (10, .int 1), (9, .int (kx_skill xm w j (xm 10 w k))), (8, .ref (bd_ea E 7 w j)), (7, .int (nI j)), (6, .int ((kx_df xm w k (kx_lim xm w n k) j).2.2)), (5, .int ((kx_df xm w k (kx_lim xm w n k) j).2.1)), (4, .int ((kx_df xm w k (kx_lim xm w n k) j).1)), (3, .int (kx_lim xm w n k)), (0, .ref (bd_ea E 2 w 0)), (1, .ref (bd_ea E 11 w k))]) hx hb dX2_deputyFor_128 hl (by decide) rfl (fun ls hl => ?_)
                    refine lv_iload hx hb dX2_deputyFor_130 (lv_at hl 1 rfl) ?_
                    refine lv_if_eq (tgt := 155) hx hb dX2_deputyFor_132 (by decide) (fun c132 => ?_) (fun c132 => ?_)
                    · exact absurd c132 (by decide)
                    · skip
                      refine lv_iload hx hb dX2_deputyFor_135 (lv_at hl 0 rfl) ?_
                      refine lv_if_eq (tgt := 155) hx hb dX2_deputyFor_137 (by decide) (fun q9 => absurd q9 c132) (fun _ => ?_)
                      refine lv_iload hx hb dX2_deputyFor_140 (lv_at hl 4 rfl) ?_
                      refine lv_istore (lv' := [(4, .int (nI j)), (11, .int 1), (10, .int 1), (9, .int (kx_skill xm w j (xm 10 w k))), (8, .ref (bd_ea E 7 w j)), (7, .int (nI j)), (6, .int ((kx_df xm w k (kx_lim xm w n k) j).2.2)), (5, .int ((kx_df xm w k (kx_lim xm w n k) j).2.1)), (3, .int (kx_lim xm w n k)), (0, .ref (bd_ea E 2 w 0)), (1, .ref (bd_ea E 11 w k))]) hx hb dX2_deputyFor_142 hl (by decide) rfl (fun ls hl => ?_)
                      refine lv_iload hx hb dX2_deputyFor_144 (lv_at hl 3 rfl) ?_
                      refine lv_istore (lv' := [(5, .int (kx_skill xm w j (xm 10 w k))), (4, .int (nI j)), (11, .int 1), (10, .int 1), (9, .int (kx_skill xm w j (xm 10 w k))), (8, .ref (bd_ea E 7 w j)), (7, .int (nI j)), (6, .int ((kx_df xm w k (kx_lim xm w n k) j).2.2)), (3, .int (kx_lim xm w n k)), (0, .ref (bd_ea E 2 w 0)), (1, .ref (bd_ea E 11 w k))]) hx hb dX2_deputyFor_146 hl (by decide) rfl (fun ls hl => ?_)
                      refine lv_aload hx hb dX2_deputyFor_148 (lv_at hl 5 rfl) ?_
                      refine bd_g_X3_tired C hR (by omega) (by omega) qf_X2_168 dX2_deputyFor_150 ?_
                      refine lv_istore (lv' := [(6, .int (xm 0 w j)), (5, .int (kx_skill xm w j (xm 10 w k))), (4, .int (nI j)), (11, .int 1), (10, .int 1), (9, .int (kx_skill xm w j (xm 10 w k))), (8, .ref (bd_ea E 7 w j)), (7, .int (nI j)), (3, .int (kx_lim xm w n k)), (0, .ref (bd_ea E 2 w 0)), (1, .ref (bd_ea E 11 w k))]) hx hb dX2_deputyFor_153 hl (by decide) rfl (fun ls hl => ?_)
                      refine lv_iinc (v := nI (j + 1)) (lv' := [(7, .int (nI (j + 1))), (6, .int (xm 0 w j)), (5, .int (kx_skill xm w j (xm 10 w k))), (4, .int (nI j)), (11, .int 1), (10, .int 1), (9, .int (kx_skill xm w j (xm 10 w k))), (8, .ref (bd_ea E 7 w j)), (3, .int (kx_lim xm w n k)), (0, .ref (bd_ea E 2 w 0)), (1, .ref (bd_ea E 11 w k))]) hx hb dX2_deputyFor_155 hl (k := 7) rfl (nI_1 j) (by decide) rfl (fun ls hl => ?_)
                      refine lv_goto (tgt := 43) hx hb dX2_deputyFor_158 (by decide) ?_
                      exact ih2 (j + 1) (by omega) (by omega) _ _ (hR.eq rfl rfl) hS _ (by rw [show ((kx_df xm w k (kx_lim xm w n k) (j + 1)).2.2 : Int32) = xm 0 w j from (by first | (simp (config := { decide := true }) only [kx_df, eq_false o8, eq_false c52, eq_false nc52, eq_true c83, eq_false c89, eq_false c103, eq_true c110, eq_false c120, eq_false c132, ↓reduceIte, not_true_eq_false, not_false_eq_true, and_self, and_true, true_and, and_false, false_and]; done) | rfl)]; rw [show ((kx_df xm w k (kx_lim xm w n k) (j + 1)).2.1 : Int32) = kx_skill xm w j (xm 10 w k) from (by first | (simp (config := { decide := true }) only [kx_df, eq_false o8, eq_false c52, eq_false nc52, eq_true c83, eq_false c89, eq_false c103, eq_true c110, eq_false c120, eq_false c132, ↓reduceIte, not_true_eq_false, not_false_eq_true, and_self, and_true, true_and, and_false, false_and]; done) | rfl)]; rw [show ((kx_df xm w k (kx_lim xm w n k) (j + 1)).1 : Int32) = nI j from (by first | (simp (config := { decide := true }) only [kx_df, eq_false o8, eq_false c52, eq_false nc52, eq_true c83, eq_false c89, eq_false c103, eq_true c110, eq_false c120, eq_false c132, ↓reduceIte, not_true_eq_false, not_false_eq_true, and_self, and_true, true_and, and_false, false_and]; done) | rfl)]; exact lv_sub hl [0, 1, 2, 3, 8, 9, 10] rfl)
    exact lp2 (n + 1) 0 (by omega) (by omega) _ _ (hR.eq rfl rfl) hS _ (by first | exact lv_sub hl [0, 1, 2, 3, 4, 6, 7] rfl | (rw [show (nI 0 : Int32) = 0 from by first | rfl | decide | simp [nI_0]]; rw [show ((kx_df xm w k (kx_lim xm w n k) 0).2.2 : Int32) = 0 from by first | rfl | decide | simp [nI_0]]; rw [show ((kx_df xm w k (kx_lim xm w n k) 0).2.1 : Int32) = (-1) from by first | rfl | decide | simp [nI_0]]; rw [show ((kx_df xm w k (kx_lim xm w n k) 0).1 : Int32) = (-1) from by first | rfl | decide | simp [nI_0]]; exact lv_sub hl [0, 1, 2, 3, 4, 6, 7] rfl))
set_option maxHeartbeats 4000000 in
set_option maxRecDepth 100000 in
theorem k_X2_seatDeputies (l : Launch) (E : bd_E) (xm ym : bd_M) (om : Nat → Int64) (w : Nat) (n : Nat) (nb : Nat) (z : (Nat→Nat)) (b : Nat) (hw : w < 2) (hs : kx_Sh xm w n nb z) (hb6 : b < 6) : bd_Ct l yX2_seatDeputies cX2_seatDeputies 5 none 2 52 0 0 E [.ref (bd_ea E 2 w 0), .ref (bd_ea E 9 w b)] xm ym om (kx_sd xm w n b (z b)) ym om (none) := by
  refine bd_open RX2 rfl (by decide) (Nat.le_of_ble_eq_true rfl) ?_
  intro p e s m args below meth c ls C hr hlk hS hR hl
  have hx := C.1.1
  have hb := C.1.2.1
  have hs24 := hs.2.1
  have hs6 := hs.2.2.2.1
  have z8 := (hs.2.2.2.2 b (by omega)).2
  have hl : lv_has ls 5 [(0, .ref (bd_ea E 2 w 0)), (1, .ref (bd_ea E 9 w b))] := hl
  refine lv_iconst (v := 0) hx hb dX2_seatDeputies_0 (by decide) ?_
  refine lv_istore_n (lv' := [(2, .int 0), (0, .ref (bd_ea E 2 w 0)), (1, .ref (bd_ea E 9 w b))]) hx hb dX2_seatDeputies_1 rfl hl (by decide) rfl (fun ls hl => ?_)
  have lp1 : ∀ (t1 j : Nat), j ≤ z b → (z b) - j < t1 → ∀ (H : Heap) (locs : List Loc), bd_Rep E (kx_sd xm w n b j) ym om H → va_S (bd_A E) s.heap H locs → ∀ (ls : Array Slot), lv_has ls 5 [(2, .int (nI j)), (0, .ref (bd_ea E 2 w 0)), (1, .ref (bd_ea E 9 w b))] → W p l e { frames := 2, cells := 0, slots := 0, locals := 52 } s m args below meth c H locs 0 0 (MQ below (bd_Q E (kx_sd xm w n b (z b)) ym om (none)) args s 0 0 (bd_A E)) (F0 m 2 ls []) := by
    intro t1
    induction t1 with
    | zero => intro j h1 h2; exact absurd h2 (Nat.not_lt_zero _)
    | succ t1 ih1 =>
      intro j hj1 hj2 H locs hR hS ls hl
      refine lv_iload_n hx hb dX2_seatDeputies_2 rfl (lv_at hl 0 rfl) ?_
      refine lv_aload_n hx hb dX2_seatDeputies_3 rfl (lv_at hl 2 rfl) ?_
      refine bd_g_X0_size C hR (by omega) (by omega) qf_X2_81 dX2_seatDeputies_4 ?_
      have z4 := ((show kx_Sh (kx_sd xm w n b j) w n nb z from (kx_sd_sh hs j)).2.2.2.2 b (by omega)).2
      rw [show (kx_sd xm w n b j) 20 w b = nI (z b) from ((show kx_Sh (kx_sd xm w n b j) w n nb z from (kx_sd_sh hs j)).2.2.2.2 b (by omega)).1]
      refine lv_icmp_ge (tgt := 63) hx hb dX2_seatDeputies_7 (by decide) (fun c7 => ?_) (fun c7 => ?_)
      · skip
        have nc7 : (z b) ≤ j := (nI_leI (a := (z b)) (b := j) (by omega) (by omega)).mp c7
        obtain rfl : z b = j := by omega
        exact bd_rv C hr hlk (hR.eq rfl rfl) hS (Nat.zero_le _) (Nat.zero_le _) dX2_seatDeputies_63
      · skip
        have nc7 : ¬ (z b) ≤ j := fun q9 => c7 ((nI_leI (a := (z b)) (b := j) (by omega) (by omega)).mpr q9)
        refine lv_aload_n hx hb dX2_seatDeputies_10 rfl (lv_at hl 2 rfl) ?_
        refine bd_g_X0_chairs C hR (by omega) (by omega) qf_X2_132 dX2_seatDeputies_11 ?_
        refine lv_iload_n hx hb dX2_seatDeputies_14 rfl (lv_at hl 0 rfl) ?_
        refine bd_ld_10 C hR (by omega) (by omega) (j := j) (by omega) dX2_seatDeputies_15 ?_
        refine lv_astore_n (lv' := [(3, .ref (bd_ea E 11 w (8 * b + j))), (2, .int (nI j)), (0, .ref (bd_ea E 2 w 0)), (1, .ref (bd_ea E 9 w b))]) hx hb dX2_seatDeputies_16 rfl hl (by decide) rfl (fun ls hl => ?_)
        refine lv_aload_n hx hb dX2_seatDeputies_17 rfl (lv_at hl 0 rfl) ?_
        refine bd_cV1 [] [] C (k_X1_isEmpty l E (kx_sd xm w n b j) ym om w (8 * b + j) (by omega) (by omega)) hR hS (bd_recv C.2 hR ⟨by decide, show w < 2 by omega, show 8 * b + j < 48 by omega⟩ rfl rfl) qm_X2_152 qi_X1_isEmpty qs_X1_isEmpty qz_X1 qc_X1_isEmpty qp_X1_isEmpty ⟨Nat.le_of_ble_eq_true rfl, Nat.le_of_ble_eq_true rfl⟩ hl.1 (Nat.le_of_ble_eq_true rfl) dX2_seatDeputies_18 ⟨Nat.le_of_ble_eq_true rfl, Nat.le_of_ble_eq_true rfl⟩ (fun H locs hR hS hz18 => ?_)
        refine bd_ifeq (P := (kx_sd xm w n b j) 12 w (8 * b + j) = (-1)) (tgt := 57) C dX2_seatDeputies_21 (by decide) (fun c21 => ?_) (fun c21 => ?_)
        · skip
          refine lv_iinc (v := nI (j + 1)) (lv' := [(2, .int (nI (j + 1))), (3, .ref (bd_ea E 11 w (8 * b + j))), (0, .ref (bd_ea E 2 w 0)), (1, .ref (bd_ea E 9 w b))]) hx hb dX2_seatDeputies_57 hl (k := 1) rfl (nI_1 j) (by decide) rfl (fun ls hl => ?_)
          refine lv_goto (tgt := 2) hx hb dX2_seatDeputies_60 (by decide) ?_
          exact ih1 (j + 1) (by omega) (by omega) _ _ (hR.eq (by first | (simp (config := { decide := true }) only [kx_sd, kx_sd1, kx_sd2, eq_false c7, eq_false nc7, eq_false c21, ↓reduceIte, not_true_eq_false, not_false_eq_true, and_self, and_true, true_and, and_false, false_and]; done) | rfl) rfl) hS _ (lv_sub hl [0, 2, 3] rfl)
        · skip
          refine lv_aload_n hx hb dX2_seatDeputies_24 rfl (lv_at hl 0 rfl) ?_
          refine lv_aload_n hx hb dX2_seatDeputies_25 rfl (lv_at hl 2 rfl) ?_
          refine lv_aload_n hx hb dX2_seatDeputies_26 rfl (lv_at hl 0 rfl) ?_
          refine bd_cV1 [.ref (bd_ea E 11 w (8 * b + j))] [.ref (bd_ea E 11 w (8 * b + j))] C (k_X2_deputyFor l E (kx_sd xm w n b j) ym om w n nb z (8 * b + j) (by omega) (kx_sd_sh hs j) (by omega)) hR hS (bd_recv C.2 hR ⟨by decide, show w < 2 by omega, (by decide)⟩ rfl rfl) qm_X2_155 qi_X2_deputyFor qs_X2_deputyFor qz_X2 qc_X2_deputyFor qp_X2_deputyFor ⟨Nat.le_of_ble_eq_true rfl, Nat.le_of_ble_eq_true rfl⟩ hl.1 (Nat.le_of_ble_eq_true rfl) dX2_seatDeputies_27 ⟨Nat.le_of_ble_eq_true rfl, Nat.le_of_ble_eq_true rfl⟩ (fun H locs hR hS hz27 => ?_)
          refine bd_p_X1_sitter C hR hS (by omega) (by omega) qf_X2_145 dX2_seatDeputies_30 (fun H locs hR hS => ?_)
          refine lv_aload_n hx hb dX2_seatDeputies_33 rfl (lv_at hl 2 rfl) ?_
          refine bd_g_X2_season C hR (by omega) qf_X2_12 dX2_seatDeputies_34 ?_
          refine lv_aload_n hx hb dX2_seatDeputies_37 rfl (lv_at hl 0 rfl) ?_
          refine bd_g_X1_sitter C hR (by omega) (by omega) qf_X2_145 dX2_seatDeputies_38 ?_
          refine bd_cV1 [.int ((bd_up (kx_sd xm w n b j) 12 w (8 * b + j) (kx_who (kx_sd xm w n b j) w n (8 * b + j))) 12 w (8 * b + j))] [] C (k_X4_playerAt l E (bd_up (kx_sd xm w n b j) 12 w (8 * b + j) (kx_who (kx_sd xm w n b j) w n (8 * b + j))) ym om w n nb z ((bd_up (kx_sd xm w n b j) 12 w (8 * b + j) (kx_who (kx_sd xm w n b j) w n (8 * b + j))) 12 w (8 * b + j)) (by omega) (kx_Sh_up (kx_sd_sh hs j) (by decide))) hR hS (bd_recv C.2 hR ⟨by decide, show w < 2 by omega, (by decide)⟩ rfl rfl) qm_X2_141 qi_X4_playerAt qs_X4_playerAt qz_X4 qc_X4_playerAt qp_X4_playerAt ⟨Nat.le_of_ble_eq_true rfl, Nat.le_of_ble_eq_true rfl⟩ hl.1 (Nat.le_of_ble_eq_true rfl) dX2_seatDeputies_41 ⟨Nat.le_of_ble_eq_true rfl, Nat.le_of_ble_eq_true rfl⟩ (fun H locs hR hS hz41 => ?_)
          by_cases o41 : ¬ ((bd_up (kx_sd xm w n b j) 12 w (8 * b + j) (kx_who (kx_sd xm w n b j) w n (8 * b + j))) 12 w (8 * b + j)) < 0 ∧ ((bd_up (kx_sd xm w n b j) 12 w (8 * b + j) (kx_who (kx_sd xm w n b j) w n (8 * b + j))) 12 w (8 * b + j)) < nI n
          · rw [if_pos o41]
            have no41 := bd_tnl o41.1 o41.2 (by omega)
            refine lv_astore (lv' := [(4, .ref (bd_ea E 7 w (((bd_up (kx_sd xm w n b j) 12 w (8 * b + j) (kx_who (kx_sd xm w n b j) w n (8 * b + j))) 12 w (8 * b + j)).toNatClampNeg))), (3, .ref (bd_ea E 11 w (8 * b + j))), (2, .int (nI j)), (0, .ref (bd_ea E 2 w 0)), (1, .ref (bd_ea E 9 w b))]) hx hb dX2_seatDeputies_44 hl (by decide) rfl (fun ls hl => ?_)
            refine lv_aload hx hb dX2_seatDeputies_46 (lv_at hl 0 rfl) ?_
            refine lv_ifnull hx hb dX2_seatDeputies_48 ?_
            refine lv_aload hx hb dX2_seatDeputies_51 (lv_at hl 0 rfl) ?_
            refine lv_iconst (v := 1) hx hb dX2_seatDeputies_53 (by decide) ?_
            refine bd_p_X3_sits C hR hS (by omega) (by omega) qf_X2_119 dX2_seatDeputies_54 rfl rfl (fun H locs hR hS => ?_)
            refine lv_iinc (v := nI (j + 1)) (lv' := [(2, .int (nI (j + 1))), (4, .ref (bd_ea E 7 w (((bd_up (kx_sd xm w n b j) 12 w (8 * b + j) (kx_who (kx_sd xm w n b j) w n (8 * b + j))) 12 w (8 * b + j)).toNatClampNeg))), (3, .ref (bd_ea E 11 w (8 * b + j))), (0, .ref (bd_ea E 2 w 0)), (1, .ref (bd_ea E 9 w b))]) hx hb dX2_seatDeputies_57 hl (k := 2) rfl (nI_1 j) (by decide) rfl (fun ls hl => ?_)
            refine lv_goto (tgt := 2) hx hb dX2_seatDeputies_60 (by decide) ?_
            exact ih1 (j + 1) (by omega) (by omega) _ _ (hR.eq (by first | (simp (config := { decide := true }) only [kx_sd, kx_sd1, kx_sd2, eq_false c7, eq_false nc7, eq_true c21, eq_true o41, ↓reduceIte, not_true_eq_false, not_false_eq_true, and_self, and_true, true_and, and_false, false_and]; done) | rfl) rfl) hS _ (lv_sub hl [0, 3, 4] rfl)
          · rw [if_neg o41]
            refine lv_astoreN (lv' := [(4, .null), (3, .ref (bd_ea E 11 w (8 * b + j))), (2, .int (nI j)), (0, .ref (bd_ea E 2 w 0)), (1, .ref (bd_ea E 9 w b))]) hx hb dX2_seatDeputies_44 hl (by decide) rfl (fun ls hl => ?_)
            refine lv_aloadN hx hb dX2_seatDeputies_46 (lv_at hl 0 rfl) ?_
            refine lv_ifnullN (tgt := 57) hx hb dX2_seatDeputies_48 (by decide) ?_
            refine lv_iinc (v := nI (j + 1)) (lv' := [(2, .int (nI (j + 1))), (4, .null), (3, .ref (bd_ea E 11 w (8 * b + j))), (0, .ref (bd_ea E 2 w 0)), (1, .ref (bd_ea E 9 w b))]) hx hb dX2_seatDeputies_57 hl (k := 2) rfl (nI_1 j) (by decide) rfl (fun ls hl => ?_)
            refine lv_goto (tgt := 2) hx hb dX2_seatDeputies_60 (by decide) ?_
            exact ih1 (j + 1) (by omega) (by omega) _ _ (hR.eq (by first | (simp (config := { decide := true }) only [kx_sd, kx_sd1, kx_sd2, eq_false c7, eq_false nc7, eq_true c21, eq_false o41, ↓reduceIte, not_true_eq_false, not_false_eq_true, and_self, and_true, true_and, and_false, false_and]; done) | rfl) rfl) hS _ (lv_sub hl [0, 3, 4] rfl)
  exact lp1 ((z b) + 1) 0 (by omega) (by omega) _ _ (hR.eq rfl rfl) hS _ (by first | exact lv_sub hl [0, 1, 2] rfl | (rw [show (nI 0 : Int32) = 0 from by first | rfl | decide | simp [nI_0]]; exact lv_sub hl [0, 1, 2] rfl))
set_option maxHeartbeats 4000000 in
set_option maxRecDepth 100000 in
theorem k_X2_isOut (l : Launch) (E : bd_E) (xm ym : bd_M) (om : Nat → Int64) (w : Nat) (n : Nat) (nb : Nat) (z : (Nat→Nat)) (b : Nat) (hw : w < 2) (hs : kx_Sh xm w n nb z) (hb6 : b < 6) : bd_Ct l yX2_isOut cX2_isOut 2 (some .boolean) 2 42 0 0 E [.ref (bd_ea E 2 w 0), .ref (bd_ea E 9 w b)] xm ym om xm ym om (some (.int (if ¬ kx_deps xm w b (z b) ≤ 3 then 1 else 0))) := by
  refine bd_open RX2 rfl (by decide) (Nat.le_of_ble_eq_true rfl) ?_
  intro p e s m args below meth c ls C hr hlk hS hR hl
  have hx := C.1.1
  have hb := C.1.2.1
  have hs24 := hs.2.1
  have hs6 := hs.2.2.2.1
  have hl : lv_has ls 2 [(0, .ref (bd_ea E 2 w 0)), (1, .ref (bd_ea E 9 w b))] := hl
  refine lv_aload_n hx hb dX2_isOut_0 rfl (lv_at hl 1 rfl) ?_
  refine bd_cV1 [] [] C (k_X0_deputiesSitting l E xm ym om w n nb z b (by omega) hs (by omega)) hR hS (bd_recv C.2 hR ⟨by decide, show w < 2 by omega, show b < 6 by omega⟩ rfl rfl) qm_X2_46 qi_X0_deputiesSitting qs_X0_deputiesSitting qz_X0 qc_X0_deputiesSitting qp_X0_deputiesSitting ⟨Nat.le_of_ble_eq_true rfl, Nat.le_of_ble_eq_true rfl⟩ hl.1 (Nat.le_of_ble_eq_true rfl) dX2_isOut_1 ⟨Nat.le_of_ble_eq_true rfl, Nat.le_of_ble_eq_true rfl⟩ (fun H locs hR hS hz1 => ?_)
  refine lv_iconst (v := 3) hx hb dX2_isOut_4 (by decide) ?_
  refine lv_icmp_le (tgt := 12) hx hb dX2_isOut_5 (by decide) (fun c5 => ?_) (fun c5 => ?_)
  · skip
    refine lv_iconst (v := 0) hx hb dX2_isOut_12 (by decide) ?_
    exact bd_rz C hr hlk (hR.eq rfl rfl) hS (Nat.zero_le _) (Nat.zero_le _) dX2_isOut_13 rfl (by first | (simp (config := { decide := true }) only [eq_true c5, ↓reduceIte, not_true_eq_false, not_false_eq_true, and_self, and_true, true_and, and_false, false_and]; done) | rfl)
  · skip
    refine lv_iconst (v := 1) hx hb dX2_isOut_8 (by decide) ?_
    refine lv_goto (tgt := 13) hx hb dX2_isOut_9 (by decide) ?_
    exact bd_rz C hr hlk (hR.eq rfl rfl) hS (Nat.zero_le _) (Nat.zero_le _) dX2_isOut_13 rfl (by first | (simp (config := { decide := true }) only [eq_false c5, ↓reduceIte, not_true_eq_false, not_false_eq_true, and_self, and_true, true_and, and_false, false_and]; done) | rfl)
set_option maxHeartbeats 4000000 in
set_option maxRecDepth 100000 in
theorem k_X2_marksFor (l : Launch) (E : bd_E) (xm ym : bd_M) (om : Nat → Int64) (w : Nat) (n : Nat) (nb : Nat) (z : (Nat→Nat)) (k : Nat) (v : Int32) (hw : w < 2) (hs : kx_Sh xm w n nb z) (hk : k < 24) : bd_Ct l yX2_marksFor cX2_marksFor 4 (some .int) 1 21 0 0 E [.ref (bd_ea E 2 w 0), .ref (bd_ea E 7 w k), .int v] xm ym om xm ym om (some (.int (kx_mf xm w k v))) := by
  refine bd_open RX2 rfl (by decide) (Nat.le_of_ble_eq_true rfl) ?_
  intro p e s m args below meth c ls C hr hlk hS hR hl
  have hx := C.1.1
  have hb := C.1.2.1
  have hs24 := hs.2.1
  have hs6 := hs.2.2.2.1
  have hl : lv_has ls 4 [(0, .ref (bd_ea E 2 w 0)), (1, .ref (bd_ea E 7 w k)), (2, .int v)] := hl
  refine lv_bipush (v := 10) hx hb dX2_marksFor_0 (by decide) ?_
  refine lv_aload_n hx hb dX2_marksFor_2 rfl (lv_at hl 1 rfl) ?_
  refine lv_iload_n hx hb dX2_marksFor_3 rfl (lv_at hl 2 rfl) ?_
  refine bd_cV1 [.int v] [.int 10] C (k_X3_skillFor l E xm ym om w k v (by omega) (by omega)) hR hS (bd_recv C.2 hR ⟨by decide, show w < 2 by omega, show k < 24 by omega⟩ rfl rfl) qm_X2_162 qi_X3_skillFor qs_X3_skillFor qz_X3 qc_X3_skillFor qp_X3_skillFor ⟨Nat.le_of_ble_eq_true rfl, Nat.le_of_ble_eq_true rfl⟩ hl.1 (Nat.le_of_ble_eq_true rfl) dX2_marksFor_4 ⟨Nat.le_of_ble_eq_true rfl, Nat.le_of_ble_eq_true rfl⟩ (fun H locs hR hS hz4 => ?_)
  refine lv_iadd hx hb dX2_marksFor_7 ?_
  refine lv_aload_n hx hb dX2_marksFor_8 rfl (lv_at hl 0 rfl) ?_
  refine bd_g_X2_season C hR (by omega) qf_X2_12 dX2_marksFor_9 ?_
  refine lv_iload_n hx hb dX2_marksFor_12 rfl (lv_at hl 2 rfl) ?_
  refine bd_cV1 [.int v] [.int (10 + (kx_skill xm w k v))] C (k_X4_hardFor l E xm ym om w n nb z v (by omega) hs) hR hS (bd_recv C.2 hR ⟨by decide, show w < 2 by omega, (by decide)⟩ rfl rfl) qm_X2_181 qi_X4_hardFor qs_X4_hardFor qz_X4 qc_X4_hardFor qp_X4_hardFor ⟨Nat.le_of_ble_eq_true rfl, Nat.le_of_ble_eq_true rfl⟩ hl.1 (Nat.le_of_ble_eq_true rfl) dX2_marksFor_13 ⟨Nat.le_of_ble_eq_true rfl, Nat.le_of_ble_eq_true rfl⟩ (fun H locs hR hS hz13 => ?_)
  refine lv_isub hx hb dX2_marksFor_16 ?_
  refine lv_aload_n hx hb dX2_marksFor_17 rfl (lv_at hl 1 rfl) ?_
  refine bd_g_X3_tired C hR (by omega) (by omega) qf_X2_168 dX2_marksFor_18 ?_
  refine lv_bipush (v := 20) hx hb dX2_marksFor_21 (by decide) ?_
  refine lv_idiv hx hb dX2_marksFor_23 (by decide) ?_
  refine lv_isub hx hb dX2_marksFor_24 ?_
  refine lv_istore_n (lv' := [(3, .int (((10 + (kx_skill xm w k v)) - (kx_hard xm w v)) - ((xm 0 w k) / 20))), (0, .ref (bd_ea E 2 w 0)), (1, .ref (bd_ea E 7 w k)), (2, .int v)]) hx hb dX2_marksFor_25 rfl hl (by decide) rfl (fun ls hl => ?_)
  refine lv_iconst (v := 0) hx hb dX2_marksFor_26 (by decide) ?_
  refine lv_iload_n hx hb dX2_marksFor_27 rfl (lv_at hl 0 rfl) ?_
  refine bd_max C hl.1 qm_X2_64 ⟨Nat.le_of_ble_eq_true rfl, Nat.le_of_ble_eq_true rfl⟩ ⟨Nat.le_of_ble_eq_true rfl, Nat.le_of_ble_eq_true rfl⟩ dX2_marksFor_28 ?_
  refine lv_aload_n hx hb dX2_marksFor_31 rfl (lv_at hl 1 rfl) ?_
  refine bd_g_X2_season C hR (by omega) qf_X2_12 dX2_marksFor_32 ?_
  refine lv_iload_n hx hb dX2_marksFor_35 rfl (lv_at hl 3 rfl) ?_
  refine bd_cV1 [.int v] [.int (bd_mx 0 (((10 + (kx_skill xm w k v)) - (kx_hard xm w v)) - ((xm 0 w k) / 20)))] C (k_X4_weightFor l E xm ym om w n nb z v (by omega) hs) hR hS (bd_recv C.2 hR ⟨by decide, show w < 2 by omega, (by decide)⟩ rfl rfl) qm_X2_184 qi_X4_weightFor qs_X4_weightFor qz_X4 qc_X4_weightFor qp_X4_weightFor ⟨Nat.le_of_ble_eq_true rfl, Nat.le_of_ble_eq_true rfl⟩ hl.1 (Nat.le_of_ble_eq_true rfl) dX2_marksFor_36 ⟨Nat.le_of_ble_eq_true rfl, Nat.le_of_ble_eq_true rfl⟩ (fun H locs hR hS hz36 => ?_)
  refine lv_imul hx hb dX2_marksFor_39 ?_
  exact bd_ri C hr hlk (hR.eq rfl rfl) hS (Nat.zero_le _) (Nat.zero_le _) dX2_marksFor_40 (by first | (simp (config := { decide := true }) only [kx_mf, ↓reduceIte, not_true_eq_false, not_false_eq_true, and_self, and_true, true_and, and_false, false_and]; done) | rfl)
set_option maxHeartbeats 4000000 in
set_option maxRecDepth 100000 in
theorem k_X2_marksAsSeated (l : Launch) (E : bd_E) (xm ym : bd_M) (om : Nat → Int64) (w : Nat) (n : Nat) (nb : Nat) (z : (Nat→Nat)) (b : Nat) (hw : w < 2) (hs : kx_Sh xm w n nb z) (hb6 : b < 6) : bd_Ct l yX2_marksAsSeated cX2_marksAsSeated 6 (some .int) 2 44 0 0 E [.ref (bd_ea E 2 w 0), .ref (bd_ea E 9 w b)] xm ym om xm ym om (some (.int (kx_ms xm w n b (z b)))) := by
  refine bd_open RX2 rfl (by decide) (Nat.le_of_ble_eq_true rfl) ?_
  intro p e s m args below meth c ls C hr hlk hS hR hl
  have hx := C.1.1
  have hb := C.1.2.1
  have hs24 := hs.2.1
  have hs6 := hs.2.2.2.1
  have z8 := (hs.2.2.2.2 b (by omega)).2
  have hl : lv_has ls 6 [(0, .ref (bd_ea E 2 w 0)), (1, .ref (bd_ea E 9 w b))] := hl
  refine lv_aload_n hx hb dX2_marksAsSeated_0 rfl (lv_at hl 1 rfl) ?_
  refine bd_g_X0_spirit C hR (by omega) (by omega) qf_X2_171 dX2_marksAsSeated_1 ?_
  refine lv_iconst (v := 5) hx hb dX2_marksAsSeated_4 (by decide) ?_
  refine lv_idiv hx hb dX2_marksAsSeated_5 (by decide) ?_
  refine lv_istore_n (lv' := [(2, .int ((xm 21 w b) / 5)), (0, .ref (bd_ea E 2 w 0)), (1, .ref (bd_ea E 9 w b))]) hx hb dX2_marksAsSeated_6 rfl hl (by decide) rfl (fun ls hl => ?_)
  refine lv_iconst (v := 0) hx hb dX2_marksAsSeated_7 (by decide) ?_
  refine lv_istore_n (lv' := [(3, .int 0), (2, .int ((xm 21 w b) / 5)), (0, .ref (bd_ea E 2 w 0)), (1, .ref (bd_ea E 9 w b))]) hx hb dX2_marksAsSeated_8 rfl hl (by decide) rfl (fun ls hl => ?_)
  have lp1 : ∀ (t1 j : Nat), j ≤ z b → (z b) - j < t1 → ∀ (H : Heap) (locs : List Loc), bd_Rep E xm ym om H → va_S (bd_A E) s.heap H locs → ∀ (ls : Array Slot), lv_has ls 6 [(3, .int (nI j)), (2, .int (kx_ms xm w n b j)), (0, .ref (bd_ea E 2 w 0)), (1, .ref (bd_ea E 9 w b))] → W p l e { frames := 2, cells := 0, slots := 0, locals := 44 } s m args below meth c H locs 0 0 (MQ below (bd_Q E xm ym om (some (.int (kx_ms xm w n b (z b))))) args s 0 0 (bd_A E)) (F0 m 9 ls []) := by
    intro t1
    induction t1 with
    | zero => intro j h1 h2; exact absurd h2 (Nat.not_lt_zero _)
    | succ t1 ih1 =>
      intro j hj1 hj2 H locs hR hS ls hl
      refine lv_iload_n hx hb dX2_marksAsSeated_9 rfl (lv_at hl 0 rfl) ?_
      refine lv_aload_n hx hb dX2_marksAsSeated_10 rfl (lv_at hl 3 rfl) ?_
      refine bd_g_X0_size C hR (by omega) (by omega) qf_X2_81 dX2_marksAsSeated_11 ?_
      have z11 := ((show kx_Sh xm w n nb z from hs).2.2.2.2 b (by omega)).2
      rw [show xm 20 w b = nI (z b) from ((show kx_Sh xm w n nb z from hs).2.2.2.2 b (by omega)).1]
      refine lv_icmp_ge (tgt := 81) hx hb dX2_marksAsSeated_14 (by decide) (fun c14 => ?_) (fun c14 => ?_)
      · skip
        have nc14 : (z b) ≤ j := (nI_leI (a := (z b)) (b := j) (by omega) (by omega)).mp c14
        obtain rfl : z b = j := by omega
        refine lv_iload_n hx hb dX2_marksAsSeated_81 rfl (lv_at hl 1 rfl) ?_
        exact bd_ri C hr hlk (hR.eq rfl rfl) hS (Nat.zero_le _) (Nat.zero_le _) dX2_marksAsSeated_82 rfl
      · skip
        have nc14 : ¬ (z b) ≤ j := fun q9 => c14 ((nI_leI (a := (z b)) (b := j) (by omega) (by omega)).mpr q9)
        refine lv_aload_n hx hb dX2_marksAsSeated_17 rfl (lv_at hl 3 rfl) ?_
        refine bd_g_X0_chairs C hR (by omega) (by omega) qf_X2_132 dX2_marksAsSeated_18 ?_
        refine lv_iload_n hx hb dX2_marksAsSeated_21 rfl (lv_at hl 0 rfl) ?_
        refine bd_ld_10 C hR (by omega) (by omega) (j := j) (by omega) dX2_marksAsSeated_22 ?_
        refine lv_astore (lv' := [(4, .ref (bd_ea E 11 w (8 * b + j))), (3, .int (nI j)), (2, .int (kx_ms xm w n b j)), (0, .ref (bd_ea E 2 w 0)), (1, .ref (bd_ea E 9 w b))]) hx hb dX2_marksAsSeated_23 hl (by decide) rfl (fun ls hl => ?_)
        refine lv_aload_n hx hb dX2_marksAsSeated_25 rfl (lv_at hl 3 rfl) ?_
        refine bd_g_X2_season C hR (by omega) qf_X2_12 dX2_marksAsSeated_26 ?_
        refine lv_aload hx hb dX2_marksAsSeated_29 (lv_at hl 0 rfl) ?_
        refine bd_g_X1_sitter C hR (by omega) (by omega) qf_X2_145 dX2_marksAsSeated_31 ?_
        refine bd_cV1 [.int (xm 12 w (8 * b + j))] [] C (k_X4_playerAt l E xm ym om w n nb z (xm 12 w (8 * b + j)) (by omega) hs) hR hS (bd_recv C.2 hR ⟨by decide, show w < 2 by omega, (by decide)⟩ rfl rfl) qm_X2_141 qi_X4_playerAt qs_X4_playerAt qz_X4 qc_X4_playerAt qp_X4_playerAt ⟨Nat.le_of_ble_eq_true rfl, Nat.le_of_ble_eq_true rfl⟩ hl.1 (Nat.le_of_ble_eq_true rfl) dX2_marksAsSeated_34 ⟨Nat.le_of_ble_eq_true rfl, Nat.le_of_ble_eq_true rfl⟩ (fun H locs hR hS hz34 => ?_)
        by_cases o34 : ¬ (xm 12 w (8 * b + j)) < 0 ∧ (xm 12 w (8 * b + j)) < nI n
        · rw [if_pos o34]
          have no34 := bd_tnl o34.1 o34.2 (by omega)
          refine lv_astore (lv' := [(5, .ref (bd_ea E 7 w ((xm 12 w (8 * b + j)).toNatClampNeg))), (4, .ref (bd_ea E 11 w (8 * b + j))), (3, .int (nI j)), (2, .int (kx_ms xm w n b j)), (0, .ref (bd_ea E 2 w 0)), (1, .ref (bd_ea E 9 w b))]) hx hb dX2_marksAsSeated_37 hl (by decide) rfl (fun ls hl => ?_)
          refine lv_aload hx hb dX2_marksAsSeated_39 (lv_at hl 0 rfl) ?_
          refine lv_ifnonnull (tgt := 50) hx hb dX2_marksAsSeated_41 (by decide) ?_
          refine lv_iload_n hx hb dX2_marksAsSeated_50 rfl (lv_at hl 3 rfl) ?_
          refine lv_aload_n hx hb dX2_marksAsSeated_51 rfl (lv_at hl 4 rfl) ?_
          refine lv_aload hx hb dX2_marksAsSeated_52 (lv_at hl 0 rfl) ?_
          refine lv_aload hx hb dX2_marksAsSeated_54 (lv_at hl 1 rfl) ?_
          refine bd_g_X1_instrument C hR (by omega) (by omega) qf_X2_159 dX2_marksAsSeated_56 ?_
          refine bd_cV1 [.ref (bd_ea E 7 w ((xm 12 w (8 * b + j)).toNatClampNeg)), .int (xm 10 w (8 * b + j))] [.int (kx_ms xm w n b j)] C (k_X2_marksFor l E xm ym om w n nb z ((xm 12 w (8 * b + j)).toNatClampNeg) (xm 10 w (8 * b + j)) (by omega) hs (by omega)) hR hS (bd_recv C.2 hR ⟨by decide, show w < 2 by omega, (by decide)⟩ rfl rfl) qm_X2_174 qi_X2_marksFor qs_X2_marksFor qz_X2 qc_X2_marksFor qp_X2_marksFor ⟨Nat.le_of_ble_eq_true rfl, Nat.le_of_ble_eq_true rfl⟩ hl.1 (Nat.le_of_ble_eq_true rfl) dX2_marksAsSeated_59 ⟨Nat.le_of_ble_eq_true rfl, Nat.le_of_ble_eq_true rfl⟩ (fun H locs hR hS hz59 => ?_)
          refine lv_iadd hx hb dX2_marksAsSeated_62 ?_
          refine lv_istore_n (lv' := [(2, .int ((kx_ms xm w n b j) + (kx_mf xm w ((xm 12 w (8 * b + j)).toNatClampNeg) (xm 10 w (8 * b + j))))), (5, .ref (bd_ea E 7 w ((xm 12 w (8 * b + j)).toNatClampNeg))), (4, .ref (bd_ea E 11 w (8 * b + j))), (3, .int (nI j)), (0, .ref (bd_ea E 2 w 0)), (1, .ref (bd_ea E 9 w b))]) hx hb dX2_marksAsSeated_63 rfl hl (by decide) rfl (fun ls hl => ?_)
          refine lv_aload hx hb dX2_marksAsSeated_64 (lv_at hl 2 rfl) ?_
          refine bd_cV1 [] [] C (k_X1_hasOwn l E xm ym om w (8 * b + j) (by omega) (by omega)) hR hS (bd_recv C.2 hR ⟨by decide, show w < 2 by omega, show 8 * b + j < 48 by omega⟩ rfl rfl) qm_X2_178 qi_X1_hasOwn qs_X1_hasOwn qz_X1 qc_X1_hasOwn qp_X1_hasOwn ⟨Nat.le_of_ble_eq_true rfl, Nat.le_of_ble_eq_true rfl⟩ hl.1 (Nat.le_of_ble_eq_true rfl) dX2_marksAsSeated_66 ⟨Nat.le_of_ble_eq_true rfl, Nat.le_of_ble_eq_true rfl⟩ (fun H locs hR hS hz66 => ?_)
          refine bd_ifeq (P := kx_own xm w (8 * b + j)) (tgt := 75) C dX2_marksAsSeated_69 (by decide) (fun c69 => ?_) (fun c69 => ?_)
          · skip
            refine lv_iinc (v := nI (j + 1)) (lv' := [(3, .int (nI (j + 1))), (2, .int ((kx_ms xm w n b j) + (kx_mf xm w ((xm 12 w (8 * b + j)).toNatClampNeg) (xm 10 w (8 * b + j))))), (5, .ref (bd_ea E 7 w ((xm 12 w (8 * b + j)).toNatClampNeg))), (4, .ref (bd_ea E 11 w (8 * b + j))), (0, .ref (bd_ea E 2 w 0)), (1, .ref (bd_ea E 9 w b))]) hx hb dX2_marksAsSeated_75 hl (k := 3) rfl (nI_1 j) (by decide) rfl (fun ls hl => ?_)
            refine lv_goto (tgt := 9) hx hb dX2_marksAsSeated_78 (by decide) ?_
            exact ih1 (j + 1) (by omega) (by omega) _ _ (hR.eq rfl rfl) hS _ (by rw [show (kx_ms xm w n b (j + 1) : Int32) = (kx_ms xm w n b j) + (kx_mf xm w ((xm 12 w (8 * b + j)).toNatClampNeg) (xm 10 w (8 * b + j))) from (by first | (simp (config := { decide := true }) only [kx_ms, kx_ms1, eq_false c14, eq_false nc14, eq_true o34, eq_false c69, ↓reduceIte, not_true_eq_false, not_false_eq_true, and_self, and_true, true_and, and_false, false_and]; done) | rfl)]; exact lv_sub hl [0, 1, 4, 5] rfl)
          · skip
            refine lv_iinc (v := ((kx_ms xm w n b j) + (kx_mf xm w ((xm 12 w (8 * b + j)).toNatClampNeg) (xm 10 w (8 * b + j)))) + 1) (lv' := [(2, .int (((kx_ms xm w n b j) + (kx_mf xm w ((xm 12 w (8 * b + j)).toNatClampNeg) (xm 10 w (8 * b + j)))) + 1)), (5, .ref (bd_ea E 7 w ((xm 12 w (8 * b + j)).toNatClampNeg))), (4, .ref (bd_ea E 11 w (8 * b + j))), (3, .int (nI j)), (0, .ref (bd_ea E 2 w 0)), (1, .ref (bd_ea E 9 w b))]) hx hb dX2_marksAsSeated_72 hl (k := 0) rfl rfl (by decide) rfl (fun ls hl => ?_)
            refine lv_iinc (v := nI (j + 1)) (lv' := [(3, .int (nI (j + 1))), (2, .int (((kx_ms xm w n b j) + (kx_mf xm w ((xm 12 w (8 * b + j)).toNatClampNeg) (xm 10 w (8 * b + j)))) + 1)), (5, .ref (bd_ea E 7 w ((xm 12 w (8 * b + j)).toNatClampNeg))), (4, .ref (bd_ea E 11 w (8 * b + j))), (0, .ref (bd_ea E 2 w 0)), (1, .ref (bd_ea E 9 w b))]) hx hb dX2_marksAsSeated_75 hl (k := 3) rfl (nI_1 j) (by decide) rfl (fun ls hl => ?_)
            refine lv_goto (tgt := 9) hx hb dX2_marksAsSeated_78 (by decide) ?_
            exact ih1 (j + 1) (by omega) (by omega) _ _ (hR.eq rfl rfl) hS _ (by rw [show (kx_ms xm w n b (j + 1) : Int32) = ((kx_ms xm w n b j) + (kx_mf xm w ((xm 12 w (8 * b + j)).toNatClampNeg) (xm 10 w (8 * b + j)))) + 1 from (by first | (simp (config := { decide := true }) only [kx_ms, kx_ms1, eq_false c14, eq_false nc14, eq_true o34, eq_true c69, ↓reduceIte, not_true_eq_false, not_false_eq_true, and_self, and_true, true_and, and_false, false_and]; done) | rfl)]; exact lv_sub hl [0, 1, 4, 5] rfl)
        · rw [if_neg o34]
          refine lv_astoreN (lv' := [(5, .null), (4, .ref (bd_ea E 11 w (8 * b + j))), (3, .int (nI j)), (2, .int (kx_ms xm w n b j)), (0, .ref (bd_ea E 2 w 0)), (1, .ref (bd_ea E 9 w b))]) hx hb dX2_marksAsSeated_37 hl (by decide) rfl (fun ls hl => ?_)
          refine lv_aloadN hx hb dX2_marksAsSeated_39 (lv_at hl 0 rfl) ?_
          refine lv_ifnonnullN hx hb dX2_marksAsSeated_41 ?_
          refine lv_iinc (v := (kx_ms xm w n b j) + (-5)) (lv' := [(2, .int ((kx_ms xm w n b j) + (-5))), (5, .null), (4, .ref (bd_ea E 11 w (8 * b + j))), (3, .int (nI j)), (0, .ref (bd_ea E 2 w 0)), (1, .ref (bd_ea E 9 w b))]) hx hb dX2_marksAsSeated_44 hl (k := 3) rfl rfl (by decide) rfl (fun ls hl => ?_)
          refine lv_goto (tgt := 64) hx hb dX2_marksAsSeated_47 (by decide) ?_
          refine lv_aload hx hb dX2_marksAsSeated_64 (lv_at hl 2 rfl) ?_
          refine bd_cV1 [] [] C (k_X1_hasOwn l E xm ym om w (8 * b + j) (by omega) (by omega)) hR hS (bd_recv C.2 hR ⟨by decide, show w < 2 by omega, show 8 * b + j < 48 by omega⟩ rfl rfl) qm_X2_178 qi_X1_hasOwn qs_X1_hasOwn qz_X1 qc_X1_hasOwn qp_X1_hasOwn ⟨Nat.le_of_ble_eq_true rfl, Nat.le_of_ble_eq_true rfl⟩ hl.1 (Nat.le_of_ble_eq_true rfl) dX2_marksAsSeated_66 ⟨Nat.le_of_ble_eq_true rfl, Nat.le_of_ble_eq_true rfl⟩ (fun H locs hR hS hz66 => ?_)
          refine bd_ifeq (P := kx_own xm w (8 * b + j)) (tgt := 75) C dX2_marksAsSeated_69 (by decide) (fun c69 => ?_) (fun c69 => ?_)
          · skip
            refine lv_iinc (v := nI (j + 1)) (lv' := [(3, .int (nI (j + 1))), (2, .int ((kx_ms xm w n b j) + (-5))), (5, .null), (4, .ref (bd_ea E 11 w (8 * b + j))), (0, .ref (bd_ea E 2 w 0)), (1, .ref (bd_ea E 9 w b))]) hx hb dX2_marksAsSeated_75 hl (k := 3) rfl (nI_1 j) (by decide) rfl (fun ls hl => ?_)
            refine lv_goto (tgt := 9) hx hb dX2_marksAsSeated_78 (by decide) ?_
            exact ih1 (j + 1) (by omega) (by omega) _ _ (hR.eq rfl rfl) hS _ (by rw [show (kx_ms xm w n b (j + 1) : Int32) = (kx_ms xm w n b j) + (-5) from (by first | (simp (config := { decide := true }) only [kx_ms, kx_ms1, eq_false c14, eq_false nc14, eq_false o34, eq_false c69, ↓reduceIte, not_true_eq_false, not_false_eq_true, and_self, and_true, true_and, and_false, false_and]; done) | rfl)]; exact lv_sub hl [0, 1, 4, 5] rfl)
          · skip
            refine lv_iinc (v := ((kx_ms xm w n b j) + (-5)) + 1) (lv' := [(2, .int (((kx_ms xm w n b j) + (-5)) + 1)), (5, .null), (4, .ref (bd_ea E 11 w (8 * b + j))), (3, .int (nI j)), (0, .ref (bd_ea E 2 w 0)), (1, .ref (bd_ea E 9 w b))]) hx hb dX2_marksAsSeated_72 hl (k := 0) rfl rfl (by decide) rfl (fun ls hl => ?_)
            refine lv_iinc (v := nI (j + 1)) (lv' := [(3, .int (nI (j + 1))), (2, .int (((kx_ms xm w n b j) + (-5)) + 1)), (5, .null), (4, .ref (bd_ea E 11 w (8 * b + j))), (0, .ref (bd_ea E 2 w 0)), (1, .ref (bd_ea E 9 w b))]) hx hb dX2_marksAsSeated_75 hl (k := 3) rfl (nI_1 j) (by decide) rfl (fun ls hl => ?_)
            refine lv_goto (tgt := 9) hx hb dX2_marksAsSeated_78 (by decide) ?_
            exact ih1 (j + 1) (by omega) (by omega) _ _ (hR.eq rfl rfl) hS _ (by rw [show (kx_ms xm w n b (j + 1) : Int32) = ((kx_ms xm w n b j) + (-5)) + 1 from (by first | (simp (config := { decide := true }) only [kx_ms, kx_ms1, eq_false c14, eq_false nc14, eq_false o34, eq_true c69, ↓reduceIte, not_true_eq_false, not_false_eq_true, and_self, and_true, true_and, and_false, false_and]; done) | rfl)]; exact lv_sub hl [0, 1, 4, 5] rfl)
  exact lp1 ((z b) + 1) 0 (by omega) (by omega) _ _ (hR.eq rfl rfl) hS _ (by first | exact lv_sub hl [0, 1, 2, 3] rfl | (rw [show (nI 0 : Int32) = 0 from by first | rfl | decide | simp [nI_0]]; rw [show (kx_ms xm w n b 0 : Int32) = (xm 21 w b) / 5 from by first | rfl | decide | simp [nI_0]]; exact lv_sub hl [0, 1, 2, 3] rfl))
set_option maxHeartbeats 4000000 in
set_option maxRecDepth 100000 in
theorem k_X2_marksOnceSeated (l : Launch) (E : bd_E) (xm ym : bd_M) (om : Nat → Int64) (w : Nat) (n : Nat) (nb : Nat) (z : (Nat→Nat)) (b : Nat) (hw : w < 2) (hs : kx_Sh xm w n nb z) (hb6 : b < 6) : bd_Ct l yX2_marksOnceSeated cX2_marksOnceSeated 3 (some .int) 3 76 0 0 E [.ref (bd_ea E 2 w 0), .ref (bd_ea E 9 w b)] xm ym om (kx_seat xm w n b (z b)) ym om (some (.int (kx_mo (kx_seat xm w n b (z b)) w n b (z b)))) := by
  refine bd_open RX2 rfl (by decide) (Nat.le_of_ble_eq_true rfl) ?_
  intro p e s m args below meth c ls C hr hlk hS hR hl
  have hx := C.1.1
  have hb := C.1.2.1
  have hs24 := hs.2.1
  have hs6 := hs.2.2.2.1
  have hl : lv_has ls 3 [(0, .ref (bd_ea E 2 w 0)), (1, .ref (bd_ea E 9 w b))] := hl
  refine lv_iconst (v := 0) hx hb dX2_marksOnceSeated_0 (by decide) ?_
  refine lv_istore_n (lv' := [(2, .int 0), (0, .ref (bd_ea E 2 w 0)), (1, .ref (bd_ea E 9 w b))]) hx hb dX2_marksOnceSeated_1 rfl hl (by decide) rfl (fun ls hl => ?_)
  have lp1 : ∀ (t1 j : Nat), j ≤ n → n - j < t1 → ∀ (H : Heap) (locs : List Loc), bd_Rep E (kx_ns xm w j) ym om H → va_S (bd_A E) s.heap H locs → ∀ (ls : Array Slot), lv_has ls 3 [(2, .int (nI j)), (0, .ref (bd_ea E 2 w 0)), (1, .ref (bd_ea E 9 w b))] → W p l e { frames := 3, cells := 0, slots := 0, locals := 76 } s m args below meth c H locs 0 0 (MQ below (bd_Q E (kx_seat xm w n b (z b)) ym om (some (.int (kx_mo (kx_seat xm w n b (z b)) w n b (z b))))) args s 0 0 (bd_A E)) (F0 m 2 ls []) := by
    intro t1
    induction t1 with
    | zero => intro j h1 h2; exact absurd h2 (Nat.not_lt_zero _)
    | succ t1 ih1 =>
      intro j hj1 hj2 H locs hR hS ls hl
      refine lv_iload_n hx hb dX2_marksOnceSeated_2 rfl (lv_at hl 0 rfl) ?_
      refine lv_aload_n hx hb dX2_marksOnceSeated_3 rfl (lv_at hl 1 rfl) ?_
      refine bd_g_X2_season C hR (by omega) qf_X2_12 dX2_marksOnceSeated_4 ?_
      refine bd_g_X4_playerCount C hR (by omega) qf_X2_52 dX2_marksOnceSeated_7 ?_
      rw [show (kx_ns xm w j) 30 w 0 = nI n from (show kx_Sh (kx_ns xm w j) w n nb z from (kx_ns_sh hs j)).1]
      refine lv_icmp_ge (tgt := 32) hx hb dX2_marksOnceSeated_10 (by decide) (fun c10 => ?_) (fun c10 => ?_)
      · skip
        have nc10 : n ≤ j := (nI_leI (a := n) (b := j) (by omega) (by omega)).mp c10
        obtain rfl : n = j := by omega
        refine lv_aload_n hx hb dX2_marksOnceSeated_32 rfl (lv_at hl 1 rfl) ?_
        refine lv_aload_n hx hb dX2_marksOnceSeated_33 rfl (lv_at hl 2 rfl) ?_
        refine bd_cV0 [.ref (bd_ea E 9 w b)] [] C (k_X2_seatMembers l E (kx_ns xm w n) ym om w n nb z b (by omega) (kx_ns_sh hs n) (by omega)) hR hS (bd_recv C.2 hR ⟨by decide, show w < 2 by omega, (by decide)⟩ rfl rfl) qm_X2_123 qi_X2_seatMembers qs_X2_seatMembers qz_X2 qc_X2_seatMembers qp_X2_seatMembers ⟨Nat.le_of_ble_eq_true rfl, Nat.le_of_ble_eq_true rfl⟩ hl.1 (Nat.le_of_ble_eq_true rfl) dX2_marksOnceSeated_34 ⟨Nat.le_of_ble_eq_true rfl, Nat.le_of_ble_eq_true rfl⟩ (fun H locs hR hS hz34 => ?_)
        refine lv_aload_n hx hb dX2_marksOnceSeated_37 rfl (lv_at hl 1 rfl) ?_
        refine lv_aload_n hx hb dX2_marksOnceSeated_38 rfl (lv_at hl 2 rfl) ?_
        refine bd_cV0 [.ref (bd_ea E 9 w b)] [] C (k_X2_seatDeputies l E (kx_sm (kx_ns xm w n) w n b (z b)) ym om w n nb z b (by omega) (kx_sm_sh (kx_ns_sh hs n) _) (by omega)) hR hS (bd_recv C.2 hR ⟨by decide, show w < 2 by omega, (by decide)⟩ rfl rfl) qm_X2_126 qi_X2_seatDeputies qs_X2_seatDeputies qz_X2 qc_X2_seatDeputies qp_X2_seatDeputies ⟨Nat.le_of_ble_eq_true rfl, Nat.le_of_ble_eq_true rfl⟩ hl.1 (Nat.le_of_ble_eq_true rfl) dX2_marksOnceSeated_39 ⟨Nat.le_of_ble_eq_true rfl, Nat.le_of_ble_eq_true rfl⟩ (fun H locs hR hS hz39 => ?_)
        refine lv_aload_n hx hb dX2_marksOnceSeated_42 rfl (lv_at hl 1 rfl) ?_
        refine lv_aload_n hx hb dX2_marksOnceSeated_43 rfl (lv_at hl 2 rfl) ?_
        refine bd_cV1 [.ref (bd_ea E 9 w b)] [] C (k_X2_isOut l E (kx_sd (kx_sm (kx_ns xm w n) w n b (z b)) w n b (z b)) ym om w n nb z b (by omega) (kx_sd_sh (kx_sm_sh (kx_ns_sh hs n) _) _) (by omega)) hR hS (bd_recv C.2 hR ⟨by decide, show w < 2 by omega, (by decide)⟩ rfl rfl) qm_X2_103 qi_X2_isOut qs_X2_isOut qz_X2 qc_X2_isOut qp_X2_isOut ⟨Nat.le_of_ble_eq_true rfl, Nat.le_of_ble_eq_true rfl⟩ hl.1 (Nat.le_of_ble_eq_true rfl) dX2_marksOnceSeated_44 ⟨Nat.le_of_ble_eq_true rfl, Nat.le_of_ble_eq_true rfl⟩ (fun H locs hR hS hz44 => ?_)
        refine bd_ifeq (P := ¬ kx_deps (kx_sd (kx_sm (kx_ns xm w n) w n b (z b)) w n b (z b)) w b (z b) ≤ 3) (tgt := 54) C dX2_marksOnceSeated_47 (by decide) (fun c47 => ?_) (fun c47 => ?_)
        · skip
          refine lv_iconst (v := 0) hx hb dX2_marksOnceSeated_54 (by decide) ?_
          refine lv_aload_n hx hb dX2_marksOnceSeated_55 rfl (lv_at hl 1 rfl) ?_
          refine lv_aload_n hx hb dX2_marksOnceSeated_56 rfl (lv_at hl 2 rfl) ?_
          refine bd_cV1 [.ref (bd_ea E 9 w b)] [.int 0] C (k_X2_marksAsSeated l E (kx_sd (kx_sm (kx_ns xm w n) w n b (z b)) w n b (z b)) ym om w n nb z b (by omega) (kx_sd_sh (kx_sm_sh (kx_ns_sh hs n) _) _) (by omega)) hR hS (bd_recv C.2 hR ⟨by decide, show w < 2 by omega, (by decide)⟩ rfl rfl) qm_X2_129 qi_X2_marksAsSeated qs_X2_marksAsSeated qz_X2 qc_X2_marksAsSeated qp_X2_marksAsSeated ⟨Nat.le_of_ble_eq_true rfl, Nat.le_of_ble_eq_true rfl⟩ hl.1 (Nat.le_of_ble_eq_true rfl) dX2_marksOnceSeated_57 ⟨Nat.le_of_ble_eq_true rfl, Nat.le_of_ble_eq_true rfl⟩ (fun H locs hR hS hz57 => ?_)
          refine bd_max C hl.1 qm_X2_64 ⟨Nat.le_of_ble_eq_true rfl, Nat.le_of_ble_eq_true rfl⟩ ⟨Nat.le_of_ble_eq_true rfl, Nat.le_of_ble_eq_true rfl⟩ dX2_marksOnceSeated_60 ?_
          exact bd_ri C hr hlk (hR.eq (by first | rfl | (rfl)) rfl) hS (Nat.zero_le _) (Nat.zero_le _) dX2_marksOnceSeated_63 (by first | rfl | (show _ = kx_mo (kx_sd (kx_sm (kx_ns xm w n) w n b (z b)) w n b (z b)) w n b (z b); rw [kx_mo, if_neg c47]))
        · skip
          refine lv_iconst (v := 0) hx hb dX2_marksOnceSeated_50 (by decide) ?_
          refine lv_goto (tgt := 63) hx hb dX2_marksOnceSeated_51 (by decide) ?_
          exact bd_ri C hr hlk (hR.eq (by first | rfl | (rfl)) rfl) hS (Nat.zero_le _) (Nat.zero_le _) dX2_marksOnceSeated_63 (by first | rfl | (show _ = kx_mo (kx_sd (kx_sm (kx_ns xm w n) w n b (z b)) w n b (z b)) w n b (z b); rw [kx_mo, if_pos c47]))
      · skip
        have nc10 : ¬ n ≤ j := fun q9 => c10 ((nI_leI (a := n) (b := j) (by omega) (by omega)).mpr q9)
        refine lv_aload_n hx hb dX2_marksOnceSeated_13 rfl (lv_at hl 1 rfl) ?_
        refine bd_g_X2_season C hR (by omega) qf_X2_12 dX2_marksOnceSeated_14 ?_
        refine bd_g_X4_players C hR (by omega) qf_X2_55 dX2_marksOnceSeated_17 ?_
        refine lv_iload_n hx hb dX2_marksOnceSeated_20 rfl (lv_at hl 0 rfl) ?_
        refine bd_ld_3 C hR (by omega) (j := j) (by omega) dX2_marksOnceSeated_21 ?_
        refine lv_iconst (v := 0) hx hb dX2_marksOnceSeated_22 (by decide) ?_
        refine bd_p_X3_sits C hR hS (by omega) (by omega) qf_X2_119 dX2_marksOnceSeated_23 rfl rfl (fun H locs hR hS => ?_)
        refine lv_iinc (v := nI (j + 1)) (lv' := [(2, .int (nI (j + 1))), (0, .ref (bd_ea E 2 w 0)), (1, .ref (bd_ea E 9 w b))]) hx hb dX2_marksOnceSeated_26 hl (k := 0) rfl (nI_1 j) (by decide) rfl (fun ls hl => ?_)
        refine lv_goto (tgt := 2) hx hb dX2_marksOnceSeated_29 (by decide) ?_
        exact ih1 (j + 1) (by omega) (by omega) _ _ (hR.eq (by first | (simp (config := { decide := true }) only [kx_ns, eq_false c10, eq_false nc10, ↓reduceIte, not_true_eq_false, not_false_eq_true, and_self, and_true, true_and, and_false, false_and]; done) | rfl) rfl) hS _ (lv_sub hl [0, 1, 2] rfl)
  exact lp1 (n + 1) 0 (by omega) (by omega) _ _ (hR.eq rfl rfl) hS _ (by first | exact lv_sub hl [0, 1, 2] rfl | (rw [show (nI 0 : Int32) = 0 from by first | rfl | decide | simp [nI_0]]; exact lv_sub hl [0, 1, 2] rfl))
set_option maxHeartbeats 4000000 in
set_option maxRecDepth 100000 in
theorem k_X2_noteSittings (l : Launch) (E : bd_E) (xm ym : bd_M) (om : Nat → Int64) (w : Nat) (n : Nat) (nb : Nat) (z : (Nat→Nat)) (b : Nat) (hw : w < 2) (hs : kx_Sh xm w n nb z) (hb6 : b < 6) : bd_Ct l yX2_noteSittings cX2_noteSittings 5 none 1 21 0 0 E [.ref (bd_ea E 2 w 0), .ref (bd_ea E 9 w b)] xm ym om (kx_no xm w n b (z b)) ym om (none) := by
  refine bd_open RX2 rfl (by decide) (Nat.le_of_ble_eq_true rfl) ?_
  intro p e s m args below meth c ls C hr hlk hS hR hl
  have hx := C.1.1
  have hb := C.1.2.1
  have hs24 := hs.2.1
  have hs6 := hs.2.2.2.1
  have z8 := (hs.2.2.2.2 b (by omega)).2
  have hl : lv_has ls 5 [(0, .ref (bd_ea E 2 w 0)), (1, .ref (bd_ea E 9 w b))] := hl
  refine lv_iconst (v := 0) hx hb dX2_noteSittings_0 (by decide) ?_
  refine lv_istore_n (lv' := [(2, .int 0), (0, .ref (bd_ea E 2 w 0)), (1, .ref (bd_ea E 9 w b))]) hx hb dX2_noteSittings_1 rfl hl (by decide) rfl (fun ls hl => ?_)
  have lp1 : ∀ (t1 j : Nat), j ≤ z b → (z b) - j < t1 → ∀ (H : Heap) (locs : List Loc), bd_Rep E (kx_no xm w n b j) ym om H → va_S (bd_A E) s.heap H locs → ∀ (ls : Array Slot), lv_has ls 5 [(2, .int (nI j)), (0, .ref (bd_ea E 2 w 0)), (1, .ref (bd_ea E 9 w b))] → W p l e { frames := 1, cells := 0, slots := 0, locals := 21 } s m args below meth c H locs 0 0 (MQ below (bd_Q E (kx_no xm w n b (z b)) ym om (none)) args s 0 0 (bd_A E)) (F0 m 2 ls []) := by
    intro t1
    induction t1 with
    | zero => intro j h1 h2; exact absurd h2 (Nat.not_lt_zero _)
    | succ t1 ih1 =>
      intro j hj1 hj2 H locs hR hS ls hl
      refine lv_iload_n hx hb dX2_noteSittings_2 rfl (lv_at hl 0 rfl) ?_
      refine lv_aload_n hx hb dX2_noteSittings_3 rfl (lv_at hl 2 rfl) ?_
      refine bd_g_X0_size C hR (by omega) (by omega) qf_X2_81 dX2_noteSittings_4 ?_
      have z4 := ((show kx_Sh (kx_no xm w n b j) w n nb z from (kx_no_sh hs j)).2.2.2.2 b (by omega)).2
      rw [show (kx_no xm w n b j) 20 w b = nI (z b) from ((show kx_Sh (kx_no xm w n b j) w n nb z from (kx_no_sh hs j)).2.2.2.2 b (by omega)).1]
      refine lv_icmp_ge (tgt := 84) hx hb dX2_noteSittings_7 (by decide) (fun c7 => ?_) (fun c7 => ?_)
      · skip
        have nc7 : (z b) ≤ j := (nI_leI (a := (z b)) (b := j) (by omega) (by omega)).mp c7
        obtain rfl : z b = j := by omega
        exact bd_rv C hr hlk (hR.eq rfl rfl) hS (Nat.zero_le _) (Nat.zero_le _) dX2_noteSittings_84
      · skip
        have nc7 : ¬ (z b) ≤ j := fun q9 => c7 ((nI_leI (a := (z b)) (b := j) (by omega) (by omega)).mpr q9)
        refine lv_aload_n hx hb dX2_noteSittings_10 rfl (lv_at hl 2 rfl) ?_
        refine bd_g_X0_chairs C hR (by omega) (by omega) qf_X2_132 dX2_noteSittings_11 ?_
        refine lv_iload_n hx hb dX2_noteSittings_14 rfl (lv_at hl 0 rfl) ?_
        refine bd_ld_10 C hR (by omega) (by omega) (j := j) (by omega) dX2_noteSittings_15 ?_
        refine lv_astore_n (lv' := [(3, .ref (bd_ea E 11 w (8 * b + j))), (2, .int (nI j)), (0, .ref (bd_ea E 2 w 0)), (1, .ref (bd_ea E 9 w b))]) hx hb dX2_noteSittings_16 rfl hl (by decide) rfl (fun ls hl => ?_)
        refine lv_aload_n hx hb dX2_noteSittings_17 rfl (lv_at hl 2 rfl) ?_
        refine bd_g_X2_season C hR (by omega) qf_X2_12 dX2_noteSittings_18 ?_
        refine lv_aload_n hx hb dX2_noteSittings_21 rfl (lv_at hl 0 rfl) ?_
        refine bd_g_X1_sitter C hR (by omega) (by omega) qf_X2_145 dX2_noteSittings_22 ?_
        refine bd_cV1 [.int ((kx_no xm w n b j) 12 w (8 * b + j))] [] C (k_X4_playerAt l E (kx_no xm w n b j) ym om w n nb z ((kx_no xm w n b j) 12 w (8 * b + j)) (by omega) (kx_no_sh hs j)) hR hS (bd_recv C.2 hR ⟨by decide, show w < 2 by omega, (by decide)⟩ rfl rfl) qm_X2_141 qi_X4_playerAt qs_X4_playerAt qz_X4 qc_X4_playerAt qp_X4_playerAt ⟨Nat.le_of_ble_eq_true rfl, Nat.le_of_ble_eq_true rfl⟩ hl.1 (Nat.le_of_ble_eq_true rfl) dX2_noteSittings_25 ⟨Nat.le_of_ble_eq_true rfl, Nat.le_of_ble_eq_true rfl⟩ (fun H locs hR hS hz25 => ?_)
        by_cases o25 : ¬ ((kx_no xm w n b j) 12 w (8 * b + j)) < 0 ∧ ((kx_no xm w n b j) 12 w (8 * b + j)) < nI n
        · rw [if_pos o25]
          have no25 := bd_tnl o25.1 o25.2 (by omega)
          refine lv_astore (lv' := [(4, .ref (bd_ea E 7 w (((kx_no xm w n b j) 12 w (8 * b + j)).toNatClampNeg))), (3, .ref (bd_ea E 11 w (8 * b + j))), (2, .int (nI j)), (0, .ref (bd_ea E 2 w 0)), (1, .ref (bd_ea E 9 w b))]) hx hb dX2_noteSittings_28 hl (by decide) rfl (fun ls hl => ?_)
          refine lv_aload hx hb dX2_noteSittings_30 (lv_at hl 0 rfl) ?_
          refine lv_ifnonnull (tgt := 38) hx hb dX2_noteSittings_32 (by decide) ?_
          refine lv_aload hx hb dX2_noteSittings_38 (lv_at hl 0 rfl) ?_
          refine lv_dup hx hb dX2_noteSittings_40 rfl ?_
          refine bd_g_X3_sittings C hR (by omega) (by omega) qf_X2_187 dX2_noteSittings_41 ?_
          refine lv_iconst (v := 1) hx hb dX2_noteSittings_44 (by decide) ?_
          refine lv_iadd hx hb dX2_noteSittings_45 ?_
          refine bd_p_X3_sittings C hR hS (by omega) (by omega) qf_X2_187 dX2_noteSittings_46 (fun H locs hR hS => ?_)
          refine lv_aload_n hx hb dX2_noteSittings_49 rfl (lv_at hl 1 rfl) ?_
          refine bd_cV1 [] [] C (k_X1_hasDeputy l E (bd_up (kx_no xm w n b j) 4 w (((kx_no xm w n b j) 12 w (8 * b + j)).toNatClampNeg) (((kx_no xm w n b j) 4 w (((kx_no xm w n b j) 12 w (8 * b + j)).toNatClampNeg)) + 1)) ym om w (8 * b + j) (by omega) (by omega)) hR hS (bd_recv C.2 hR ⟨by decide, show w < 2 by omega, show 8 * b + j < 48 by omega⟩ rfl rfl) qm_X2_190 qi_X1_hasDeputy qs_X1_hasDeputy qz_X1 qc_X1_hasDeputy qp_X1_hasDeputy ⟨Nat.le_of_ble_eq_true rfl, Nat.le_of_ble_eq_true rfl⟩ hl.1 (Nat.le_of_ble_eq_true rfl) dX2_noteSittings_50 ⟨Nat.le_of_ble_eq_true rfl, Nat.le_of_ble_eq_true rfl⟩ (fun H locs hR hS hz50 => ?_)
          refine bd_ifeq (P := kx_dep (bd_up (kx_no xm w n b j) 4 w (((kx_no xm w n b j) 12 w (8 * b + j)).toNatClampNeg) (((kx_no xm w n b j) 4 w (((kx_no xm w n b j) 12 w (8 * b + j)).toNatClampNeg)) + 1)) w (8 * b + j)) (tgt := 78) C dX2_noteSittings_53 (by decide) (fun c53 => ?_) (fun c53 => ?_)
          · skip
            refine lv_iinc (v := nI (j + 1)) (lv' := [(2, .int (nI (j + 1))), (4, .ref (bd_ea E 7 w (((kx_no xm w n b j) 12 w (8 * b + j)).toNatClampNeg))), (3, .ref (bd_ea E 11 w (8 * b + j))), (0, .ref (bd_ea E 2 w 0)), (1, .ref (bd_ea E 9 w b))]) hx hb dX2_noteSittings_78 hl (k := 2) rfl (nI_1 j) (by decide) rfl (fun ls hl => ?_)
            refine lv_goto (tgt := 2) hx hb dX2_noteSittings_81 (by decide) ?_
            exact ih1 (j + 1) (by omega) (by omega) _ _ (hR.eq (by first | (simp (config := { decide := true }) only [kx_no, kx_no1, kx_no2, eq_false c7, eq_false nc7, eq_true o25, eq_false c53, ↓reduceIte, not_true_eq_false, not_false_eq_true, and_self, and_true, true_and, and_false, false_and]; done) | rfl) rfl) hS _ (lv_sub hl [0, 3, 4] rfl)
          · skip
            refine lv_aload hx hb dX2_noteSittings_56 (lv_at hl 0 rfl) ?_
            refine lv_dup hx hb dX2_noteSittings_58 rfl ?_
            refine bd_g_X3_deputySittings C hR (by omega) (by omega) qf_X2_193 dX2_noteSittings_59 ?_
            refine lv_iconst (v := 1) hx hb dX2_noteSittings_62 (by decide) ?_
            refine lv_iadd hx hb dX2_noteSittings_63 ?_
            refine bd_p_X3_deputySittings C hR hS (by omega) (by omega) qf_X2_193 dX2_noteSittings_64 (fun H locs hR hS => ?_)
            refine lv_aload hx hb dX2_noteSittings_67 (lv_at hl 0 rfl) ?_
            refine lv_dup hx hb dX2_noteSittings_69 rfl ?_
            refine bd_g_X3_deputyToday C hR (by omega) (by omega) qf_X2_88 dX2_noteSittings_70 ?_
            refine lv_iconst (v := 1) hx hb dX2_noteSittings_73 (by decide) ?_
            refine lv_iadd hx hb dX2_noteSittings_74 ?_
            refine bd_p_X3_deputyToday C hR hS (by omega) (by omega) qf_X2_88 dX2_noteSittings_75 (fun H locs hR hS => ?_)
            refine lv_iinc (v := nI (j + 1)) (lv' := [(2, .int (nI (j + 1))), (4, .ref (bd_ea E 7 w (((kx_no xm w n b j) 12 w (8 * b + j)).toNatClampNeg))), (3, .ref (bd_ea E 11 w (8 * b + j))), (0, .ref (bd_ea E 2 w 0)), (1, .ref (bd_ea E 9 w b))]) hx hb dX2_noteSittings_78 hl (k := 2) rfl (nI_1 j) (by decide) rfl (fun ls hl => ?_)
            refine lv_goto (tgt := 2) hx hb dX2_noteSittings_81 (by decide) ?_
            exact ih1 (j + 1) (by omega) (by omega) _ _ (hR.eq (by first | (simp (config := { decide := true }) only [kx_no, kx_no1, kx_no2, eq_false c7, eq_false nc7, eq_true o25, eq_true c53, ↓reduceIte, not_true_eq_false, not_false_eq_true, and_self, and_true, true_and, and_false, false_and]; done) | rfl) rfl) hS _ (lv_sub hl [0, 3, 4] rfl)
        · rw [if_neg o25]
          refine lv_astoreN (lv' := [(4, .null), (3, .ref (bd_ea E 11 w (8 * b + j))), (2, .int (nI j)), (0, .ref (bd_ea E 2 w 0)), (1, .ref (bd_ea E 9 w b))]) hx hb dX2_noteSittings_28 hl (by decide) rfl (fun ls hl => ?_)
          refine lv_aloadN hx hb dX2_noteSittings_30 (lv_at hl 0 rfl) ?_
          refine lv_ifnonnullN hx hb dX2_noteSittings_32 ?_
          refine lv_goto (tgt := 78) hx hb dX2_noteSittings_35 (by decide) ?_
          refine lv_iinc (v := nI (j + 1)) (lv' := [(2, .int (nI (j + 1))), (4, .null), (3, .ref (bd_ea E 11 w (8 * b + j))), (0, .ref (bd_ea E 2 w 0)), (1, .ref (bd_ea E 9 w b))]) hx hb dX2_noteSittings_78 hl (k := 2) rfl (nI_1 j) (by decide) rfl (fun ls hl => ?_)
          refine lv_goto (tgt := 2) hx hb dX2_noteSittings_81 (by decide) ?_
          exact ih1 (j + 1) (by omega) (by omega) _ _ (hR.eq (by first | (simp (config := { decide := true }) only [kx_no, kx_no1, kx_no2, eq_false c7, eq_false nc7, eq_false o25, ↓reduceIte, not_true_eq_false, not_false_eq_true, and_self, and_true, true_and, and_false, false_and]; done) | rfl) rfl) hS _ (lv_sub hl [0, 3, 4] rfl)
  exact lp1 ((z b) + 1) 0 (by omega) (by omega) _ _ (hR.eq rfl rfl) hS _ (by first | exact lv_sub hl [0, 1, 2] rfl | (rw [show (nI 0 : Int32) = 0 from by first | rfl | decide | simp [nI_0]]; exact lv_sub hl [0, 1, 2] rfl))
set_option maxHeartbeats 4000000 in
set_option maxRecDepth 100000 in
theorem k_X2_moveLips (l : Launch) (E : bd_E) (xm ym : bd_M) (om : Nat → Int64) (w : Nat) (n : Nat) (nb : Nat) (z : (Nat→Nat)) (hw : w < 2) (hs : kx_Sh xm w n nb z) : bd_Ct l yX2_moveLips cX2_moveLips 3 none 2 41 0 0 E [.ref (bd_ea E 2 w 0)] xm ym om (kx_ml xm w n) ym om (none) := by
  refine bd_open RX2 rfl (by decide) (Nat.le_of_ble_eq_true rfl) ?_
  intro p e s m args below meth c ls C hr hlk hS hR hl
  have hx := C.1.1
  have hb := C.1.2.1
  have hs24 := hs.2.1
  have hs6 := hs.2.2.2.1
  have hl : lv_has ls 3 [(0, .ref (bd_ea E 2 w 0))] := hl
  refine lv_iconst (v := 0) hx hb dX2_moveLips_0 (by decide) ?_
  refine lv_istore_n (lv' := [(1, .int 0), (0, .ref (bd_ea E 2 w 0))]) hx hb dX2_moveLips_1 rfl hl (by decide) rfl (fun ls hl => ?_)
  have lp1 : ∀ (t1 j : Nat), j ≤ n → n - j < t1 → ∀ (H : Heap) (locs : List Loc), bd_Rep E (kx_ml xm w j) ym om H → va_S (bd_A E) s.heap H locs → ∀ (ls : Array Slot), lv_has ls 3 [(1, .int (nI j)), (0, .ref (bd_ea E 2 w 0))] → W p l e { frames := 2, cells := 0, slots := 0, locals := 41 } s m args below meth c H locs 0 0 (MQ below (bd_Q E (kx_ml xm w n) ym om (none)) args s 0 0 (bd_A E)) (F0 m 2 ls []) := by
    intro t1
    induction t1 with
    | zero => intro j h1 h2; exact absurd h2 (Nat.not_lt_zero _)
    | succ t1 ih1 =>
      intro j hj1 hj2 H locs hR hS ls hl
      refine lv_iload_n hx hb dX2_moveLips_2 rfl (lv_at hl 0 rfl) ?_
      refine lv_aload_n hx hb dX2_moveLips_3 rfl (lv_at hl 1 rfl) ?_
      refine bd_g_X2_season C hR (by omega) qf_X2_12 dX2_moveLips_4 ?_
      refine bd_g_X4_playerCount C hR (by omega) qf_X2_52 dX2_moveLips_7 ?_
      rw [show (kx_ml xm w j) 30 w 0 = nI n from (show kx_Sh (kx_ml xm w j) w n nb z from (kx_ml_sh hs j)).1]
      refine lv_icmp_ge (tgt := 51) hx hb dX2_moveLips_10 (by decide) (fun c10 => ?_) (fun c10 => ?_)
      · skip
        have nc10 : n ≤ j := (nI_leI (a := n) (b := j) (by omega) (by omega)).mp c10
        obtain rfl : n = j := by omega
        exact bd_rv C hr hlk (hR.eq rfl rfl) hS (Nat.zero_le _) (Nat.zero_le _) dX2_moveLips_51
      · skip
        have nc10 : ¬ n ≤ j := fun q9 => c10 ((nI_leI (a := n) (b := j) (by omega) (by omega)).mpr q9)
        refine lv_aload_n hx hb dX2_moveLips_13 rfl (lv_at hl 1 rfl) ?_
        refine bd_g_X2_season C hR (by omega) qf_X2_12 dX2_moveLips_14 ?_
        refine bd_g_X4_players C hR (by omega) qf_X2_55 dX2_moveLips_17 ?_
        refine lv_iload_n hx hb dX2_moveLips_20 rfl (lv_at hl 0 rfl) ?_
        refine bd_ld_3 C hR (by omega) (j := j) (by omega) dX2_moveLips_21 ?_
        refine lv_astore_n (lv' := [(2, .ref (bd_ea E 7 w j)), (1, .int (nI j)), (0, .ref (bd_ea E 2 w 0))]) hx hb dX2_moveLips_22 rfl hl (by decide) rfl (fun ls hl => ?_)
        refine lv_aload_n hx hb dX2_moveLips_23 rfl (lv_at hl 0 rfl) ?_
        refine bd_g_X3_sits C hR (by omega) (by omega) qf_X2_119 dX2_moveLips_24 ?_
        refine lv_if_eq (tgt := 39) hx hb dX2_moveLips_27 (by decide) (fun c27 => ?_) (fun c27 => ?_)
        · skip
          refine lv_aload_n hx hb dX2_moveLips_39 rfl (lv_at hl 0 rfl) ?_
          refine lv_bipush (v := 10) hx hb dX2_moveLips_40 (by decide) ?_
          refine bd_cV0 [.int 10] [] C (k_X3_rest l E (kx_ml xm w j) ym om w j 10 (by omega) (by omega)) hR hS (bd_recv C.2 hR ⟨by decide, show w < 2 by omega, show j < 24 by omega⟩ rfl rfl) qm_X2_199 qi_X3_rest qs_X3_rest qz_X3 qc_X3_rest qp_X3_rest ⟨Nat.le_of_ble_eq_true rfl, Nat.le_of_ble_eq_true rfl⟩ hl.1 (Nat.le_of_ble_eq_true rfl) dX2_moveLips_42 ⟨Nat.le_of_ble_eq_true rfl, Nat.le_of_ble_eq_true rfl⟩ (fun H locs hR hS hz42 => ?_)
          refine lv_iinc (v := nI (j + 1)) (lv' := [(1, .int (nI (j + 1))), (2, .ref (bd_ea E 7 w j)), (0, .ref (bd_ea E 2 w 0))]) hx hb dX2_moveLips_45 hl (k := 1) rfl (nI_1 j) (by decide) rfl (fun ls hl => ?_)
          refine lv_goto (tgt := 2) hx hb dX2_moveLips_48 (by decide) ?_
          exact ih1 (j + 1) (by omega) (by omega) _ _ (hR.eq (by first | (simp (config := { decide := true }) only [kx_ml, eq_false c10, eq_false nc10, eq_true c27, ↓reduceIte, not_true_eq_false, not_false_eq_true, and_self, and_true, true_and, and_false, false_and]; done) | rfl) rfl) hS _ (lv_sub hl [0, 2] rfl)
        · skip
          refine lv_aload_n hx hb dX2_moveLips_30 rfl (lv_at hl 0 rfl) ?_
          refine lv_bipush (v := 15) hx hb dX2_moveLips_31 (by decide) ?_
          refine bd_cV0 [.int 15] [] C (k_X3_tire l E (kx_ml xm w j) ym om w j 15 (by omega) (by omega)) hR hS (bd_recv C.2 hR ⟨by decide, show w < 2 by omega, show j < 24 by omega⟩ rfl rfl) qm_X2_196 qi_X3_tire qs_X3_tire qz_X3 qc_X3_tire qp_X3_tire ⟨Nat.le_of_ble_eq_true rfl, Nat.le_of_ble_eq_true rfl⟩ hl.1 (Nat.le_of_ble_eq_true rfl) dX2_moveLips_33 ⟨Nat.le_of_ble_eq_true rfl, Nat.le_of_ble_eq_true rfl⟩ (fun H locs hR hS hz33 => ?_)
          refine lv_goto (tgt := 45) hx hb dX2_moveLips_36 (by decide) ?_
          refine lv_iinc (v := nI (j + 1)) (lv' := [(1, .int (nI (j + 1))), (2, .ref (bd_ea E 7 w j)), (0, .ref (bd_ea E 2 w 0))]) hx hb dX2_moveLips_45 hl (k := 1) rfl (nI_1 j) (by decide) rfl (fun ls hl => ?_)
          refine lv_goto (tgt := 2) hx hb dX2_moveLips_48 (by decide) ?_
          exact ih1 (j + 1) (by omega) (by omega) _ _ (hR.eq (by first | (simp (config := { decide := true }) only [kx_ml, eq_false c10, eq_false nc10, eq_false c27, ↓reduceIte, not_true_eq_false, not_false_eq_true, and_self, and_true, true_and, and_false, false_and]; done) | rfl) rfl) hS _ (lv_sub hl [0, 2] rfl)
  exact lp1 (n + 1) 0 (by omega) (by omega) _ _ (hR.eq rfl rfl) hS _ (by first | exact lv_sub hl [0, 1] rfl | (rw [show (nI 0 : Int32) = 0 from by first | rfl | decide | simp [nI_0]]; exact lv_sub hl [0, 1] rfl))
set_option maxHeartbeats 4000000 in
set_option maxRecDepth 100000 in
theorem k_X2_play (l : Launch) (E : bd_E) (xm ym : bd_M) (om : Nat → Int64) (w : Nat) (n : Nat) (nb : Nat) (z : (Nat→Nat)) (b : Nat) (hw : w < 2) (hs : kx_Sh xm w n nb z) (hb : b < nb) : bd_Ct l yX2_play cX2_play 3 none 4 98 0 0 E [.ref (bd_ea E 2 w 0), .int (nI b)] xm ym om (kx_play xm w n b (z b)) ym om (none) := by
  refine bd_open RX2 rfl (by decide) (Nat.le_of_ble_eq_true rfl) ?_
  intro p e s m args below meth c ls C hr hlk hS hR hl
  have hx := C.1.1
  have hb := C.1.2.1
  have hs24 := hs.2.1
  have hs6 := hs.2.2.2.1
  have hl : lv_has ls 3 [(0, .ref (bd_ea E 2 w 0)), (1, .int (nI b))] := hl
  refine lv_aload_n hx hb dX2_play_0 rfl (lv_at hl 0 rfl) ?_
  refine bd_g_X2_season C hR (by omega) qf_X2_12 dX2_play_1 ?_
  refine lv_iload_n hx hb dX2_play_4 rfl (lv_at hl 1 rfl) ?_
  refine bd_cV1 [.int (nI b)] [] C (k_X4_bandAt_j l E xm ym om w n nb z b (by omega) hs (by omega)) hR hS (bd_recv C.2 hR ⟨by decide, show w < 2 by omega, (by decide)⟩ rfl rfl) qm_X2_73 qi_X4_bandAt qs_X4_bandAt qz_X4 qc_X4_bandAt qp_X4_bandAt ⟨Nat.le_of_ble_eq_true rfl, Nat.le_of_ble_eq_true rfl⟩ hl.1 (Nat.le_of_ble_eq_true rfl) dX2_play_5 ⟨Nat.le_of_ble_eq_true rfl, Nat.le_of_ble_eq_true rfl⟩ (fun H locs hR hS hz5 => ?_)
  refine lv_astore_n (lv' := [(2, .ref (bd_ea E 9 w b)), (0, .ref (bd_ea E 2 w 0)), (1, .int (nI b))]) hx hb dX2_play_8 rfl hl (by decide) rfl (fun ls hl => ?_)
  refine lv_aload_n hx hb dX2_play_9 rfl (lv_at hl 0 rfl) ?_
  refine lv_ifnonnull (tgt := 14) hx hb dX2_play_10 (by decide) ?_
  refine lv_aload_n hx hb dX2_play_14 rfl (lv_at hl 0 rfl) ?_
  refine lv_aload_n hx hb dX2_play_15 rfl (lv_at hl 1 rfl) ?_
  refine lv_aload_n hx hb dX2_play_16 rfl (lv_at hl 0 rfl) ?_
  refine bd_cV1 [.ref (bd_ea E 9 w b)] [.ref (bd_ea E 9 w b)] C (k_X2_marksOnceSeated l E xm ym om w n nb z b (by omega) hs (by omega)) hR hS (bd_recv C.2 hR ⟨by decide, show w < 2 by omega, (by decide)⟩ rfl rfl) qm_X2_77 qi_X2_marksOnceSeated qs_X2_marksOnceSeated qz_X2 qc_X2_marksOnceSeated qp_X2_marksOnceSeated ⟨Nat.le_of_ble_eq_true rfl, Nat.le_of_ble_eq_true rfl⟩ hl.1 (Nat.le_of_ble_eq_true rfl) dX2_play_17 ⟨Nat.le_of_ble_eq_true rfl, Nat.le_of_ble_eq_true rfl⟩ (fun H locs hR hS hz17 => ?_)
  obtain ⟨xn1, hxn1⟩ : ∃ z9, z9 = kx_seat xm w n b (z b) := ⟨_, rfl⟩
  rw [← hxn1] at hR
  have sxn1_0 : kx_Sh xn1 w n nb z := by rw [hxn1]; exact (kx_seat_sh hs)
  refine bd_p_X0_marks C hR hS (by omega) (by omega) qf_X2_91 dX2_play_20 (fun H locs hR hS => ?_)
  obtain ⟨xn2, hxn2⟩ : ∃ z9, z9 = bd_up xn1 22 w b (kx_mo (kx_seat xm w n b (z b)) w n b (z b)) := ⟨_, rfl⟩
  rw [← hxn2] at hR
  have sxn2_0 : kx_Sh xn2 w n nb z := by rw [hxn2]; exact (kx_Sh_up sxn1_0 (by decide))
  refine lv_aload_n hx hb dX2_play_23 rfl (lv_at hl 0 rfl) ?_
  refine lv_aload_n hx hb dX2_play_24 rfl (lv_at hl 0 rfl) ?_
  refine bd_cV1 [] [.ref (bd_ea E 9 w b)] C (k_X0_deputiesSitting l E xn2 ym om w n nb z b (by omega) sxn2_0 (by omega)) hR hS (bd_recv C.2 hR ⟨by decide, show w < 2 by omega, show b < 6 by omega⟩ rfl rfl) qm_X2_46 qi_X0_deputiesSitting qs_X0_deputiesSitting qz_X0 qc_X0_deputiesSitting qp_X0_deputiesSitting ⟨Nat.le_of_ble_eq_true rfl, Nat.le_of_ble_eq_true rfl⟩ hl.1 (Nat.le_of_ble_eq_true rfl) dX2_play_25 ⟨Nat.le_of_ble_eq_true rfl, Nat.le_of_ble_eq_true rfl⟩ (fun H locs hR hS hz25 => ?_)
  refine bd_p_X0_deputies C hR hS (by omega) (by omega) qf_X2_94 dX2_play_28 (fun H locs hR hS => ?_)
  obtain ⟨xn3, hxn3⟩ : ∃ z9, z9 = bd_up xn2 24 w b (kx_deps xn2 w b (z b)) := ⟨_, rfl⟩
  rw [← hxn3] at hR
  have sxn3_0 : kx_Sh xn3 w n nb z := by rw [hxn3]; exact (kx_Sh_up sxn2_0 (by decide))
  refine lv_aload_n hx hb dX2_play_31 rfl (lv_at hl 0 rfl) ?_
  refine lv_aload_n hx hb dX2_play_32 rfl (lv_at hl 0 rfl) ?_
  refine bd_cV1 [] [.ref (bd_ea E 9 w b)] C (k_X0_emptyChairs l E xn3 ym om w n nb z b (by omega) sxn3_0 (by omega)) hR hS (bd_recv C.2 hR ⟨by decide, show w < 2 by omega, show b < 6 by omega⟩ rfl rfl) qm_X2_97 qi_X0_emptyChairs qs_X0_emptyChairs qz_X0 qc_X0_emptyChairs qp_X0_emptyChairs ⟨Nat.le_of_ble_eq_true rfl, Nat.le_of_ble_eq_true rfl⟩ hl.1 (Nat.le_of_ble_eq_true rfl) dX2_play_33 ⟨Nat.le_of_ble_eq_true rfl, Nat.le_of_ble_eq_true rfl⟩ (fun H locs hR hS hz33 => ?_)
  refine bd_p_X0_empties C hR hS (by omega) (by omega) qf_X2_100 dX2_play_36 (fun H locs hR hS => ?_)
  obtain ⟨xn4, hxn4⟩ : ∃ z9, z9 = bd_up xn3 25 w b (kx_emps xn3 w b (z b)) := ⟨_, rfl⟩
  rw [← hxn4] at hR
  have sxn4_0 : kx_Sh xn4 w n nb z := by rw [hxn4]; exact (kx_Sh_up sxn3_0 (by decide))
  refine lv_aload_n hx hb dX2_play_39 rfl (lv_at hl 1 rfl) ?_
  refine lv_aload_n hx hb dX2_play_40 rfl (lv_at hl 0 rfl) ?_
  refine bd_cV1 [.ref (bd_ea E 9 w b)] [] C (k_X2_isOut l E xn4 ym om w n nb z b (by omega) sxn4_0 (by omega)) hR hS (bd_recv C.2 hR ⟨by decide, show w < 2 by omega, (by decide)⟩ rfl rfl) qm_X2_103 qi_X2_isOut qs_X2_isOut qz_X2 qc_X2_isOut qp_X2_isOut ⟨Nat.le_of_ble_eq_true rfl, Nat.le_of_ble_eq_true rfl⟩ hl.1 (Nat.le_of_ble_eq_true rfl) dX2_play_41 ⟨Nat.le_of_ble_eq_true rfl, Nat.le_of_ble_eq_true rfl⟩ (fun H locs hR hS hz41 => ?_)
  refine bd_ifeq (P := ¬ kx_deps xn4 w b (z b) ≤ 3) (tgt := 57) C dX2_play_44 (by decide) (fun c44 => ?_) (fun c44 => ?_)
  · skip
    have hR : bd_Rep E (kx_p4 xn4 w b (z b)) ym om H := hR.eq (by rw [kx_p4, if_neg c44]) rfl
    obtain ⟨xn5, hxn5⟩ : ∃ z9, z9 = kx_p4 xn4 w b (z b) := ⟨_, rfl⟩
    rw [← hxn5] at hR
    have sxn5_0 : kx_Sh xn5 w n nb z := by rw [hxn5]; exact (kx_p4_sh sxn4_0)
    refine lv_aload_n hx hb dX2_play_57 rfl (lv_at hl 1 rfl) ?_
    refine bd_g_X2_season C hR (by omega) qf_X2_12 dX2_play_58 ?_
    refine lv_dup hx hb dX2_play_61 rfl ?_
    refine bd_g_X4_deputies C hR (by omega) qf_X2_110 dX2_play_62 ?_
    refine lv_aload_n hx hb dX2_play_65 rfl (lv_at hl 0 rfl) ?_
    refine bd_g_X0_deputies C hR (by omega) (by omega) qf_X2_94 dX2_play_66 ?_
    refine lv_iadd hx hb dX2_play_69 ?_
    refine bd_p_X4_deputies C hR hS (by omega) qf_X2_110 dX2_play_70 (fun H locs hR hS => ?_)
    obtain ⟨xn6, hxn6⟩ : ∃ z9, z9 = bd_up xn5 33 w 0 ((xn5 33 w 0) + (xn5 24 w b)) := ⟨_, rfl⟩
    rw [← hxn6] at hR
    have sxn6_0 : kx_Sh xn6 w n nb z := by rw [hxn6]; exact (kx_Sh_up sxn5_0 (by decide))
    refine lv_aload_n hx hb dX2_play_73 rfl (lv_at hl 1 rfl) ?_
    refine bd_g_X2_season C hR (by omega) qf_X2_12 dX2_play_74 ?_
    refine lv_dup hx hb dX2_play_77 rfl ?_
    refine bd_g_X4_empties C hR (by omega) qf_X2_111 dX2_play_78 ?_
    refine lv_aload_n hx hb dX2_play_81 rfl (lv_at hl 0 rfl) ?_
    refine bd_g_X0_empties C hR (by omega) (by omega) qf_X2_100 dX2_play_82 ?_
    refine lv_iadd hx hb dX2_play_85 ?_
    refine bd_p_X4_empties C hR hS (by omega) qf_X2_111 dX2_play_86 (fun H locs hR hS => ?_)
    obtain ⟨xn7, hxn7⟩ : ∃ z9, z9 = bd_up xn6 34 w 0 ((xn6 34 w 0) + (xn6 25 w b)) := ⟨_, rfl⟩
    rw [← hxn7] at hR
    have sxn7_0 : kx_Sh xn7 w n nb z := by rw [hxn7]; exact (kx_Sh_up sxn6_0 (by decide))
    refine lv_aload_n hx hb dX2_play_89 rfl (lv_at hl 1 rfl) ?_
    refine lv_aload_n hx hb dX2_play_90 rfl (lv_at hl 0 rfl) ?_
    refine bd_cV0 [.ref (bd_ea E 9 w b)] [] C (k_X2_noteSittings l E xn7 ym om w n nb z b (by omega) sxn7_0 (by omega)) hR hS (bd_recv C.2 hR ⟨by decide, show w < 2 by omega, (by decide)⟩ rfl rfl) qm_X2_112 qi_X2_noteSittings qs_X2_noteSittings qz_X2 qc_X2_noteSittings qp_X2_noteSittings ⟨Nat.le_of_ble_eq_true rfl, Nat.le_of_ble_eq_true rfl⟩ hl.1 (Nat.le_of_ble_eq_true rfl) dX2_play_91 ⟨Nat.le_of_ble_eq_true rfl, Nat.le_of_ble_eq_true rfl⟩ (fun H locs hR hS hz91 => ?_)
    obtain ⟨xn8, hxn8⟩ : ∃ z9, z9 = kx_no xn7 w n b (z b) := ⟨_, rfl⟩
    rw [← hxn8] at hR
    have sxn8_0 : kx_Sh xn8 w n nb z := by rw [hxn8]; exact (kx_no_sh sxn7_0 _)
    refine lv_aload_n hx hb dX2_play_94 rfl (lv_at hl 1 rfl) ?_
    refine bd_cV0 [] [] C (k_X2_moveLips l E xn8 ym om w n nb z (by omega) sxn8_0) hR hS (bd_recv C.2 hR ⟨by decide, show w < 2 by omega, (by decide)⟩ rfl rfl) qm_X2_116 qi_X2_moveLips qs_X2_moveLips qz_X2 qc_X2_moveLips qp_X2_moveLips ⟨Nat.le_of_ble_eq_true rfl, Nat.le_of_ble_eq_true rfl⟩ hl.1 (Nat.le_of_ble_eq_true rfl) dX2_play_95 ⟨Nat.le_of_ble_eq_true rfl, Nat.le_of_ble_eq_true rfl⟩ (fun H locs hR hS hz95 => ?_)
    obtain ⟨xn9, hxn9⟩ : ∃ z9, z9 = kx_ml xn8 w n := ⟨_, rfl⟩
    rw [← hxn9] at hR
    have sxn9_0 : kx_Sh xn9 w n nb z := by rw [hxn9]; exact (kx_ml_sh sxn8_0 _)
    exact bd_rv C hr hlk (hR.eq (by first | rfl | (subst_vars; rfl)) rfl) hS (Nat.zero_le _) (Nat.zero_le _) dX2_play_98
  · skip
    refine lv_aload_n hx hb dX2_play_47 rfl (lv_at hl 0 rfl) ?_
    refine lv_dup hx hb dX2_play_48 rfl ?_
    refine bd_g_X0_outs C hR (by omega) (by omega) qf_X2_107 dX2_play_49 ?_
    refine lv_iconst (v := 1) hx hb dX2_play_52 (by decide) ?_
    refine lv_iadd hx hb dX2_play_53 ?_
    refine bd_p_X0_outs C hR hS (by omega) (by omega) qf_X2_107 dX2_play_54 (fun H locs hR hS => ?_)
    obtain ⟨xn10, hxn10⟩ : ∃ z9, z9 = bd_up xn4 27 w b ((xn4 27 w b) + 1) := ⟨_, rfl⟩
    rw [← hxn10] at hR
    have sxn10_0 : kx_Sh xn10 w n nb z := by rw [hxn10]; exact (kx_Sh_up sxn4_0 (by decide))
    have hR : bd_Rep E (kx_p4 xn4 w b (z b)) ym om H := hR.eq (by rw [hxn10, kx_p4, if_pos c44]) rfl
    obtain ⟨xn11, hxn11⟩ : ∃ z9, z9 = kx_p4 xn4 w b (z b) := ⟨_, rfl⟩
    rw [← hxn11] at hR
    have sxn11_0 : kx_Sh xn11 w n nb z := by rw [hxn11]; exact (kx_p4_sh sxn4_0)
    refine lv_aload_n hx hb dX2_play_57 rfl (lv_at hl 1 rfl) ?_
    refine bd_g_X2_season C hR (by omega) qf_X2_12 dX2_play_58 ?_
    refine lv_dup hx hb dX2_play_61 rfl ?_
    refine bd_g_X4_deputies C hR (by omega) qf_X2_110 dX2_play_62 ?_
    refine lv_aload_n hx hb dX2_play_65 rfl (lv_at hl 0 rfl) ?_
    refine bd_g_X0_deputies C hR (by omega) (by omega) qf_X2_94 dX2_play_66 ?_
    refine lv_iadd hx hb dX2_play_69 ?_
    refine bd_p_X4_deputies C hR hS (by omega) qf_X2_110 dX2_play_70 (fun H locs hR hS => ?_)
    obtain ⟨xn12, hxn12⟩ : ∃ z9, z9 = bd_up xn11 33 w 0 ((xn11 33 w 0) + (xn11 24 w b)) := ⟨_, rfl⟩
    rw [← hxn12] at hR
    have sxn12_0 : kx_Sh xn12 w n nb z := by rw [hxn12]; exact (kx_Sh_up sxn11_0 (by decide))
    refine lv_aload_n hx hb dX2_play_73 rfl (lv_at hl 1 rfl) ?_
    refine bd_g_X2_season C hR (by omega) qf_X2_12 dX2_play_74 ?_
    refine lv_dup hx hb dX2_play_77 rfl ?_
    refine bd_g_X4_empties C hR (by omega) qf_X2_111 dX2_play_78 ?_
    refine lv_aload_n hx hb dX2_play_81 rfl (lv_at hl 0 rfl) ?_
    refine bd_g_X0_empties C hR (by omega) (by omega) qf_X2_100 dX2_play_82 ?_
    refine lv_iadd hx hb dX2_play_85 ?_
    refine bd_p_X4_empties C hR hS (by omega) qf_X2_111 dX2_play_86 (fun H locs hR hS => ?_)
    obtain ⟨xn13, hxn13⟩ : ∃ z9, z9 = bd_up xn12 34 w 0 ((xn12 34 w 0) + (xn12 25 w b)) := ⟨_, rfl⟩
    rw [← hxn13] at hR
    have sxn13_0 : kx_Sh xn13 w n nb z := by rw [hxn13]; exact (kx_Sh_up sxn12_0 (by decide))
    refine lv_aload_n hx hb dX2_play_89 rfl (lv_at hl 1 rfl) ?_
    refine lv_aload_n hx hb dX2_play_90 rfl (lv_at hl 0 rfl) ?_
    refine bd_cV0 [.ref (bd_ea E 9 w b)] [] C (k_X2_noteSittings l E xn13 ym om w n nb z b (by omega) sxn13_0 (by omega)) hR hS (bd_recv C.2 hR ⟨by decide, show w < 2 by omega, (by decide)⟩ rfl rfl) qm_X2_112 qi_X2_noteSittings qs_X2_noteSittings qz_X2 qc_X2_noteSittings qp_X2_noteSittings ⟨Nat.le_of_ble_eq_true rfl, Nat.le_of_ble_eq_true rfl⟩ hl.1 (Nat.le_of_ble_eq_true rfl) dX2_play_91 ⟨Nat.le_of_ble_eq_true rfl, Nat.le_of_ble_eq_true rfl⟩ (fun H locs hR hS hz91 => ?_)
    obtain ⟨xn14, hxn14⟩ : ∃ z9, z9 = kx_no xn13 w n b (z b) := ⟨_, rfl⟩
    rw [← hxn14] at hR
    have sxn14_0 : kx_Sh xn14 w n nb z := by rw [hxn14]; exact (kx_no_sh sxn13_0 _)
    refine lv_aload_n hx hb dX2_play_94 rfl (lv_at hl 1 rfl) ?_
    refine bd_cV0 [] [] C (k_X2_moveLips l E xn14 ym om w n nb z (by omega) sxn14_0) hR hS (bd_recv C.2 hR ⟨by decide, show w < 2 by omega, (by decide)⟩ rfl rfl) qm_X2_116 qi_X2_moveLips qs_X2_moveLips qz_X2 qc_X2_moveLips qp_X2_moveLips ⟨Nat.le_of_ble_eq_true rfl, Nat.le_of_ble_eq_true rfl⟩ hl.1 (Nat.le_of_ble_eq_true rfl) dX2_play_95 ⟨Nat.le_of_ble_eq_true rfl, Nat.le_of_ble_eq_true rfl⟩ (fun H locs hR hS hz95 => ?_)
    obtain ⟨xn15, hxn15⟩ : ∃ z9, z9 = kx_ml xn14 w n := ⟨_, rfl⟩
    rw [← hxn15] at hR
    have sxn15_0 : kx_Sh xn15 w n nb z := by rw [hxn15]; exact (kx_ml_sh sxn14_0 _)
    exact bd_rv C hr hlk (hR.eq (by first | rfl | (subst_vars; rfl)) rfl) hS (Nat.zero_le _) (Nat.zero_le _) dX2_play_98
set_option maxHeartbeats 4000000 in
set_option maxRecDepth 100000 in
theorem k_X2_aheadByMarks (l : Launch) (E : bd_E) (xm ym : bd_M) (om : Nat → Int64) (w : Nat) (n : Nat) (nb : Nat) (z : (Nat→Nat)) (i : Nat) (hw : w < 2) (hs : kx_Sh xm w n nb z) (hi : i < nb) : bd_Ct l yX2_aheadByMarks cX2_aheadByMarks 6 (some .int) 1 21 0 0 E [.ref (bd_ea E 2 w 0), .int (nI i), .ref (bd_ea E 9 w i)] xm ym om xm ym om (some (.int (kx_abm xm w i nb))) := by
  refine bd_open RX2 rfl (by decide) (Nat.le_of_ble_eq_true rfl) ?_
  intro p e s m args below meth c ls C hr hlk hS hR hl
  have hx := C.1.1
  have hb := C.1.2.1
  have hs24 := hs.2.1
  have hs6 := hs.2.2.2.1
  have hl : lv_has ls 6 [(0, .ref (bd_ea E 2 w 0)), (1, .int (nI i)), (2, .ref (bd_ea E 9 w i))] := hl
  refine lv_iconst (v := 0) hx hb dX2_aheadByMarks_0 (by decide) ?_
  refine lv_istore_n (lv' := [(3, .int 0), (0, .ref (bd_ea E 2 w 0)), (1, .int (nI i)), (2, .ref (bd_ea E 9 w i))]) hx hb dX2_aheadByMarks_1 rfl hl (by decide) rfl (fun ls hl => ?_)
  refine lv_iconst (v := 0) hx hb dX2_aheadByMarks_2 (by decide) ?_
  refine lv_istore (lv' := [(4, .int 0), (3, .int 0), (0, .ref (bd_ea E 2 w 0)), (1, .int (nI i)), (2, .ref (bd_ea E 9 w i))]) hx hb dX2_aheadByMarks_3 hl (by decide) rfl (fun ls hl => ?_)
  have lp1 : ∀ (t1 j : Nat), j ≤ nb → nb - j < t1 → ∀ (H : Heap) (locs : List Loc), bd_Rep E xm ym om H → va_S (bd_A E) s.heap H locs → ∀ (ls : Array Slot), lv_has ls 6 [(4, .int (nI j)), (3, .int (kx_abm xm w i j)), (0, .ref (bd_ea E 2 w 0)), (1, .int (nI i)), (2, .ref (bd_ea E 9 w i))] → W p l e { frames := 1, cells := 0, slots := 0, locals := 21 } s m args below meth c H locs 0 0 (MQ below (bd_Q E xm ym om (some (.int (kx_abm xm w i nb)))) args s 0 0 (bd_A E)) (F0 m 5 ls []) := by
    intro t1
    induction t1 with
    | zero => intro j h1 h2; exact absurd h2 (Nat.not_lt_zero _)
    | succ t1 ih1 =>
      intro j hj1 hj2 H locs hR hS ls hl
      refine lv_iload hx hb dX2_aheadByMarks_5 (lv_at hl 0 rfl) ?_
      refine lv_aload_n hx hb dX2_aheadByMarks_7 rfl (lv_at hl 2 rfl) ?_
      refine bd_g_X2_season C hR (by omega) qf_X2_12 dX2_aheadByMarks_8 ?_
      refine bd_g_X4_bandCount C hR (by omega) qf_X2_21 dX2_aheadByMarks_11 ?_
      rw [show xm 31 w 0 = nI nb from (show kx_Sh xm w n nb z from hs).2.2.1]
      refine lv_icmp_ge (tgt := 62) hx hb dX2_aheadByMarks_14 (by decide) (fun c14 => ?_) (fun c14 => ?_)
      · skip
        have nc14 : nb ≤ j := (nI_leI (a := nb) (b := j) (by omega) (by omega)).mp c14
        obtain rfl : nb = j := by omega
        refine lv_iload_n hx hb dX2_aheadByMarks_62 rfl (lv_at hl 1 rfl) ?_
        exact bd_ri C hr hlk (hR.eq rfl rfl) hS (Nat.zero_le _) (Nat.zero_le _) dX2_aheadByMarks_63 rfl
      · skip
        have nc14 : ¬ nb ≤ j := fun q9 => c14 ((nI_leI (a := nb) (b := j) (by omega) (by omega)).mpr q9)
        refine lv_aload_n hx hb dX2_aheadByMarks_17 rfl (lv_at hl 2 rfl) ?_
        refine bd_g_X2_season C hR (by omega) qf_X2_12 dX2_aheadByMarks_18 ?_
        refine bd_g_X4_bands C hR (by omega) qf_X2_37 dX2_aheadByMarks_21 ?_
        refine lv_iload hx hb dX2_aheadByMarks_24 (lv_at hl 0 rfl) ?_
        refine bd_ld_4 C hR (by omega) (j := j) (by omega) dX2_aheadByMarks_26 ?_
        refine lv_astore (lv' := [(5, .ref (bd_ea E 9 w j)), (4, .int (nI j)), (3, .int (kx_abm xm w i j)), (0, .ref (bd_ea E 2 w 0)), (1, .int (nI i)), (2, .ref (bd_ea E 9 w i))]) hx hb dX2_aheadByMarks_27 hl (by decide) rfl (fun ls hl => ?_)
        refine lv_aload hx hb dX2_aheadByMarks_29 (lv_at hl 0 rfl) ?_
        refine lv_aload_n hx hb dX2_aheadByMarks_31 rfl (lv_at hl 5 rfl) ?_
        refine bd_cV1 [.ref (bd_ea E 9 w i)] [] C (k_X0_isBetterThan l E xm ym om w j i (by omega) (by omega) (by omega)) hR hS (bd_recv C.2 hR ⟨by decide, show w < 2 by omega, show j < 6 by omega⟩ rfl rfl) qm_X2_215 qi_X0_isBetterThan qs_X0_isBetterThan qz_X0 qc_X0_isBetterThan qp_X0_isBetterThan ⟨Nat.le_of_ble_eq_true rfl, Nat.le_of_ble_eq_true rfl⟩ hl.1 (Nat.le_of_ble_eq_true rfl) dX2_aheadByMarks_32 ⟨Nat.le_of_ble_eq_true rfl, Nat.le_of_ble_eq_true rfl⟩ (fun H locs hR hS hz32 => ?_)
        refine bd_ifne (P := kx_bt xm w j i) (tgt := 53) C dX2_aheadByMarks_35 (by decide) (fun c35 => ?_) (fun c35 => ?_)
        · skip
          refine lv_iinc (v := (kx_abm xm w i j) + 1) (lv' := [(3, .int ((kx_abm xm w i j) + 1)), (5, .ref (bd_ea E 9 w j)), (4, .int (nI j)), (0, .ref (bd_ea E 2 w 0)), (1, .int (nI i)), (2, .ref (bd_ea E 9 w i))]) hx hb dX2_aheadByMarks_53 hl (k := 2) rfl rfl (by decide) rfl (fun ls hl => ?_)
          refine lv_iinc (v := nI (j + 1)) (lv' := [(4, .int (nI (j + 1))), (3, .int ((kx_abm xm w i j) + 1)), (5, .ref (bd_ea E 9 w j)), (0, .ref (bd_ea E 2 w 0)), (1, .int (nI i)), (2, .ref (bd_ea E 9 w i))]) hx hb dX2_aheadByMarks_56 hl (k := 2) rfl (nI_1 j) (by decide) rfl (fun ls hl => ?_)
          refine lv_goto (tgt := 5) hx hb dX2_aheadByMarks_59 (by decide) ?_
          exact ih1 (j + 1) (by omega) (by omega) _ _ (hR.eq rfl rfl) hS _ (by rw [show (kx_abm xm w i (j + 1) : Int32) = (kx_abm xm w i j) + 1 from (by first | (simp (config := { decide := true }) only [kx_abm, eq_false c14, eq_false nc14, eq_true c35, ↓reduceIte, not_true_eq_false, not_false_eq_true, and_self, and_true, true_and, and_false, false_and]; done) | rfl)]; exact lv_sub hl [0, 1, 3, 4, 5] rfl)
        · skip
          refine lv_iload hx hb dX2_aheadByMarks_38 (lv_at hl 1 rfl) ?_
          refine lv_iload_n hx hb dX2_aheadByMarks_40 rfl (lv_at hl 4 rfl) ?_
          refine lv_icmp_ge (tgt := 56) hx hb dX2_aheadByMarks_41 (by decide) (fun c41 => ?_) (fun c41 => ?_)
          · skip
            have nc41 : i ≤ j := (nI_leI (a := i) (b := j) (by omega) (by omega)).mp c41
            refine lv_iinc (v := nI (j + 1)) (lv' := [(4, .int (nI (j + 1))), (5, .ref (bd_ea E 9 w j)), (3, .int (kx_abm xm w i j)), (0, .ref (bd_ea E 2 w 0)), (1, .int (nI i)), (2, .ref (bd_ea E 9 w i))]) hx hb dX2_aheadByMarks_56 hl (k := 1) rfl (nI_1 j) (by decide) rfl (fun ls hl => ?_)
            refine lv_goto (tgt := 5) hx hb dX2_aheadByMarks_59 (by decide) ?_
            exact ih1 (j + 1) (by omega) (by omega) _ _ (hR.eq rfl rfl) hS _ (by rw [show (kx_abm xm w i (j + 1) : Int32) = kx_abm xm w i j from (by first | (simp (config := { decide := true }) only [kx_abm, eq_false c14, eq_false nc14, eq_false c35, eq_true c41, eq_true nc41, ↓reduceIte, not_true_eq_false, not_false_eq_true, and_self, and_true, true_and, and_false, false_and]; done) | rfl)]; exact lv_sub hl [0, 2, 3, 4, 5] rfl)
          · skip
            have nc41 : ¬ i ≤ j := fun q9 => c41 ((nI_leI (a := i) (b := j) (by omega) (by omega)).mpr q9)
            refine lv_aload_n hx hb dX2_aheadByMarks_44 rfl (lv_at hl 5 rfl) ?_
            refine lv_aload hx hb dX2_aheadByMarks_45 (lv_at hl 0 rfl) ?_
            refine bd_cV1 [.ref (bd_ea E 9 w j)] [] C (k_X0_isBetterThan l E xm ym om w i j (by omega) (by omega) (by omega)) hR hS (bd_recv C.2 hR ⟨by decide, show w < 2 by omega, show i < 6 by omega⟩ rfl rfl) qm_X2_215 qi_X0_isBetterThan qs_X0_isBetterThan qz_X0 qc_X0_isBetterThan qp_X0_isBetterThan ⟨Nat.le_of_ble_eq_true rfl, Nat.le_of_ble_eq_true rfl⟩ hl.1 (Nat.le_of_ble_eq_true rfl) dX2_aheadByMarks_47 ⟨Nat.le_of_ble_eq_true rfl, Nat.le_of_ble_eq_true rfl⟩ (fun H locs hR hS hz47 => ?_)
            refine bd_ifne (P := kx_bt xm w i j) (tgt := 56) C dX2_aheadByMarks_50 (by decide) (fun c50 => ?_) (fun c50 => ?_)
            · skip
              refine lv_iinc (v := nI (j + 1)) (lv' := [(4, .int (nI (j + 1))), (5, .ref (bd_ea E 9 w j)), (3, .int (kx_abm xm w i j)), (0, .ref (bd_ea E 2 w 0)), (1, .int (nI i)), (2, .ref (bd_ea E 9 w i))]) hx hb dX2_aheadByMarks_56 hl (k := 1) rfl (nI_1 j) (by decide) rfl (fun ls hl => ?_)
              refine lv_goto (tgt := 5) hx hb dX2_aheadByMarks_59 (by decide) ?_
              exact ih1 (j + 1) (by omega) (by omega) _ _ (hR.eq rfl rfl) hS _ (by rw [show (kx_abm xm w i (j + 1) : Int32) = kx_abm xm w i j from (by first | (simp (config := { decide := true }) only [kx_abm, eq_false c14, eq_false nc14, eq_false c35, eq_false c41, eq_false nc41, eq_true c50, ↓reduceIte, not_true_eq_false, not_false_eq_true, and_self, and_true, true_and, and_false, false_and]; done) | rfl)]; exact lv_sub hl [0, 2, 3, 4, 5] rfl)
            · skip
              refine lv_iinc (v := (kx_abm xm w i j) + 1) (lv' := [(3, .int ((kx_abm xm w i j) + 1)), (5, .ref (bd_ea E 9 w j)), (4, .int (nI j)), (0, .ref (bd_ea E 2 w 0)), (1, .int (nI i)), (2, .ref (bd_ea E 9 w i))]) hx hb dX2_aheadByMarks_53 hl (k := 2) rfl rfl (by decide) rfl (fun ls hl => ?_)
              refine lv_iinc (v := nI (j + 1)) (lv' := [(4, .int (nI (j + 1))), (3, .int ((kx_abm xm w i j) + 1)), (5, .ref (bd_ea E 9 w j)), (0, .ref (bd_ea E 2 w 0)), (1, .int (nI i)), (2, .ref (bd_ea E 9 w i))]) hx hb dX2_aheadByMarks_56 hl (k := 2) rfl (nI_1 j) (by decide) rfl (fun ls hl => ?_)
              refine lv_goto (tgt := 5) hx hb dX2_aheadByMarks_59 (by decide) ?_
              exact ih1 (j + 1) (by omega) (by omega) _ _ (hR.eq rfl rfl) hS _ (by rw [show (kx_abm xm w i (j + 1) : Int32) = (kx_abm xm w i j) + 1 from (by first | (simp (config := { decide := true }) only [kx_abm, eq_false c14, eq_false nc14, eq_false c35, eq_false c41, eq_false nc41, eq_false c50, ↓reduceIte, not_true_eq_false, not_false_eq_true, and_self, and_true, true_and, and_false, false_and]; done) | rfl)]; exact lv_sub hl [0, 1, 3, 4, 5] rfl)
  exact lp1 (nb + 1) 0 (by omega) (by omega) _ _ (hR.eq rfl rfl) hS _ (by first | exact lv_sub hl [0, 1, 2, 3, 4] rfl | (rw [show (nI 0 : Int32) = 0 from by first | rfl | decide | simp [nI_0]]; rw [show (kx_abm xm w i 0 : Int32) = 0 from by first | rfl | decide | simp [nI_0]]; exact lv_sub hl [0, 1, 2, 3, 4] rfl))
set_option maxHeartbeats 4000000 in
set_option maxRecDepth 100000 in
theorem k_X2_pointsFor (l : Launch) (E : bd_E) (xm ym : bd_M) (om : Nat → Int64) (v : Int32)  : bd_Ct l yX2_pointsFor cX2_pointsFor 1 (some .int) 0 0 0 0 E [.int v] xm ym om xm ym om (some (.int (kx_pts v))) := by
  refine bd_open RX2 rfl (by decide) (Nat.le_of_ble_eq_true rfl) ?_
  intro p e s m args below meth c ls C hr hlk hS hR hl
  have hx := C.1.1
  have hb := C.1.2.1
  have hl : lv_has ls 1 [(0, .int v)] := hl
  refine lv_iload_n hx hb dX2_pointsFor_0 rfl (lv_at hl 0 rfl) ?_
  by_cases e1_0 : v = 0
  · refine lv_tableIn (tgt := 28) (off := 27) hx hb dX2_pointsFor_1 (by rw [e1_0]; decide) (by rw [e1_0]; decide) (by rw [e1_0]; rfl) (by decide) ?_
    refine lv_iconst (v := 5) hx hb dX2_pointsFor_28 (by decide) ?_
    exact bd_ri C hr hlk (hR.eq rfl rfl) hS (Nat.zero_le _) (Nat.zero_le _) dX2_pointsFor_29 (by first | (simp (config := { decide := true }) only [kx_pts, eq_true e1_0, ↓reduceIte, not_true_eq_false, not_false_eq_true, and_self, and_true, true_and, and_false, false_and]; done) | rfl)
  · skip
    by_cases e1_1 : v = 1
    · refine lv_tableIn (tgt := 30) (off := 29) hx hb dX2_pointsFor_1 (by rw [e1_1]; decide) (by rw [e1_1]; decide) (by rw [e1_1]; rfl) (by decide) ?_
      refine lv_iconst (v := 3) hx hb dX2_pointsFor_30 (by decide) ?_
      exact bd_ri C hr hlk (hR.eq rfl rfl) hS (Nat.zero_le _) (Nat.zero_le _) dX2_pointsFor_31 (by first | (simp (config := { decide := true }) only [kx_pts, eq_false e1_0, eq_true e1_1, ↓reduceIte, not_true_eq_false, not_false_eq_true, and_self, and_true, true_and, and_false, false_and]; done) | rfl)
    · skip
      by_cases e1_2 : v = 2
      · refine lv_tableIn (tgt := 32) (off := 31) hx hb dX2_pointsFor_1 (by rw [e1_2]; decide) (by rw [e1_2]; decide) (by rw [e1_2]; rfl) (by decide) ?_
        refine lv_iconst (v := 1) hx hb dX2_pointsFor_32 (by decide) ?_
        exact bd_ri C hr hlk (hR.eq rfl rfl) hS (Nat.zero_le _) (Nat.zero_le _) dX2_pointsFor_33 (by first | (simp (config := { decide := true }) only [kx_pts, eq_false e1_0, eq_false e1_1, eq_true e1_2, ↓reduceIte, not_true_eq_false, not_false_eq_true, and_self, and_true, true_and, and_false, false_and]; done) | rfl)
      · skip
        have x1_0 := bd_nei e1_0
        have x1_1 := bd_nei e1_1
        have x1_2 := bd_nei e1_2
        have y1 : (v).toInt < 0 ∨ 2 < (v).toInt := by
          simp only [show ((0 : Int32).toInt) = 0 from rfl, show ((1 : Int32).toInt) = 1 from rfl, show ((2 : Int32).toInt) = 2 from rfl] at x1_0 x1_1 x1_2
          omega
        refine lv_tableOut (tgt := 34) hx hb dX2_pointsFor_1 y1 (by decide) ?_
        refine lv_iconst (v := 0) hx hb dX2_pointsFor_34 (by decide) ?_
        exact bd_ri C hr hlk (hR.eq rfl rfl) hS (Nat.zero_le _) (Nat.zero_le _) dX2_pointsFor_35 (by first | (simp (config := { decide := true }) only [kx_pts, eq_false e1_0, eq_false e1_1, eq_false e1_2, ↓reduceIte, not_true_eq_false, not_false_eq_true, and_self, and_true, true_and, and_false, false_and]; done) | rfl)
set_option maxHeartbeats 4000000 in
set_option maxRecDepth 100000 in
theorem k_X2_givePlaces (l : Launch) (E : bd_E) (xm ym : bd_M) (om : Nat → Int64) (w : Nat) (n : Nat) (nb : Nat) (z : (Nat→Nat)) (hw : w < 2) (hs : kx_Sh xm w n nb z) : bd_Ct l yX2_givePlaces cX2_givePlaces 4 (some .int) 2 46 0 0 E [.ref (bd_ea E 2 w 0)] xm ym om (kx_gp xm w nb nb) ym om (some (.int (kx_gw xm w nb nb))) := by
  refine bd_open RX2 rfl (by decide) (Nat.le_of_ble_eq_true rfl) ?_
  intro p e s m args below meth c ls C hr hlk hS hR hl
  have hx := C.1.1
  have hb := C.1.2.1
  have hs24 := hs.2.1
  have hs6 := hs.2.2.2.1
  have hl : lv_has ls 4 [(0, .ref (bd_ea E 2 w 0))] := hl
  refine lv_iconst (v := (-1)) hx hb dX2_givePlaces_0 (by decide) ?_
  refine lv_istore_n (lv' := [(1, .int (-1)), (0, .ref (bd_ea E 2 w 0))]) hx hb dX2_givePlaces_1 rfl hl (by decide) rfl (fun ls hl => ?_)
  refine lv_iconst (v := 0) hx hb dX2_givePlaces_2 (by decide) ?_
  refine lv_istore_n (lv' := [(2, .int 0), (1, .int (-1)), (0, .ref (bd_ea E 2 w 0))]) hx hb dX2_givePlaces_3 rfl hl (by decide) rfl (fun ls hl => ?_)
  have lp1 : ∀ (t1 j : Nat), j ≤ nb → nb - j < t1 → ∀ (H : Heap) (locs : List Loc), bd_Rep E (kx_gp xm w nb j) ym om H → va_S (bd_A E) s.heap H locs → ∀ (ls : Array Slot), lv_has ls 4 [(2, .int (nI j)), (1, .int (kx_gw xm w nb j)), (0, .ref (bd_ea E 2 w 0))] → W p l e { frames := 2, cells := 0, slots := 0, locals := 46 } s m args below meth c H locs 0 0 (MQ below (bd_Q E (kx_gp xm w nb nb) ym om (some (.int (kx_gw xm w nb nb)))) args s 0 0 (bd_A E)) (F0 m 4 ls []) := by
    intro t1
    induction t1 with
    | zero => intro j h1 h2; exact absurd h2 (Nat.not_lt_zero _)
    | succ t1 ih1 =>
      intro j hj1 hj2 H locs hR hS ls hl
      refine lv_iload_n hx hb dX2_givePlaces_4 rfl (lv_at hl 0 rfl) ?_
      refine lv_aload_n hx hb dX2_givePlaces_5 rfl (lv_at hl 2 rfl) ?_
      refine bd_g_X2_season C hR (by omega) qf_X2_12 dX2_givePlaces_6 ?_
      refine bd_g_X4_bandCount C hR (by omega) qf_X2_21 dX2_givePlaces_9 ?_
      rw [show (kx_gp xm w nb j) 31 w 0 = nI nb from (show kx_Sh (kx_gp xm w nb j) w n nb z from (kx_gp_sh hs j)).2.2.1]
      refine lv_icmp_ge (tgt := 73) hx hb dX2_givePlaces_12 (by decide) (fun c12 => ?_) (fun c12 => ?_)
      · skip
        have nc12 : nb ≤ j := (nI_leI (a := nb) (b := j) (by omega) (by omega)).mp c12
        obtain rfl : nb = j := by omega
        refine lv_iload_n hx hb dX2_givePlaces_73 rfl (lv_at hl 1 rfl) ?_
        exact bd_ri C hr hlk (hR.eq rfl rfl) hS (Nat.zero_le _) (Nat.zero_le _) dX2_givePlaces_74 rfl
      · skip
        have nc12 : ¬ nb ≤ j := fun q9 => c12 ((nI_leI (a := nb) (b := j) (by omega) (by omega)).mpr q9)
        refine lv_aload_n hx hb dX2_givePlaces_15 rfl (lv_at hl 2 rfl) ?_
        refine bd_g_X2_season C hR (by omega) qf_X2_12 dX2_givePlaces_16 ?_
        refine bd_g_X4_bands C hR (by omega) qf_X2_37 dX2_givePlaces_19 ?_
        refine lv_iload_n hx hb dX2_givePlaces_22 rfl (lv_at hl 0 rfl) ?_
        refine bd_ld_4 C hR (by omega) (j := j) (by omega) dX2_givePlaces_23 ?_
        refine lv_astore_n (lv' := [(3, .ref (bd_ea E 9 w j)), (2, .int (nI j)), (1, .int (kx_gw xm w nb j)), (0, .ref (bd_ea E 2 w 0))]) hx hb dX2_givePlaces_24 rfl hl (by decide) rfl (fun ls hl => ?_)
        refine lv_aload_n hx hb dX2_givePlaces_25 rfl (lv_at hl 0 rfl) ?_
        refine lv_aload_n hx hb dX2_givePlaces_26 rfl (lv_at hl 3 rfl) ?_
        refine lv_iload_n hx hb dX2_givePlaces_27 rfl (lv_at hl 1 rfl) ?_
        refine lv_aload_n hx hb dX2_givePlaces_28 rfl (lv_at hl 0 rfl) ?_
        refine bd_cV1 [.int (nI j), .ref (bd_ea E 9 w j)] [.ref (bd_ea E 9 w j)] C (k_X2_aheadByMarks l E (kx_gp xm w nb j) ym om w n nb z j (by omega) (kx_gp_sh hs j) (by omega)) hR hS (bd_recv C.2 hR ⟨by decide, show w < 2 by omega, (by decide)⟩ rfl rfl) qm_X2_202 qi_X2_aheadByMarks qs_X2_aheadByMarks qz_X2 qc_X2_aheadByMarks qp_X2_aheadByMarks ⟨Nat.le_of_ble_eq_true rfl, Nat.le_of_ble_eq_true rfl⟩ hl.1 (Nat.le_of_ble_eq_true rfl) dX2_givePlaces_29 ⟨Nat.le_of_ble_eq_true rfl, Nat.le_of_ble_eq_true rfl⟩ (fun H locs hR hS hz29 => ?_)
        refine bd_p_X0_place C hR hS (by omega) (by omega) qf_X2_206 dX2_givePlaces_32 (fun H locs hR hS => ?_)
        refine lv_aload_n hx hb dX2_givePlaces_35 rfl (lv_at hl 0 rfl) ?_
        refine bd_g_X0_marks C hR (by omega) (by omega) qf_X2_91 dX2_givePlaces_36 ?_
        refine lv_if_le (tgt := 58) hx hb dX2_givePlaces_39 (by decide) (fun c39 => ?_) (fun c39 => ?_)
        · skip
          refine lv_aload_n hx hb dX2_givePlaces_58 rfl (lv_at hl 0 rfl) ?_
          refine bd_g_X0_place C hR (by omega) (by omega) qf_X2_206 dX2_givePlaces_59 ?_
          refine lv_if_ne (tgt := 67) hx hb dX2_givePlaces_62 (by decide) (fun c62 => ?_) (fun c62 => ?_)
          · skip
            refine lv_iinc (v := nI (j + 1)) (lv' := [(2, .int (nI (j + 1))), (3, .ref (bd_ea E 9 w j)), (1, .int (kx_gw xm w nb j)), (0, .ref (bd_ea E 2 w 0))]) hx hb dX2_givePlaces_67 hl (k := 1) rfl (nI_1 j) (by decide) rfl (fun ls hl => ?_)
            refine lv_goto (tgt := 4) hx hb dX2_givePlaces_70 (by decide) ?_
            exact ih1 (j + 1) (by omega) (by omega) _ _ (hR.eq (by first | (simp (config := { decide := true }) only [kx_gw, kx_gp, kx_gp2, eq_false c12, eq_false nc12, eq_true c39, eq_false c62, ↓reduceIte, not_true_eq_false, not_false_eq_true, and_self, and_true, true_and, and_false, false_and]; done) | rfl) rfl) hS _ (by rw [show (kx_gw xm w nb (j + 1) : Int32) = kx_gw xm w nb j from (by first | (simp (config := { decide := true }) only [kx_gw, kx_gp, kx_gp2, eq_false c12, eq_false nc12, eq_true c39, eq_false c62, ↓reduceIte, not_true_eq_false, not_false_eq_true, and_self, and_true, true_and, and_false, false_and]; done) | rfl)]; exact lv_sub hl [0, 2, 3] rfl)
          · skip
            refine lv_iload_n hx hb dX2_givePlaces_65 rfl (lv_at hl 1 rfl) ?_
            refine lv_istore_n (lv' := [(1, .int (nI j)), (3, .ref (bd_ea E 9 w j)), (2, .int (nI j)), (0, .ref (bd_ea E 2 w 0))]) hx hb dX2_givePlaces_66 rfl hl (by decide) rfl (fun ls hl => ?_)
            refine lv_iinc (v := nI (j + 1)) (lv' := [(2, .int (nI (j + 1))), (1, .int (nI j)), (3, .ref (bd_ea E 9 w j)), (0, .ref (bd_ea E 2 w 0))]) hx hb dX2_givePlaces_67 hl (k := 2) rfl (nI_1 j) (by decide) rfl (fun ls hl => ?_)
            refine lv_goto (tgt := 4) hx hb dX2_givePlaces_70 (by decide) ?_
            exact ih1 (j + 1) (by omega) (by omega) _ _ (hR.eq (by first | (simp (config := { decide := true }) only [kx_gw, kx_gp, kx_gp2, eq_false c12, eq_false nc12, eq_true c39, eq_true c62, ↓reduceIte, not_true_eq_false, not_false_eq_true, and_self, and_true, true_and, and_false, false_and]; done) | rfl) rfl) hS _ (by rw [show (kx_gw xm w nb (j + 1) : Int32) = nI j from (by first | (simp (config := { decide := true }) only [kx_gw, kx_gp, kx_gp2, eq_false c12, eq_false nc12, eq_true c39, eq_true c62, ↓reduceIte, not_true_eq_false, not_false_eq_true, and_self, and_true, true_and, and_false, false_and]; done) | rfl)]; exact lv_sub hl [0, 1, 3] rfl)
        · skip
          refine lv_aload_n hx hb dX2_givePlaces_42 rfl (lv_at hl 0 rfl) ?_
          refine lv_dup hx hb dX2_givePlaces_43 rfl ?_
          refine bd_g_X0_points C hR (by omega) (by omega) qf_X2_209 dX2_givePlaces_44 ?_
          refine lv_aload_n hx hb dX2_givePlaces_47 rfl (lv_at hl 0 rfl) ?_
          refine bd_g_X0_place C hR (by omega) (by omega) qf_X2_206 dX2_givePlaces_48 ?_
          refine bd_cS1 [.int ((bd_up (kx_gp xm w nb j) 23 w j (kx_abm (kx_gp xm w nb j) w j nb)) 23 w j)] [.int ((bd_up (kx_gp xm w nb j) 23 w j (kx_abm (kx_gp xm w nb j) w j nb)) 26 w j), .ref (bd_ea E 9 w j)] C (k_X2_pointsFor l E (bd_up (kx_gp xm w nb j) 23 w j (kx_abm (kx_gp xm w nb j) w j nb)) ym om ((bd_up (kx_gp xm w nb j) 23 w j (kx_abm (kx_gp xm w nb j) w j nb)) 23 w j) ) hR hS qm_X2_212 qt_X2_pointsFor qz_X2 qc_X2_pointsFor qp_X2_pointsFor.2 ⟨Nat.le_of_ble_eq_true rfl, Nat.le_of_ble_eq_true rfl⟩ hl.1 (Nat.le_of_ble_eq_true rfl) dX2_givePlaces_51 ⟨Nat.le_of_ble_eq_true rfl, Nat.le_of_ble_eq_true rfl⟩ (fun H locs hR hS hz51 => ?_)
          refine lv_iadd hx hb dX2_givePlaces_54 ?_
          refine bd_p_X0_points C hR hS (by omega) (by omega) qf_X2_209 dX2_givePlaces_55 (fun H locs hR hS => ?_)
          refine lv_aload_n hx hb dX2_givePlaces_58 rfl (lv_at hl 0 rfl) ?_
          refine bd_g_X0_place C hR (by omega) (by omega) qf_X2_206 dX2_givePlaces_59 ?_
          refine lv_if_ne (tgt := 67) hx hb dX2_givePlaces_62 (by decide) (fun c62 => ?_) (fun c62 => ?_)
          · skip
            refine lv_iinc (v := nI (j + 1)) (lv' := [(2, .int (nI (j + 1))), (3, .ref (bd_ea E 9 w j)), (1, .int (kx_gw xm w nb j)), (0, .ref (bd_ea E 2 w 0))]) hx hb dX2_givePlaces_67 hl (k := 1) rfl (nI_1 j) (by decide) rfl (fun ls hl => ?_)
            refine lv_goto (tgt := 4) hx hb dX2_givePlaces_70 (by decide) ?_
            exact ih1 (j + 1) (by omega) (by omega) _ _ (hR.eq (by first | (simp (config := { decide := true }) only [kx_gw, kx_gp, kx_gp2, eq_false c12, eq_false nc12, eq_false c39, eq_false c62, ↓reduceIte, not_true_eq_false, not_false_eq_true, and_self, and_true, true_and, and_false, false_and]; done) | rfl) rfl) hS _ (by rw [show (kx_gw xm w nb (j + 1) : Int32) = kx_gw xm w nb j from (by first | (simp (config := { decide := true }) only [kx_gw, kx_gp, kx_gp2, eq_false c12, eq_false nc12, eq_false c39, eq_false c62, ↓reduceIte, not_true_eq_false, not_false_eq_true, and_self, and_true, true_and, and_false, false_and]; done) | rfl)]; exact lv_sub hl [0, 2, 3] rfl)
          · skip
            refine lv_iload_n hx hb dX2_givePlaces_65 rfl (lv_at hl 1 rfl) ?_
            refine lv_istore_n (lv' := [(1, .int (nI j)), (3, .ref (bd_ea E 9 w j)), (2, .int (nI j)), (0, .ref (bd_ea E 2 w 0))]) hx hb dX2_givePlaces_66 rfl hl (by decide) rfl (fun ls hl => ?_)
            refine lv_iinc (v := nI (j + 1)) (lv' := [(2, .int (nI (j + 1))), (1, .int (nI j)), (3, .ref (bd_ea E 9 w j)), (0, .ref (bd_ea E 2 w 0))]) hx hb dX2_givePlaces_67 hl (k := 2) rfl (nI_1 j) (by decide) rfl (fun ls hl => ?_)
            refine lv_goto (tgt := 4) hx hb dX2_givePlaces_70 (by decide) ?_
            exact ih1 (j + 1) (by omega) (by omega) _ _ (hR.eq (by first | (simp (config := { decide := true }) only [kx_gw, kx_gp, kx_gp2, eq_false c12, eq_false nc12, eq_false c39, eq_true c62, ↓reduceIte, not_true_eq_false, not_false_eq_true, and_self, and_true, true_and, and_false, false_and]; done) | rfl) rfl) hS _ (by rw [show (kx_gw xm w nb (j + 1) : Int32) = nI j from (by first | (simp (config := { decide := true }) only [kx_gw, kx_gp, kx_gp2, eq_false c12, eq_false nc12, eq_false c39, eq_true c62, ↓reduceIte, not_true_eq_false, not_false_eq_true, and_self, and_true, true_and, and_false, false_and]; done) | rfl)]; exact lv_sub hl [0, 1, 3] rfl)
  exact lp1 (nb + 1) 0 (by omega) (by omega) _ _ (hR.eq rfl rfl) hS _ (by first | exact lv_sub hl [0, 1, 2] rfl | (rw [show (nI 0 : Int32) = 0 from by first | rfl | decide | simp [nI_0]]; rw [show (kx_gw xm w nb 0 : Int32) = (-1) from by first | rfl | decide | simp [nI_0]]; exact lv_sub hl [0, 1, 2] rfl))
set_option maxHeartbeats 4000000 in
set_option maxRecDepth 100000 in
theorem k_X2_playAllAheadOf (l : Launch) (E : bd_E) (xm ym : bd_M) (om : Nat → Int64) (w : Nat) (n : Nat) (nb : Nat) (z : (Nat→Nat)) (t : Nat) (b : Nat) (hw : w < 2) (hs : kx_Sh xm w n nb z) (ht : xm 32 w 0 = nI t) (ht2 : t < 1073741824) (hnb : 0 < nb) (hb : b < nb) : bd_Ct l yX2_playAllAheadOf cX2_playAllAheadOf 4 none 5 120 0 0 E [.ref (bd_ea E 2 w 0), .int (nI b)] xm ym om (kx_pl (kx_fd xm w n) w n nb z t (kx_ti t nb b nb 0)) ym om (none) := by
  refine bd_open RX2 rfl (by decide) (Nat.le_of_ble_eq_true rfl) ?_
  intro p e s m args below meth c ls C hr hlk hS hR hl
  have hx := C.1.1
  have hb := C.1.2.1
  have hs24 := hs.2.1
  have hs6 := hs.2.2.2.1
  have hsO := hs
  have hl : lv_has ls 4 [(0, .ref (bd_ea E 2 w 0)), (1, .int (nI b))] := hl
  refine lv_aload_n hx hb dX2_playAllAheadOf_0 rfl (lv_at hl 0 rfl) ?_
  refine bd_cV0 [] [] C (k_X2_forgetDeputies l E xm ym om w n nb z (by omega) hs) hR hS (bd_recv C.2 hR ⟨by decide, show w < 2 by omega, (by decide)⟩ rfl rfl) qm_X2_18 qi_X2_forgetDeputies qs_X2_forgetDeputies qz_X2 qc_X2_forgetDeputies qp_X2_forgetDeputies ⟨Nat.le_of_ble_eq_true rfl, Nat.le_of_ble_eq_true rfl⟩ hl.1 (Nat.le_of_ble_eq_true rfl) dX2_playAllAheadOf_1 ⟨Nat.le_of_ble_eq_true rfl, Nat.le_of_ble_eq_true rfl⟩ (fun H locs hR hS hz1 => ?_)
  refine lv_iconst (v := 0) hx hb dX2_playAllAheadOf_4 (by decide) ?_
  refine lv_istore_n (lv' := [(2, .int 0), (0, .ref (bd_ea E 2 w 0)), (1, .int (nI b))]) hx hb dX2_playAllAheadOf_5 rfl hl (by decide) rfl (fun ls hl => ?_)
  have lp1 : ∀ (t1 j : Nat), j ≤ nb → nb - j < t1 → (kx_ti t nb b (nb - j) j = kx_ti t nb b nb 0) → ∀ (H : Heap) (locs : List Loc), bd_Rep E (kx_pl (kx_fd xm w n) w n nb z t j) ym om H → va_S (bd_A E) s.heap H locs → ∀ (ls : Array Slot), lv_has ls 4 [(2, .int (nI j)), (0, .ref (bd_ea E 2 w 0)), (1, .int (nI b))] → W p l e { frames := 5, cells := 0, slots := 0, locals := 120 } s m args below meth c H locs 0 0 (MQ below (bd_Q E (kx_pl (kx_fd xm w n) w n nb z t (kx_ti t nb b nb 0)) ym om (none)) args s 0 0 (bd_A E)) (F0 m 6 ls []) := by
    intro t1
    induction t1 with
    | zero => intro j h1 h2; exact absurd h2 (Nat.not_lt_zero _)
    | succ t1 ih1 =>
      intro j hj1 hj2 hi H locs hR hS ls hl
      refine lv_iload_n hx hb dX2_playAllAheadOf_6 rfl (lv_at hl 0 rfl) ?_
      refine lv_aload_n hx hb dX2_playAllAheadOf_7 rfl (lv_at hl 1 rfl) ?_
      refine bd_g_X2_season C hR (by omega) qf_X2_12 dX2_playAllAheadOf_8 ?_
      refine bd_g_X4_bandCount C hR (by omega) qf_X2_21 dX2_playAllAheadOf_11 ?_
      rw [show (kx_pl (kx_fd xm w n) w n nb z t j) 31 w 0 = nI nb from (show kx_Sh (kx_pl (kx_fd xm w n) w n nb z t j) w n nb z from (kx_pl_sh (kx_fd_sh hsO n) j)).2.2.1]
      refine lv_icmp_ge (tgt := 40) hx hb dX2_playAllAheadOf_14 (by decide) (fun c14 => ?_) (fun c14 => ?_)
      · skip
        have nc14 : nb ≤ j := (nI_leI (a := nb) (b := j) (by omega) (by omega)).mp c14
        obtain rfl : nb = j := by omega
        exact bd_rv C hr hlk (hR.eq (by first | rfl | (rw [Nat.sub_self] at hi; rw [← hi]; rfl)) rfl) hS (Nat.zero_le _) (Nat.zero_le _) dX2_playAllAheadOf_40
      · skip
        have nc14 : ¬ nb ≤ j := fun q9 => c14 ((nI_leI (a := nb) (b := j) (by omega) (by omega)).mpr q9)
        refine lv_aload_n hx hb dX2_playAllAheadOf_17 rfl (lv_at hl 1 rfl) ?_
        refine lv_iload_n hx hb dX2_playAllAheadOf_18 rfl (lv_at hl 0 rfl) ?_
        refine bd_cV1 [.int (nI j)] [] C (k_X2_bandInTurn l E (kx_pl (kx_fd xm w n) w n nb z t j) ym om w n nb z t j (by omega) (kx_pl_sh (kx_fd_sh hsO n) j) (by rw [kx_pl_f, kx_fd_f (by decide)]; exact ht) (by omega) (by omega) (by omega)) hR hS (bd_recv C.2 hR ⟨by decide, show w < 2 by omega, (by decide)⟩ rfl rfl) qm_X2_25 qi_X2_bandInTurn qs_X2_bandInTurn qz_X2 qc_X2_bandInTurn qp_X2_bandInTurn ⟨Nat.le_of_ble_eq_true rfl, Nat.le_of_ble_eq_true rfl⟩ hl.1 (Nat.le_of_ble_eq_true rfl) dX2_playAllAheadOf_19 ⟨Nat.le_of_ble_eq_true rfl, Nat.le_of_ble_eq_true rfl⟩ (fun H locs hR hS hz19 => ?_)
        have htu : kx_tu t nb j < nb := Nat.mod_lt _ hnb
        refine lv_istore_n (lv' := [(3, .int (nI (kx_tu t nb j))), (2, .int (nI j)), (0, .ref (bd_ea E 2 w 0)), (1, .int (nI b))]) hx hb dX2_playAllAheadOf_22 rfl hl (by decide) rfl (fun ls hl => ?_)
        refine lv_iload_n hx hb dX2_playAllAheadOf_23 rfl (lv_at hl 0 rfl) ?_
        refine lv_iload_n hx hb dX2_playAllAheadOf_24 rfl (lv_at hl 3 rfl) ?_
        refine lv_icmp_ne (tgt := 29) hx hb dX2_playAllAheadOf_25 (by decide) (fun c25 => ?_) (fun c25 => ?_)
        · skip
          have nc25 : ¬ (kx_tu t nb j) = b := fun q9 => c25 ((nI_eq (a := (kx_tu t nb j)) (b := b) (by omega) (by omega)).mpr q9)
          refine lv_aload_n hx hb dX2_playAllAheadOf_29 rfl (lv_at hl 2 rfl) ?_
          refine lv_iload_n hx hb dX2_playAllAheadOf_30 rfl (lv_at hl 0 rfl) ?_
          refine bd_cV0 [.int (nI (kx_tu t nb j))] [] C (k_X2_play l E (kx_pl (kx_fd xm w n) w n nb z t j) ym om w n nb z (kx_tu t nb j) (by omega) (kx_pl_sh (kx_fd_sh hsO n) j) (by omega)) hR hS (bd_recv C.2 hR ⟨by decide, show w < 2 by omega, (by decide)⟩ rfl rfl) qm_X2_29 qi_X2_play qs_X2_play qz_X2 qc_X2_play qp_X2_play ⟨Nat.le_of_ble_eq_true rfl, Nat.le_of_ble_eq_true rfl⟩ hl.1 (Nat.le_of_ble_eq_true rfl) dX2_playAllAheadOf_31 ⟨Nat.le_of_ble_eq_true rfl, Nat.le_of_ble_eq_true rfl⟩ (fun H locs hR hS hz31 => ?_)
          refine lv_iinc (v := nI (j + 1)) (lv' := [(2, .int (nI (j + 1))), (3, .int (nI (kx_tu t nb j))), (0, .ref (bd_ea E 2 w 0)), (1, .int (nI b))]) hx hb dX2_playAllAheadOf_34 hl (k := 1) rfl (nI_1 j) (by decide) rfl (fun ls hl => ?_)
          refine lv_goto (tgt := 6) hx hb dX2_playAllAheadOf_37 (by decide) ?_
          exact ih1 (j + 1) (by omega) (by omega) (by rw [show nb - j = (nb - (j + 1)) + 1 by omega, kx_ti, if_neg nc25] at hi; exact hi) _ _ (hR.eq (by first | (simp (config := { decide := true }) only [kx_pl, eq_false c14, eq_false nc14, eq_false c25, eq_false nc25, ↓reduceIte, not_true_eq_false, not_false_eq_true, and_self, and_true, true_and, and_false, false_and]; done) | rfl) rfl) hS _ (lv_sub hl [0, 2, 3] rfl)
        · skip
          have nc25 : (kx_tu t nb j) = b := (nI_eq (a := (kx_tu t nb j)) (b := b) (by omega) (by omega)).mp c25
          exact bd_rv C hr hlk (hR.eq (by first | rfl | (rw [show nb - j = (nb - (j + 1)) + 1 by omega, kx_ti, if_pos nc25] at hi; rw [← hi])) rfl) hS (Nat.zero_le _) (Nat.zero_le _) dX2_playAllAheadOf_28
  exact lp1 (nb + 1) 0 (by omega) (by omega) rfl _ _ (hR.eq rfl rfl) hS _ (by first | exact lv_sub hl [0, 1, 2] rfl | (rw [show (nI 0 : Int32) = 0 from by first | rfl | decide | simp [nI_0]]; exact lv_sub hl [0, 1, 2] rfl))
set_option maxHeartbeats 4000000 in
set_option maxRecDepth 100000 in
theorem k_X2_hold (l : Launch) (E : bd_E) (xm ym : bd_M) (om : Nat → Int64) (w : Nat) (n : Nat) (nb : Nat) (z : (Nat→Nat)) (t : Nat) (hw : w < 2) (hs : kx_Sh xm w n nb z) (ht : xm 32 w 0 = nI t) (ht2 : t < 1073741824) (hnb : 0 < nb) : bd_Ct l yX2_hold cX2_hold 4 (some .int) 5 120 0 0 E [.ref (bd_ea E 2 w 0)] xm ym om (kx_hold xm w n nb z t) ym om (some (.int (kx_gw (kx_h1 xm w n nb z t) w nb nb))) := by
  refine bd_open RX2 rfl (by decide) (Nat.le_of_ble_eq_true rfl) ?_
  intro p e s m args below meth c ls C hr hlk hS hR hl
  have hx := C.1.1
  have hb := C.1.2.1
  have hs24 := hs.2.1
  have hs6 := hs.2.2.2.1
  have hsO := hs
  have hl : lv_has ls 4 [(0, .ref (bd_ea E 2 w 0))] := hl
  refine lv_aload_n hx hb dX2_hold_0 rfl (lv_at hl 0 rfl) ?_
  refine bd_cV0 [] [] C (k_X2_forgetDeputies l E xm ym om w n nb z (by omega) hs) hR hS (bd_recv C.2 hR ⟨by decide, show w < 2 by omega, (by decide)⟩ rfl rfl) qm_X2_18 qi_X2_forgetDeputies qs_X2_forgetDeputies qz_X2 qc_X2_forgetDeputies qp_X2_forgetDeputies ⟨Nat.le_of_ble_eq_true rfl, Nat.le_of_ble_eq_true rfl⟩ hl.1 (Nat.le_of_ble_eq_true rfl) dX2_hold_1 ⟨Nat.le_of_ble_eq_true rfl, Nat.le_of_ble_eq_true rfl⟩ (fun H locs hR hS hz1 => ?_)
  refine lv_iconst (v := 0) hx hb dX2_hold_4 (by decide) ?_
  refine lv_istore_n (lv' := [(1, .int 0), (0, .ref (bd_ea E 2 w 0))]) hx hb dX2_hold_5 rfl hl (by decide) rfl (fun ls hl => ?_)
  have lp1 : ∀ (t1 j : Nat), j ≤ nb → nb - j < t1 → ∀ (H : Heap) (locs : List Loc), bd_Rep E (kx_pl (kx_fd xm w n) w n nb z t j) ym om H → va_S (bd_A E) s.heap H locs → ∀ (ls : Array Slot), lv_has ls 4 [(1, .int (nI j)), (0, .ref (bd_ea E 2 w 0))] → W p l e { frames := 5, cells := 0, slots := 0, locals := 120 } s m args below meth c H locs 0 0 (MQ below (bd_Q E (kx_hold xm w n nb z t) ym om (some (.int (kx_gw (kx_h1 xm w n nb z t) w nb nb)))) args s 0 0 (bd_A E)) (F0 m 6 ls []) := by
    intro t1
    induction t1 with
    | zero => intro j h1 h2; exact absurd h2 (Nat.not_lt_zero _)
    | succ t1 ih1 =>
      intro j hj1 hj2 H locs hR hS ls hl
      refine lv_iload_n hx hb dX2_hold_6 rfl (lv_at hl 0 rfl) ?_
      refine lv_aload_n hx hb dX2_hold_7 rfl (lv_at hl 1 rfl) ?_
      refine bd_g_X2_season C hR (by omega) qf_X2_12 dX2_hold_8 ?_
      refine bd_g_X4_bandCount C hR (by omega) qf_X2_21 dX2_hold_11 ?_
      rw [show (kx_pl (kx_fd xm w n) w n nb z t j) 31 w 0 = nI nb from (show kx_Sh (kx_pl (kx_fd xm w n) w n nb z t j) w n nb z from (kx_pl_sh (kx_fd_sh hsO n) j)).2.2.1]
      refine lv_icmp_ge (tgt := 32) hx hb dX2_hold_14 (by decide) (fun c14 => ?_) (fun c14 => ?_)
      · skip
        have nc14 : nb ≤ j := (nI_leI (a := nb) (b := j) (by omega) (by omega)).mp c14
        obtain rfl : nb = j := by omega
        refine lv_aload_n hx hb dX2_hold_32 rfl (lv_at hl 1 rfl) ?_
        refine bd_cV1 [] [] C (k_X2_givePlaces l E (kx_pl (kx_fd xm w n) w n nb z t nb) ym om w n nb z (by omega) (kx_pl_sh (kx_fd_sh hsO n) nb)) hR hS (bd_recv C.2 hR ⟨by decide, show w < 2 by omega, (by decide)⟩ rfl rfl) qm_X2_33 qi_X2_givePlaces qs_X2_givePlaces qz_X2 qc_X2_givePlaces qp_X2_givePlaces ⟨Nat.le_of_ble_eq_true rfl, Nat.le_of_ble_eq_true rfl⟩ hl.1 (Nat.le_of_ble_eq_true rfl) dX2_hold_33 ⟨Nat.le_of_ble_eq_true rfl, Nat.le_of_ble_eq_true rfl⟩ (fun H locs hR hS hz33 => ?_)
        have hR : bd_Rep E (kx_gp (kx_h1 xm w n nb z t) w nb nb) ym om H := hR
        refine W.eq (g2 := F0 m 36 ls [.int (kx_gw (kx_h1 xm w n nb z t) w nb nb)]) rfl ?_
        refine lv_istore_n (lv' := [(1, .int (kx_gw (kx_h1 xm w n nb z t) w nb nb)), (0, .ref (bd_ea E 2 w 0))]) hx hb dX2_hold_36 rfl hl (by decide) rfl (fun ls hl => ?_)
        refine lv_iconst (v := 0) hx hb dX2_hold_37 (by decide) ?_
        refine lv_istore_n (lv' := [(2, .int 0), (1, .int (kx_gw (kx_h1 xm w n nb z t) w nb nb)), (0, .ref (bd_ea E 2 w 0))]) hx hb dX2_hold_38 rfl hl (by decide) rfl (fun ls hl => ?_)
        have lp2 : ∀ (t2 j : Nat), j ≤ nb → nb - j < t2 → ∀ (H : Heap) (locs : List Loc), bd_Rep E (kx_rl (kx_gp (kx_h1 xm w n nb z t) w nb nb) w z j) ym om H → va_S (bd_A E) s.heap H locs → ∀ (ls : Array Slot), lv_has ls 4 [(2, .int (nI j)), (1, .int (kx_gw (kx_h1 xm w n nb z t) w nb nb)), (0, .ref (bd_ea E 2 w 0))] → W p l e { frames := 5, cells := 0, slots := 0, locals := 120 } s m args below meth c H locs 0 0 (MQ below (bd_Q E (kx_hold xm w n nb z t) ym om (some (.int (kx_gw (kx_h1 xm w n nb z t) w nb nb)))) args s 0 0 (bd_A E)) (F0 m 39 ls []) := by
          intro t2
          induction t2 with
          | zero => intro j h1 h2; exact absurd h2 (Nat.not_lt_zero _)
          | succ t2 ih2 =>
            intro j hj1 hj2 H locs hR hS ls hl
            refine lv_iload_n hx hb dX2_hold_39 rfl (lv_at hl 0 rfl) ?_
            refine lv_aload_n hx hb dX2_hold_40 rfl (lv_at hl 2 rfl) ?_
            refine bd_g_X2_season C hR (by omega) qf_X2_12 dX2_hold_41 ?_
            refine bd_g_X4_bandCount C hR (by omega) qf_X2_21 dX2_hold_44 ?_
            rw [show (kx_rl (kx_gp (kx_h1 xm w n nb z t) w nb nb) w z j) 31 w 0 = nI nb from (show kx_Sh (kx_rl (kx_gp (kx_h1 xm w n nb z t) w nb nb) w z j) w n nb z from (kx_rl_sh (kx_gp_sh (kx_pl_sh (kx_fd_sh hsO n) nb) nb) j)).2.2.1]
            refine lv_icmp_ge (tgt := 81) hx hb dX2_hold_47 (by decide) (fun c47 => ?_) (fun c47 => ?_)
            · skip
              have nc47 : nb ≤ j := (nI_leI (a := nb) (b := j) (by omega) (by omega)).mp c47
              obtain rfl : nb = j := by omega
              refine lv_iconst (v := 0) hx hb dX2_hold_81 (by decide) ?_
              refine lv_istore_n (lv' := [(2, .int 0), (1, .int (kx_gw (kx_h1 xm w n nb z t) w nb nb)), (0, .ref (bd_ea E 2 w 0))]) hx hb dX2_hold_82 rfl hl (by decide) rfl (fun ls hl => ?_)
              have lp3 : ∀ (t3 j : Nat), j ≤ n → n - j < t3 → ∀ (H : Heap) (locs : List Loc), bd_Rep E (kx_ab (kx_rl (kx_gp (kx_h1 xm w n nb z t) w nb nb) w z nb) w j) ym om H → va_S (bd_A E) s.heap H locs → ∀ (ls : Array Slot), lv_has ls 4 [(2, .int (nI j)), (1, .int (kx_gw (kx_h1 xm w n nb z t) w nb nb)), (0, .ref (bd_ea E 2 w 0))] → W p l e { frames := 5, cells := 0, slots := 0, locals := 120 } s m args below meth c H locs 0 0 (MQ below (bd_Q E (kx_hold xm w n nb z t) ym om (some (.int (kx_gw (kx_h1 xm w n nb z t) w nb nb)))) args s 0 0 (bd_A E)) (F0 m 83 ls []) := by
                intro t3
                induction t3 with
                | zero => intro j h1 h2; exact absurd h2 (Nat.not_lt_zero _)
                | succ t3 ih3 =>
                  intro j hj1 hj2 H locs hR hS ls hl
                  refine lv_iload_n hx hb dX2_hold_83 rfl (lv_at hl 0 rfl) ?_
                  refine lv_aload_n hx hb dX2_hold_84 rfl (lv_at hl 2 rfl) ?_
                  refine bd_g_X2_season C hR (by omega) qf_X2_12 dX2_hold_85 ?_
                  refine bd_g_X4_playerCount C hR (by omega) qf_X2_52 dX2_hold_88 ?_
                  rw [show (kx_ab (kx_rl (kx_gp (kx_h1 xm w n nb z t) w nb nb) w z nb) w j) 30 w 0 = nI n from (show kx_Sh (kx_ab (kx_rl (kx_gp (kx_h1 xm w n nb z t) w nb nb) w z nb) w j) w n nb z from (kx_ab_sh (kx_rl_sh (kx_gp_sh (kx_pl_sh (kx_fd_sh hsO n) nb) nb) nb) j)).1]
                  refine lv_icmp_ge (tgt := 124) hx hb dX2_hold_91 (by decide) (fun c91 => ?_) (fun c91 => ?_)
                  · skip
                    have nc91 : n ≤ j := (nI_leI (a := n) (b := j) (by omega) (by omega)).mp c91
                    obtain rfl : n = j := by omega
                    refine lv_aload_n hx hb dX2_hold_124 rfl (lv_at hl 2 rfl) ?_
                    refine bd_g_X2_season C hR (by omega) qf_X2_12 dX2_hold_125 ?_
                    refine lv_dup hx hb dX2_hold_128 rfl ?_
                    refine bd_g_X4_contests C hR (by omega) qf_X2_70 dX2_hold_129 ?_
                    refine lv_iconst (v := 1) hx hb dX2_hold_132 (by decide) ?_
                    refine lv_iadd hx hb dX2_hold_133 ?_
                    refine bd_p_X4_contests C hR hS (by omega) qf_X2_70 dX2_hold_134 (fun H locs hR hS => ?_)
                    refine lv_iload_n hx hb dX2_hold_137 rfl (lv_at hl 1 rfl) ?_
                    exact bd_ri C hr hlk (hR.eq (by first | rfl | (rfl)) rfl) hS (Nat.zero_le _) (Nat.zero_le _) dX2_hold_138 rfl
                  · skip
                    have nc91 : ¬ n ≤ j := fun q9 => c91 ((nI_leI (a := n) (b := j) (by omega) (by omega)).mpr q9)
                    refine lv_aload_n hx hb dX2_hold_94 rfl (lv_at hl 2 rfl) ?_
                    refine bd_g_X2_season C hR (by omega) qf_X2_12 dX2_hold_95 ?_
                    refine bd_g_X4_players C hR (by omega) qf_X2_55 dX2_hold_98 ?_
                    refine lv_iload_n hx hb dX2_hold_101 rfl (lv_at hl 0 rfl) ?_
                    refine bd_ld_3 C hR (by omega) (j := j) (by omega) dX2_hold_102 ?_
                    refine lv_astore_n (lv' := [(3, .ref (bd_ea E 7 w j)), (2, .int (nI j)), (1, .int (kx_gw (kx_h1 xm w n nb z t) w nb nb)), (0, .ref (bd_ea E 2 w 0))]) hx hb dX2_hold_103 rfl hl (by decide) rfl (fun ls hl => ?_)
                    refine lv_aload_n hx hb dX2_hold_104 rfl (lv_at hl 0 rfl) ?_
                    refine lv_iconst (v := 0) hx hb dX2_hold_105 (by decide) ?_
                    refine lv_aload_n hx hb dX2_hold_106 rfl (lv_at hl 0 rfl) ?_
                    refine bd_g_X3_absences C hR (by omega) (by omega) qf_X2_59 dX2_hold_107 ?_
                    refine lv_iconst (v := 1) hx hb dX2_hold_110 (by decide) ?_
                    refine lv_isub hx hb dX2_hold_111 ?_
                    refine bd_max C hl.1 qm_X2_64 ⟨Nat.le_of_ble_eq_true rfl, Nat.le_of_ble_eq_true rfl⟩ ⟨Nat.le_of_ble_eq_true rfl, Nat.le_of_ble_eq_true rfl⟩ dX2_hold_112 ?_
                    refine bd_p_X3_absences C hR hS (by omega) (by omega) qf_X2_59 dX2_hold_115 (fun H locs hR hS => ?_)
                    refine lv_iinc (v := nI (j + 1)) (lv' := [(2, .int (nI (j + 1))), (3, .ref (bd_ea E 7 w j)), (1, .int (kx_gw (kx_h1 xm w n nb z t) w nb nb)), (0, .ref (bd_ea E 2 w 0))]) hx hb dX2_hold_118 hl (k := 1) rfl (nI_1 j) (by decide) rfl (fun ls hl => ?_)
                    refine lv_goto (tgt := 83) hx hb dX2_hold_121 (by decide) ?_
                    exact ih3 (j + 1) (by omega) (by omega) _ _ (hR.eq (by first | rfl | (rfl)) rfl) hS _ (lv_sub hl [0, 2, 3] rfl)
              exact lp3 (n + 1) 0 (by omega) (by omega) _ _ (hR.eq rfl rfl) hS _ (by first | exact lv_sub hl [0, 1, 2] rfl | (rw [show (nI 0 : Int32) = 0 from by first | rfl | decide | simp [nI_0]]; exact lv_sub hl [0, 1, 2] rfl))
            · skip
              have nc47 : ¬ nb ≤ j := fun q9 => c47 ((nI_leI (a := nb) (b := j) (by omega) (by omega)).mpr q9)
              refine lv_aload_n hx hb dX2_hold_50 rfl (lv_at hl 2 rfl) ?_
              refine bd_g_X2_season C hR (by omega) qf_X2_12 dX2_hold_51 ?_
              refine bd_g_X4_bands C hR (by omega) qf_X2_37 dX2_hold_54 ?_
              refine lv_iload_n hx hb dX2_hold_57 rfl (lv_at hl 0 rfl) ?_
              refine bd_ld_4 C hR (by omega) (j := j) (by omega) dX2_hold_58 ?_
              refine lv_astore_n (lv' := [(3, .ref (bd_ea E 9 w j)), (2, .int (nI j)), (1, .int (kx_gw (kx_h1 xm w n nb z t) w nb nb)), (0, .ref (bd_ea E 2 w 0))]) hx hb dX2_hold_59 rfl hl (by decide) rfl (fun ls hl => ?_)
              refine lv_aload_n hx hb dX2_hold_60 rfl (lv_at hl 0 rfl) ?_
              refine lv_aload_n hx hb dX2_hold_61 rfl (lv_at hl 0 rfl) ?_
              refine bd_cV1 [] [.ref (bd_ea E 9 w j)] C (k_X0_ownSitting l E (kx_rl (kx_gp (kx_h1 xm w n nb z t) w nb nb) w z j) ym om w n nb z j (by omega) (kx_rl_sh (kx_gp_sh (kx_pl_sh (kx_fd_sh hsO n) nb) nb) j) (by omega)) hR hS (bd_recv C.2 hR ⟨by decide, show w < 2 by omega, show j < 6 by omega⟩ rfl rfl) qm_X2_41 qi_X0_ownSitting qs_X0_ownSitting qz_X0 qc_X0_ownSitting qp_X0_ownSitting ⟨Nat.le_of_ble_eq_true rfl, Nat.le_of_ble_eq_true rfl⟩ hl.1 (Nat.le_of_ble_eq_true rfl) dX2_hold_62 ⟨Nat.le_of_ble_eq_true rfl, Nat.le_of_ble_eq_true rfl⟩ (fun H locs hR hS hz62 => ?_)
              refine lv_iconst (v := 2) hx hb dX2_hold_65 (by decide) ?_
              refine lv_aload_n hx hb dX2_hold_66 rfl (lv_at hl 0 rfl) ?_
              refine bd_cV1 [] [.int 2, .int (kx_owns (kx_rl (kx_gp (kx_h1 xm w n nb z t) w nb nb) w z j) w j (z j)), .ref (bd_ea E 9 w j)] C (k_X0_deputiesSitting l E (kx_rl (kx_gp (kx_h1 xm w n nb z t) w nb nb) w z j) ym om w n nb z j (by omega) (kx_rl_sh (kx_gp_sh (kx_pl_sh (kx_fd_sh hsO n) nb) nb) j) (by omega)) hR hS (bd_recv C.2 hR ⟨by decide, show w < 2 by omega, show j < 6 by omega⟩ rfl rfl) qm_X2_46 qi_X0_deputiesSitting qs_X0_deputiesSitting qz_X0 qc_X0_deputiesSitting qp_X0_deputiesSitting ⟨Nat.le_of_ble_eq_true rfl, Nat.le_of_ble_eq_true rfl⟩ hl.1 (Nat.le_of_ble_eq_true rfl) dX2_hold_67 ⟨Nat.le_of_ble_eq_true rfl, Nat.le_of_ble_eq_true rfl⟩ (fun H locs hR hS hz67 => ?_)
              refine lv_imul hx hb dX2_hold_70 ?_
              refine lv_isub hx hb dX2_hold_71 ?_
              refine bd_cV0 [.int ((kx_owns (kx_rl (kx_gp (kx_h1 xm w n nb z t) w nb nb) w z j) w j (z j)) - (2 * (kx_deps (kx_rl (kx_gp (kx_h1 xm w n nb z t) w nb nb) w z j) w j (z j))))] [] C (k_X0_raiseSpirit l E (kx_rl (kx_gp (kx_h1 xm w n nb z t) w nb nb) w z j) ym om w n nb z j ((kx_owns (kx_rl (kx_gp (kx_h1 xm w n nb z t) w nb nb) w z j) w j (z j)) - (2 * (kx_deps (kx_rl (kx_gp (kx_h1 xm w n nb z t) w nb nb) w z j) w j (z j)))) (by omega) (kx_rl_sh (kx_gp_sh (kx_pl_sh (kx_fd_sh hsO n) nb) nb) j) (by omega)) hR hS (bd_recv C.2 hR ⟨by decide, show w < 2 by omega, show j < 6 by omega⟩ rfl rfl) qm_X2_49 qi_X0_raiseSpirit qs_X0_raiseSpirit qz_X0 qc_X0_raiseSpirit qp_X0_raiseSpirit ⟨Nat.le_of_ble_eq_true rfl, Nat.le_of_ble_eq_true rfl⟩ hl.1 (Nat.le_of_ble_eq_true rfl) dX2_hold_72 ⟨Nat.le_of_ble_eq_true rfl, Nat.le_of_ble_eq_true rfl⟩ (fun H locs hR hS hz72 => ?_)
              refine lv_iinc (v := nI (j + 1)) (lv' := [(2, .int (nI (j + 1))), (3, .ref (bd_ea E 9 w j)), (1, .int (kx_gw (kx_h1 xm w n nb z t) w nb nb)), (0, .ref (bd_ea E 2 w 0))]) hx hb dX2_hold_75 hl (k := 1) rfl (nI_1 j) (by decide) rfl (fun ls hl => ?_)
              refine lv_goto (tgt := 39) hx hb dX2_hold_78 (by decide) ?_
              exact ih2 (j + 1) (by omega) (by omega) _ _ (hR.eq (by first | rfl | (rfl)) rfl) hS _ (lv_sub hl [0, 2, 3] rfl)
        exact lp2 (nb + 1) 0 (by omega) (by omega) _ _ (hR.eq rfl rfl) hS _ (by first | exact lv_sub hl [0, 1, 2] rfl | (rw [show (nI 0 : Int32) = 0 from by first | rfl | decide | simp [nI_0]]; exact lv_sub hl [0, 1, 2] rfl))
      · skip
        have nc14 : ¬ nb ≤ j := fun q9 => c14 ((nI_leI (a := nb) (b := j) (by omega) (by omega)).mpr q9)
        refine lv_aload_n hx hb dX2_hold_17 rfl (lv_at hl 1 rfl) ?_
        refine lv_aload_n hx hb dX2_hold_18 rfl (lv_at hl 1 rfl) ?_
        refine lv_iload_n hx hb dX2_hold_19 rfl (lv_at hl 0 rfl) ?_
        refine bd_cV1 [.int (nI j)] [.ref (bd_ea E 2 w 0)] C (k_X2_bandInTurn l E (kx_pl (kx_fd xm w n) w n nb z t j) ym om w n nb z t j (by omega) (kx_pl_sh (kx_fd_sh hsO n) j) (by rw [kx_pl_f, kx_fd_f (by decide)]; exact ht) (by omega) (by omega) (by omega)) hR hS (bd_recv C.2 hR ⟨by decide, show w < 2 by omega, (by decide)⟩ rfl rfl) qm_X2_25 qi_X2_bandInTurn qs_X2_bandInTurn qz_X2 qc_X2_bandInTurn qp_X2_bandInTurn ⟨Nat.le_of_ble_eq_true rfl, Nat.le_of_ble_eq_true rfl⟩ hl.1 (Nat.le_of_ble_eq_true rfl) dX2_hold_20 ⟨Nat.le_of_ble_eq_true rfl, Nat.le_of_ble_eq_true rfl⟩ (fun H locs hR hS hz20 => ?_)
        have htu : kx_tu t nb j < nb := Nat.mod_lt _ hnb
        refine bd_cV0 [.int (nI (kx_tu t nb j))] [] C (k_X2_play l E (kx_pl (kx_fd xm w n) w n nb z t j) ym om w n nb z (kx_tu t nb j) (by omega) (kx_pl_sh (kx_fd_sh hsO n) j) (by omega)) hR hS (bd_recv C.2 hR ⟨by decide, show w < 2 by omega, (by decide)⟩ rfl rfl) qm_X2_29 qi_X2_play qs_X2_play qz_X2 qc_X2_play qp_X2_play ⟨Nat.le_of_ble_eq_true rfl, Nat.le_of_ble_eq_true rfl⟩ hl.1 (Nat.le_of_ble_eq_true rfl) dX2_hold_23 ⟨Nat.le_of_ble_eq_true rfl, Nat.le_of_ble_eq_true rfl⟩ (fun H locs hR hS hz23 => ?_)
        refine lv_iinc (v := nI (j + 1)) (lv' := [(1, .int (nI (j + 1))), (0, .ref (bd_ea E 2 w 0))]) hx hb dX2_hold_26 hl (k := 0) rfl (nI_1 j) (by decide) rfl (fun ls hl => ?_)
        refine lv_goto (tgt := 6) hx hb dX2_hold_29 (by decide) ?_
        exact ih1 (j + 1) (by omega) (by omega) _ _ (hR.eq (by first | rfl | (rfl)) rfl) hS _ (lv_sub hl [0, 1] rfl)
  exact lp1 (nb + 1) 0 (by omega) (by omega) _ _ (hR.eq rfl rfl) hS _ (by first | exact lv_sub hl [0, 1] rfl | (rw [show (nI 0 : Int32) = 0 from by first | rfl | decide | simp [nI_0]]; exact lv_sub hl [0, 1] rfl))
set_option maxHeartbeats 4000000 in
set_option maxRecDepth 100000 in
theorem k_X2_bestChange (l : Launch) (E : bd_E) (xm ym : bd_M) (om : Nat → Int64) (w : Nat) (n : Nat) (nb : Nat) (z : (Nat→Nat)) (b : Nat) (hw : w < 2) (hs : kx_Sh xm w n nb z) (hb : b < nb) : bd_Ct l yX2_bestChange cX2_bestChange 8 (some .int) 4 98 0 0 E [.ref (bd_ea E 2 w 0), .int (nI b)] xm ym om ((kx_bo xm w n b (z b) (z b)).1) ym om (some (.int ((kx_bo xm w n b (z b) (z b)).2.2))) := by
  refine bd_open RX2 rfl (by decide) (Nat.le_of_ble_eq_true rfl) ?_
  intro p e s m args below meth c ls C hr hlk hS hR hl
  have hx := C.1.1
  have hb := C.1.2.1
  have hs24 := hs.2.1
  have hs6 := hs.2.2.2.1
  have z8 := (hs.2.2.2.2 b (by omega)).2
  have hsO := hs
  have hl : lv_has ls 8 [(0, .ref (bd_ea E 2 w 0)), (1, .int (nI b))] := hl
  refine lv_aload_n hx hb dX2_bestChange_0 rfl (lv_at hl 0 rfl) ?_
  refine bd_g_X2_season C hR (by omega) qf_X2_12 dX2_bestChange_1 ?_
  refine lv_iload_n hx hb dX2_bestChange_4 rfl (lv_at hl 1 rfl) ?_
  refine bd_cV1 [.int (nI b)] [] C (k_X4_bandAt_j l E xm ym om w n nb z b (by omega) hs (by omega)) hR hS (bd_recv C.2 hR ⟨by decide, show w < 2 by omega, (by decide)⟩ rfl rfl) qm_X2_73 qi_X4_bandAt qs_X4_bandAt qz_X4 qc_X4_bandAt qp_X4_bandAt ⟨Nat.le_of_ble_eq_true rfl, Nat.le_of_ble_eq_true rfl⟩ hl.1 (Nat.le_of_ble_eq_true rfl) dX2_bestChange_5 ⟨Nat.le_of_ble_eq_true rfl, Nat.le_of_ble_eq_true rfl⟩ (fun H locs hR hS hz5 => ?_)
  refine lv_astore_n (lv' := [(2, .ref (bd_ea E 9 w b)), (0, .ref (bd_ea E 2 w 0)), (1, .int (nI b))]) hx hb dX2_bestChange_8 rfl hl (by decide) rfl (fun ls hl => ?_)
  refine lv_aload_n hx hb dX2_bestChange_9 rfl (lv_at hl 0 rfl) ?_
  refine lv_ifnonnull (tgt := 15) hx hb dX2_bestChange_10 (by decide) ?_
  refine lv_aload_n hx hb dX2_bestChange_15 rfl (lv_at hl 1 rfl) ?_
  refine lv_aload_n hx hb dX2_bestChange_16 rfl (lv_at hl 0 rfl) ?_
  refine bd_cV1 [.ref (bd_ea E 9 w b)] [] C (k_X2_marksOnceSeated l E xm ym om w n nb z b (by omega) hs (by omega)) hR hS (bd_recv C.2 hR ⟨by decide, show w < 2 by omega, (by decide)⟩ rfl rfl) qm_X2_77 qi_X2_marksOnceSeated qs_X2_marksOnceSeated qz_X2 qc_X2_marksOnceSeated qp_X2_marksOnceSeated ⟨Nat.le_of_ble_eq_true rfl, Nat.le_of_ble_eq_true rfl⟩ hl.1 (Nat.le_of_ble_eq_true rfl) dX2_bestChange_17 ⟨Nat.le_of_ble_eq_true rfl, Nat.le_of_ble_eq_true rfl⟩ (fun H locs hR hS hz17 => ?_)
  refine lv_istore_n (lv' := [(3, .int (kx_mo (kx_seat xm w n b (z b)) w n b (z b))), (2, .ref (bd_ea E 9 w b)), (0, .ref (bd_ea E 2 w 0)), (1, .int (nI b))]) hx hb dX2_bestChange_20 rfl hl (by decide) rfl (fun ls hl => ?_)
  refine lv_iconst (v := (-1)) hx hb dX2_bestChange_21 (by decide) ?_
  refine lv_istore (lv' := [(4, .int (-1)), (3, .int (kx_mo (kx_seat xm w n b (z b)) w n b (z b))), (2, .ref (bd_ea E 9 w b)), (0, .ref (bd_ea E 2 w 0)), (1, .int (nI b))]) hx hb dX2_bestChange_22 hl (by decide) rfl (fun ls hl => ?_)
  refine lv_iconst (v := 0) hx hb dX2_bestChange_24 (by decide) ?_
  refine lv_istore (lv' := [(5, .int 0), (4, .int (-1)), (3, .int (kx_mo (kx_seat xm w n b (z b)) w n b (z b))), (2, .ref (bd_ea E 9 w b)), (0, .ref (bd_ea E 2 w 0)), (1, .int (nI b))]) hx hb dX2_bestChange_25 hl (by decide) rfl (fun ls hl => ?_)
  have lp1 : ∀ (t1 j : Nat), j ≤ z b → (z b) - j < t1 → ∀ (H : Heap) (locs : List Loc), bd_Rep E ((kx_bo xm w n b (z b) j).1) ym om H → va_S (bd_A E) s.heap H locs → ∀ (ls : Array Slot), lv_has ls 8 [(5, .int (nI j)), (4, .int ((kx_bo xm w n b (z b) j).2.2)), (3, .int ((kx_bo xm w n b (z b) j).2.1)), (2, .ref (bd_ea E 9 w b)), (0, .ref (bd_ea E 2 w 0)), (1, .int (nI b))] → W p l e { frames := 4, cells := 0, slots := 0, locals := 98 } s m args below meth c H locs 0 0 (MQ below (bd_Q E ((kx_bo xm w n b (z b) (z b)).1) ym om (some (.int ((kx_bo xm w n b (z b) (z b)).2.2)))) args s 0 0 (bd_A E)) (F0 m 27 ls []) := by
    intro t1
    induction t1 with
    | zero => intro j h1 h2; exact absurd h2 (Nat.not_lt_zero _)
    | succ t1 ih1 =>
      intro j hj1 hj2 H locs hR hS ls hl
      refine lv_iload hx hb dX2_bestChange_27 (lv_at hl 0 rfl) ?_
      refine lv_aload_n hx hb dX2_bestChange_29 rfl (lv_at hl 3 rfl) ?_
      refine bd_g_X0_size C hR (by omega) (by omega) qf_X2_81 dX2_bestChange_30 ?_
      have z30 := ((show kx_Sh ((kx_bo xm w n b (z b) j).1) w n nb z from (kx_bo_sh hsO j)).2.2.2.2 b (by omega)).2
      rw [show ((kx_bo xm w n b (z b) j).1) 20 w b = nI (z b) from ((show kx_Sh ((kx_bo xm w n b (z b) j).1) w n nb z from (kx_bo_sh hsO j)).2.2.2.2 b (by omega)).1]
      refine lv_icmp_ge (tgt := 113) hx hb dX2_bestChange_33 (by decide) (fun c33 => ?_) (fun c33 => ?_)
      · skip
        have nc33 : (z b) ≤ j := (nI_leI (a := (z b)) (b := j) (by omega) (by omega)).mp c33
        obtain rfl : z b = j := by omega
        refine lv_iload hx hb dX2_bestChange_113 (lv_at hl 1 rfl) ?_
        exact bd_ri C hr hlk (hR.eq rfl rfl) hS (Nat.zero_le _) (Nat.zero_le _) dX2_bestChange_115 rfl
      · skip
        have nc33 : ¬ (z b) ≤ j := fun q9 => c33 ((nI_leI (a := (z b)) (b := j) (by omega) (by omega)).mpr q9)
        refine lv_iload hx hb dX2_bestChange_36 (lv_at hl 0 rfl) ?_
        refine lv_iconst (v := 1) hx hb dX2_bestChange_38 (by decide) ?_
        refine lv_iadd hx hb dX2_bestChange_39 ?_
        refine lv_istore (lv' := [(6, .int ((nI j) + 1)), (5, .int (nI j)), (4, .int ((kx_bo xm w n b (z b) j).2.2)), (3, .int ((kx_bo xm w n b (z b) j).2.1)), (2, .ref (bd_ea E 9 w b)), (0, .ref (bd_ea E 2 w 0)), (1, .int (nI b))]) hx hb dX2_bestChange_40 hl (by decide) rfl (fun ls hl => ?_)
        have lp2 : ∀ (t2 j2 : Nat), j + 1 ≤ j2 → j2 ≤ z b → (z b) - j2 < t2 → ∀ (H : Heap) (locs : List Loc), bd_Rep E ((kx_bi (kx_bo xm w n b (z b) j) w n b (z b) j j2).1) ym om H → va_S (bd_A E) s.heap H locs → ∀ (ls : Array Slot), lv_has ls 8 [(6, .int (nI j2)), (5, .int (nI j)), (4, .int ((kx_bi (kx_bo xm w n b (z b) j) w n b (z b) j j2).2.2)), (3, .int ((kx_bi (kx_bo xm w n b (z b) j) w n b (z b) j j2).2.1)), (2, .ref (bd_ea E 9 w b)), (0, .ref (bd_ea E 2 w 0)), (1, .int (nI b))] → W p l e { frames := 4, cells := 0, slots := 0, locals := 98 } s m args below meth c H locs 0 0 (MQ below (bd_Q E ((kx_bo xm w n b (z b) (z b)).1) ym om (some (.int ((kx_bo xm w n b (z b) (z b)).2.2)))) args s 0 0 (bd_A E)) (F0 m 42 ls []) := by
          intro t2
          induction t2 with
          | zero => intro j2 h0 h1 h2; exact absurd h2 (Nat.not_lt_zero _)
          | succ t2 ih2 =>
            intro j2 hj20 hj21 hj22 H locs hR hS ls hl
            have hnj : ¬ j2 ≤ j := by omega
            refine lv_iload hx hb dX2_bestChange_42 (lv_at hl 0 rfl) ?_
            refine lv_aload_n hx hb dX2_bestChange_44 rfl (lv_at hl 4 rfl) ?_
            refine bd_g_X0_size C hR (by omega) (by omega) qf_X2_81 dX2_bestChange_45 ?_
            have z45 := ((show kx_Sh ((kx_bi (kx_bo xm w n b (z b) j) w n b (z b) j j2).1) w n nb z from (kx_bi_sh (kx_bo_sh hsO j) j2)).2.2.2.2 b (by omega)).2
            rw [show ((kx_bi (kx_bo xm w n b (z b) j) w n b (z b) j j2).1) 20 w b = nI (z b) from ((show kx_Sh ((kx_bi (kx_bo xm w n b (z b) j) w n b (z b) j j2).1) w n nb z from (kx_bi_sh (kx_bo_sh hsO j) j2)).2.2.2.2 b (by omega)).1]
            refine lv_icmp_ge (tgt := 107) hx hb dX2_bestChange_48 (by decide) (fun c48 => ?_) (fun c48 => ?_)
            · skip
              have nc48 : (z b) ≤ j2 := (nI_leI (a := (z b)) (b := j2) (by omega) (by omega)).mp c48
              obtain rfl : z b = j2 := by omega
              refine lv_iinc (v := nI (j + 1)) (lv' := [(5, .int (nI (j + 1))), (6, .int (nI (z b))), (4, .int ((kx_bi (kx_bo xm w n b (z b) j) w n b (z b) j (z b)).2.2)), (3, .int ((kx_bi (kx_bo xm w n b (z b) j) w n b (z b) j (z b)).2.1)), (2, .ref (bd_ea E 9 w b)), (0, .ref (bd_ea E 2 w 0)), (1, .int (nI b))]) hx hb dX2_bestChange_107 hl (k := 1) rfl (nI_1 j) (by decide) rfl (fun ls hl => ?_)
              refine lv_goto (tgt := 27) hx hb dX2_bestChange_110 (by decide) ?_
              exact ih1 (j + 1) (by omega) (by omega) _ _ (hR.eq (by first | (simp (config := { decide := true }) only [kx_bo, eq_false c33, eq_false nc33, eq_false hnj, eq_true c48, eq_true nc48, ↓reduceIte, not_true_eq_false, not_false_eq_true, and_self, and_true, true_and, and_false, false_and]; done) | rfl) rfl) hS _ (by rw [show ((kx_bo xm w n b (z b) (j + 1)).2.2 : Int32) = (kx_bi (kx_bo xm w n b (z b) j) w n b (z b) j (z b)).2.2 from (by first | (simp (config := { decide := true }) only [kx_bo, eq_false c33, eq_false nc33, eq_false hnj, eq_true c48, eq_true nc48, ↓reduceIte, not_true_eq_false, not_false_eq_true, and_self, and_true, true_and, and_false, false_and]; done) | rfl)]; rw [show ((kx_bo xm w n b (z b) (j + 1)).2.1 : Int32) = (kx_bi (kx_bo xm w n b (z b) j) w n b (z b) j (z b)).2.1 from (by first | (simp (config := { decide := true }) only [kx_bo, eq_false c33, eq_false nc33, eq_false hnj, eq_true c48, eq_true nc48, ↓reduceIte, not_true_eq_false, not_false_eq_true, and_self, and_true, true_and, and_false, false_and]; done) | rfl)]; exact lv_sub hl [0, 2, 3, 4, 5, 6] rfl)
            · skip
              have nc48 : ¬ (z b) ≤ j2 := fun q9 => c48 ((nI_leI (a := (z b)) (b := j2) (by omega) (by omega)).mpr q9)
              refine lv_aload_n hx hb dX2_bestChange_51 rfl (lv_at hl 5 rfl) ?_
              refine bd_g_X2_season C hR (by omega) qf_X2_12 dX2_bestChange_52 ?_
              refine lv_iload_n hx hb dX2_bestChange_55 rfl (lv_at hl 6 rfl) ?_
              refine lv_iload hx hb dX2_bestChange_56 (lv_at hl 1 rfl) ?_
              refine lv_iload hx hb dX2_bestChange_58 (lv_at hl 0 rfl) ?_
              refine bd_cV0 [.int (nI b), .int (nI j), .int (nI j2)] [] C (k_X4_swapMembers l E ((kx_bi (kx_bo xm w n b (z b) j) w n b (z b) j j2).1) ym om w n nb z b j j2 (by omega) (kx_bi_sh (kx_bo_sh hsO j) j2) (by omega) (by omega) (by omega)) hR hS (bd_recv C.2 hR ⟨by decide, show w < 2 by omega, (by decide)⟩ rfl rfl) qm_X2_84 qi_X4_swapMembers qs_X4_swapMembers qz_X4 qc_X4_swapMembers qp_X4_swapMembers ⟨Nat.le_of_ble_eq_true rfl, Nat.le_of_ble_eq_true rfl⟩ hl.1 (Nat.le_of_ble_eq_true rfl) dX2_bestChange_60 ⟨Nat.le_of_ble_eq_true rfl, Nat.le_of_ble_eq_true rfl⟩ (fun H locs hR hS hz60 => ?_)
              refine lv_aload_n hx hb dX2_bestChange_63 rfl (lv_at hl 5 rfl) ?_
              refine lv_aload_n hx hb dX2_bestChange_64 rfl (lv_at hl 4 rfl) ?_
              refine bd_cV1 [.ref (bd_ea E 9 w b)] [] C (k_X2_marksOnceSeated l E (kx_swap ((kx_bi (kx_bo xm w n b (z b) j) w n b (z b) j j2).1) w n b j j2) ym om w n nb z b (by omega) (kx_swap_sh (kx_bi_sh (kx_bo_sh hsO j) j2)) (by omega)) hR hS (bd_recv C.2 hR ⟨by decide, show w < 2 by omega, (by decide)⟩ rfl rfl) qm_X2_77 qi_X2_marksOnceSeated qs_X2_marksOnceSeated qz_X2 qc_X2_marksOnceSeated qp_X2_marksOnceSeated ⟨Nat.le_of_ble_eq_true rfl, Nat.le_of_ble_eq_true rfl⟩ hl.1 (Nat.le_of_ble_eq_true rfl) dX2_bestChange_65 ⟨Nat.le_of_ble_eq_true rfl, Nat.le_of_ble_eq_true rfl⟩ (fun H locs hR hS hz65 => ?_)
              refine lv_istore (lv' := [(7, .int (kx_mo (kx_seat (kx_swap ((kx_bi (kx_bo xm w n b (z b) j) w n b (z b) j j2).1) w n b j j2) w n b (z b)) w n b (z b))), (6, .int (nI j2)), (5, .int (nI j)), (4, .int ((kx_bi (kx_bo xm w n b (z b) j) w n b (z b) j j2).2.2)), (3, .int ((kx_bi (kx_bo xm w n b (z b) j) w n b (z b) j j2).2.1)), (2, .ref (bd_ea E 9 w b)), (0, .ref (bd_ea E 2 w 0)), (1, .int (nI b))]) hx hb dX2_bestChange_68 hl (by decide) rfl (fun ls hl => ?_)
              refine lv_aload_n hx hb dX2_bestChange_70 rfl (lv_at hl 6 rfl) ?_
              refine bd_g_X2_season C hR (by omega) qf_X2_12 dX2_bestChange_71 ?_
              refine lv_iload_n hx hb dX2_bestChange_74 rfl (lv_at hl 7 rfl) ?_
              refine lv_iload hx hb dX2_bestChange_75 (lv_at hl 2 rfl) ?_
              refine lv_iload hx hb dX2_bestChange_77 (lv_at hl 1 rfl) ?_
              refine bd_cV0 [.int (nI b), .int (nI j), .int (nI j2)] [] C (k_X4_swapMembers l E (kx_seat (kx_swap ((kx_bi (kx_bo xm w n b (z b) j) w n b (z b) j j2).1) w n b j j2) w n b (z b)) ym om w n nb z b j j2 (by omega) (kx_seat_sh (kx_swap_sh (kx_bi_sh (kx_bo_sh hsO j) j2))) (by omega) (by omega) (by omega)) hR hS (bd_recv C.2 hR ⟨by decide, show w < 2 by omega, (by decide)⟩ rfl rfl) qm_X2_84 qi_X4_swapMembers qs_X4_swapMembers qz_X4 qc_X4_swapMembers qp_X4_swapMembers ⟨Nat.le_of_ble_eq_true rfl, Nat.le_of_ble_eq_true rfl⟩ hl.1 (Nat.le_of_ble_eq_true rfl) dX2_bestChange_79 ⟨Nat.le_of_ble_eq_true rfl, Nat.le_of_ble_eq_true rfl⟩ (fun H locs hR hS hz79 => ?_)
              refine lv_iload hx hb dX2_bestChange_82 (lv_at hl 0 rfl) ?_
              refine lv_iload_n hx hb dX2_bestChange_84 rfl (lv_at hl 4 rfl) ?_
              refine lv_icmp_le (tgt := 101) hx hb dX2_bestChange_85 (by decide) (fun c85 => ?_) (fun c85 => ?_)
              · skip
                refine lv_iinc (v := nI (j2 + 1)) (lv' := [(6, .int (nI (j2 + 1))), (7, .int (kx_mo (kx_seat (kx_swap ((kx_bi (kx_bo xm w n b (z b) j) w n b (z b) j j2).1) w n b j j2) w n b (z b)) w n b (z b))), (5, .int (nI j)), (4, .int ((kx_bi (kx_bo xm w n b (z b) j) w n b (z b) j j2).2.2)), (3, .int ((kx_bi (kx_bo xm w n b (z b) j) w n b (z b) j j2).2.1)), (2, .ref (bd_ea E 9 w b)), (0, .ref (bd_ea E 2 w 0)), (1, .int (nI b))]) hx hb dX2_bestChange_101 hl (k := 1) rfl (nI_1 j2) (by decide) rfl (fun ls hl => ?_)
                refine lv_goto (tgt := 42) hx hb dX2_bestChange_104 (by decide) ?_
                exact ih2 (j2 + 1) (by omega) (by omega) (by omega) _ _ (hR.eq (by first | (simp (config := { decide := true }) only [kx_bi, kx_bi1, eq_false c33, eq_false nc33, eq_false hnj, eq_false c48, eq_false nc48, eq_true c85, ↓reduceIte, not_true_eq_false, not_false_eq_true, and_self, and_true, true_and, and_false, false_and]; done) | rfl) rfl) hS _ (by rw [show ((kx_bi (kx_bo xm w n b (z b) j) w n b (z b) j (j2 + 1)).2.2 : Int32) = (kx_bi (kx_bo xm w n b (z b) j) w n b (z b) j j2).2.2 from (by first | (simp (config := { decide := true }) only [kx_bi, kx_bi1, eq_false c33, eq_false nc33, eq_false hnj, eq_false c48, eq_false nc48, eq_true c85, ↓reduceIte, not_true_eq_false, not_false_eq_true, and_self, and_true, true_and, and_false, false_and]; done) | rfl)]; rw [show ((kx_bi (kx_bo xm w n b (z b) j) w n b (z b) j (j2 + 1)).2.1 : Int32) = (kx_bi (kx_bo xm w n b (z b) j) w n b (z b) j j2).2.1 from (by first | (simp (config := { decide := true }) only [kx_bi, kx_bi1, eq_false c33, eq_false nc33, eq_false hnj, eq_false c48, eq_false nc48, eq_true c85, ↓reduceIte, not_true_eq_false, not_false_eq_true, and_self, and_true, true_and, and_false, false_and]; done) | rfl)]; exact lv_sub hl [0, 2, 3, 4, 5, 6, 7] rfl)
              · skip
                refine lv_iload hx hb dX2_bestChange_88 (lv_at hl 0 rfl) ?_
                refine lv_istore_n (lv' := [(3, .int (kx_mo (kx_seat (kx_swap ((kx_bi (kx_bo xm w n b (z b) j) w n b (z b) j j2).1) w n b j j2) w n b (z b)) w n b (z b))), (7, .int (kx_mo (kx_seat (kx_swap ((kx_bi (kx_bo xm w n b (z b) j) w n b (z b) j j2).1) w n b j j2) w n b (z b)) w n b (z b))), (6, .int (nI j2)), (5, .int (nI j)), (4, .int ((kx_bi (kx_bo xm w n b (z b) j) w n b (z b) j j2).2.2)), (2, .ref (bd_ea E 9 w b)), (0, .ref (bd_ea E 2 w 0)), (1, .int (nI b))]) hx hb dX2_bestChange_90 rfl hl (by decide) rfl (fun ls hl => ?_)
                refine lv_bipush (v := 8) hx hb dX2_bestChange_91 (by decide) ?_
                refine lv_iload hx hb dX2_bestChange_93 (lv_at hl 3 rfl) ?_
                refine lv_imul hx hb dX2_bestChange_95 ?_
                refine lv_iload hx hb dX2_bestChange_96 (lv_at hl 2 rfl) ?_
                refine lv_iadd hx hb dX2_bestChange_98 ?_
                refine lv_istore (lv' := [(4, .int ((8 * (nI j)) + (nI j2))), (3, .int (kx_mo (kx_seat (kx_swap ((kx_bi (kx_bo xm w n b (z b) j) w n b (z b) j j2).1) w n b j j2) w n b (z b)) w n b (z b))), (7, .int (kx_mo (kx_seat (kx_swap ((kx_bi (kx_bo xm w n b (z b) j) w n b (z b) j j2).1) w n b j j2) w n b (z b)) w n b (z b))), (6, .int (nI j2)), (5, .int (nI j)), (2, .ref (bd_ea E 9 w b)), (0, .ref (bd_ea E 2 w 0)), (1, .int (nI b))]) hx hb dX2_bestChange_99 hl (by decide) rfl (fun ls hl => ?_)
                refine lv_iinc (v := nI (j2 + 1)) (lv' := [(6, .int (nI (j2 + 1))), (4, .int ((8 * (nI j)) + (nI j2))), (3, .int (kx_mo (kx_seat (kx_swap ((kx_bi (kx_bo xm w n b (z b) j) w n b (z b) j j2).1) w n b j j2) w n b (z b)) w n b (z b))), (7, .int (kx_mo (kx_seat (kx_swap ((kx_bi (kx_bo xm w n b (z b) j) w n b (z b) j j2).1) w n b j j2) w n b (z b)) w n b (z b))), (5, .int (nI j)), (2, .ref (bd_ea E 9 w b)), (0, .ref (bd_ea E 2 w 0)), (1, .int (nI b))]) hx hb dX2_bestChange_101 hl (k := 3) rfl (nI_1 j2) (by decide) rfl (fun ls hl => ?_)
                refine lv_goto (tgt := 42) hx hb dX2_bestChange_104 (by decide) ?_
                exact ih2 (j2 + 1) (by omega) (by omega) (by omega) _ _ (hR.eq (by first | (simp (config := { decide := true }) only [kx_bi, kx_bi1, eq_false c33, eq_false nc33, eq_false hnj, eq_false c48, eq_false nc48, eq_false c85, ↓reduceIte, not_true_eq_false, not_false_eq_true, and_self, and_true, true_and, and_false, false_and]; done) | rfl) rfl) hS _ (by rw [show ((kx_bi (kx_bo xm w n b (z b) j) w n b (z b) j (j2 + 1)).2.2 : Int32) = (8 * (nI j)) + (nI j2) from (by first | (simp (config := { decide := true }) only [kx_bi, kx_bi1, eq_false c33, eq_false nc33, eq_false hnj, eq_false c48, eq_false nc48, eq_false c85, ↓reduceIte, not_true_eq_false, not_false_eq_true, and_self, and_true, true_and, and_false, false_and]; done) | rfl)]; rw [show ((kx_bi (kx_bo xm w n b (z b) j) w n b (z b) j (j2 + 1)).2.1 : Int32) = kx_mo (kx_seat (kx_swap ((kx_bi (kx_bo xm w n b (z b) j) w n b (z b) j j2).1) w n b j j2) w n b (z b)) w n b (z b) from (by first | (simp (config := { decide := true }) only [kx_bi, kx_bi1, eq_false c33, eq_false nc33, eq_false hnj, eq_false c48, eq_false nc48, eq_false c85, ↓reduceIte, not_true_eq_false, not_false_eq_true, and_self, and_true, true_and, and_false, false_and]; done) | rfl)]; exact lv_sub hl [0, 4, 1, 2, 5, 6, 7] rfl)
        exact lp2 ((z b) + 1) (j + 1) (Nat.le_refl _) (by omega) (by omega) _ _ (hR.eq (by rw [kx_bi_0 (j + 1) (Nat.le_refl _)]) rfl) hS _ (by rw [show (nI (j + 1) : Int32) = (nI j) + 1 from by exact (nI_1 j).symm]; rw [show ((kx_bi (kx_bo xm w n b (z b) j) w n b (z b) j (j + 1)).2.2 : Int32) = (kx_bo xm w n b (z b) j).2.2 from by rw [kx_bi_0 (j + 1) (Nat.le_refl _)]]; rw [show ((kx_bi (kx_bo xm w n b (z b) j) w n b (z b) j (j + 1)).2.1 : Int32) = (kx_bo xm w n b (z b) j).2.1 from by rw [kx_bi_0 (j + 1) (Nat.le_refl _)]]; exact lv_sub hl [0, 1, 2, 3, 4, 5, 6] rfl)
  exact lp1 ((z b) + 1) 0 (by omega) (by omega) _ _ (hR.eq rfl rfl) hS _ (by first | exact lv_sub hl [0, 1, 2, 3, 4, 5] rfl | (rw [show (nI 0 : Int32) = 0 from by first | rfl | decide | simp [nI_0]]; rw [show ((kx_bo xm w n b (z b) 0).2.2 : Int32) = (-1) from by first | rfl | decide | simp [nI_0]]; rw [show ((kx_bo xm w n b (z b) 0).2.1 : Int32) = kx_mo (kx_seat xm w n b (z b)) w n b (z b) from by first | rfl | decide | simp [nI_0]]; exact lv_sub hl [0, 1, 2, 3, 4, 5] rfl))
