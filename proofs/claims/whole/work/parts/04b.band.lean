/-! BANDS -/
set_option maxHeartbeats 4000000 in
set_option maxRecDepth 100000 in
theorem k_X0_chairAt (l : Launch) (E : bd_E) (xm ym : bd_M) (om : Nat → Int64) (w : Nat) (n : Nat) (nb : Nat) (z : (Nat→Nat)) (b : Nat) (v : Int32) (hw : w < 2) (hs : kx_Sh xm w n nb z) (hb6 : b < 6) : bd_Ct l yX0_chairAt cX0_chairAt 2 (some (.object "BandDay$Chair")) 0 0 0 0 E [.ref (bd_ea E 9 w b), .int v] xm ym om xm ym om (some ((if ¬ v < 0 ∧ v < nI (z b) then Value.ref (bd_ea E 11 w (8 * b + v.toNatClampNeg)) else Value.null))) := by
  refine bd_open RX0 rfl (by decide) (Nat.le_of_ble_eq_true rfl) ?_
  intro p e s m args below meth c ls C hr hlk hS hR hl
  have hx := C.1.1
  have hb := C.1.2.1
  have hs24 := hs.2.1
  have hs6 := hs.2.2.2.1
  have hl : lv_has ls 2 [(0, .ref (bd_ea E 9 w b)), (1, .int v)] := hl
  refine lv_iload_n hx hb dX0_chairAt_0 rfl (lv_at hl 1 rfl) ?_
  refine lv_if_lt (tgt := 21) hx hb dX0_chairAt_1 (by decide) (fun c1 => ?_) (fun c1 => ?_)
  · skip
    have o : ¬ (¬ v < 0 ∧ v < nI (z b)) := fun q => q.1 c1
    refine lv_null hx hb dX0_chairAt_21 ?_
    exact bd_ra C hr (Or.inl ⟨_, rfl⟩) hlk (hR.eq rfl rfl) hS (Nat.zero_le _) (Nat.zero_le _) dX0_chairAt_22 (Or.inl rfl) (by first | rfl | (first | rw [if_neg o] | rw [if_pos ⟨c1, Int32.not_le.mp c9⟩]))
  · skip
    refine lv_iload_n hx hb dX0_chairAt_4 rfl (lv_at hl 1 rfl) ?_
    refine lv_aload_n hx hb dX0_chairAt_5 rfl (lv_at hl 0 rfl) ?_
    refine bd_g_X0_size C hR (by omega) (by omega) qf_X0_31 dX0_chairAt_6 ?_
    have z6 := ((show kx_Sh xm w n nb z from hs).2.2.2.2 b (by omega)).2
    rw [show xm 20 w b = nI (z b) from ((show kx_Sh xm w n nb z from hs).2.2.2.2 b (by omega)).1]
    refine lv_icmp_ge (tgt := 21) hx hb dX0_chairAt_9 (by decide) (fun c9 => ?_) (fun c9 => ?_)
    · skip
      have o : ¬ (¬ v < 0 ∧ v < nI (z b)) := fun q => absurd q.2 (Int32.not_lt.mpr c9)
      refine lv_null hx hb dX0_chairAt_21 ?_
      exact bd_ra C hr (Or.inl ⟨_, rfl⟩) hlk (hR.eq rfl rfl) hS (Nat.zero_le _) (Nat.zero_le _) dX0_chairAt_22 (Or.inl rfl) (by first | rfl | (first | rw [if_neg o] | rw [if_pos ⟨c1, Int32.not_le.mp c9⟩]))
    · skip
      have n12 := bd_tnl c1 (Int32.not_le.mp c9) (by omega)
      refine lv_aload_n hx hb dX0_chairAt_12 rfl (lv_at hl 0 rfl) ?_
      refine bd_g_X0_chairs C hR (by omega) (by omega) qf_X0_11 dX0_chairAt_13 ?_
      refine lv_iload_n hx hb dX0_chairAt_16 rfl (lv_at hl 1 rfl) ?_
      refine bd_ti (j := v.toNatClampNeg) (bd_tn (by assumption)) ?_
      refine bd_ld_10 C hR (by omega) (by omega) (j := v.toNatClampNeg) (by omega) dX0_chairAt_17 ?_
      refine lv_goto (tgt := 22) hx hb dX0_chairAt_18 (by decide) ?_
      exact bd_ra C hr (Or.inl ⟨_, rfl⟩) hlk (hR.eq rfl rfl) hS (Nat.zero_le _) (Nat.zero_le _) dX0_chairAt_22 (Or.inr ⟨_, rfl⟩) (by first | rfl | (first | rw [if_neg o] | rw [if_pos ⟨c1, Int32.not_le.mp c9⟩]))
set_option maxHeartbeats 4000000 in
set_option maxRecDepth 100000 in
theorem k_X0_raiseSpirit (l : Launch) (E : bd_E) (xm ym : bd_M) (om : Nat → Int64) (w : Nat) (n : Nat) (nb : Nat) (z : (Nat→Nat)) (b : Nat) (v : Int32) (hw : w < 2) (hs : kx_Sh xm w n nb z) (hb6 : b < 6) : bd_Ct l yX0_raiseSpirit cX0_raiseSpirit 2 none 1 20 0 0 E [.ref (bd_ea E 9 w b), .int v] xm ym om (kx_raise xm w b v) ym om (none) := by
  refine bd_open RX0 rfl (by decide) (Nat.le_of_ble_eq_true rfl) ?_
  intro p e s m args below meth c ls C hr hlk hS hR hl
  have hx := C.1.1
  have hb := C.1.2.1
  have hs24 := hs.2.1
  have hs6 := hs.2.2.2.1
  have hl : lv_has ls 2 [(0, .ref (bd_ea E 9 w b)), (1, .int v)] := hl
  refine lv_aload_n hx hb dX0_raiseSpirit_0 rfl (lv_at hl 0 rfl) ?_
  refine lv_iconst (v := 0) hx hb dX0_raiseSpirit_1 (by decide) ?_
  refine lv_bipush (v := 50) hx hb dX0_raiseSpirit_2 (by decide) ?_
  refine lv_aload_n hx hb dX0_raiseSpirit_4 rfl (lv_at hl 0 rfl) ?_
  refine bd_g_X0_spirit C hR (by omega) (by omega) qf_X0_38 dX0_raiseSpirit_5 ?_
  refine lv_iload_n hx hb dX0_raiseSpirit_8 rfl (lv_at hl 1 rfl) ?_
  refine lv_iadd hx hb dX0_raiseSpirit_9 ?_
  refine bd_min C hl.1 qm_X0_47 ⟨Nat.le_of_ble_eq_true rfl, Nat.le_of_ble_eq_true rfl⟩ ⟨Nat.le_of_ble_eq_true rfl, Nat.le_of_ble_eq_true rfl⟩ dX0_raiseSpirit_10 ?_
  refine bd_max C hl.1 qm_X0_56 ⟨Nat.le_of_ble_eq_true rfl, Nat.le_of_ble_eq_true rfl⟩ ⟨Nat.le_of_ble_eq_true rfl, Nat.le_of_ble_eq_true rfl⟩ dX0_raiseSpirit_13 ?_
  refine bd_p_X0_spirit C hR hS (by omega) (by omega) qf_X0_38 dX0_raiseSpirit_16 (fun H locs hR hS => ?_)
  exact bd_rv C hr hlk (hR.eq (by first | (simp (config := { decide := true }) only [kx_raise, ↓reduceIte, not_true_eq_false, not_false_eq_true, and_self, and_true, true_and, and_false, false_and]; done) | rfl) rfl) hS (Nat.zero_le _) (Nat.zero_le _) dX0_raiseSpirit_19
set_option maxHeartbeats 4000000 in
set_option maxRecDepth 100000 in
theorem k_X0_members (l : Launch) (E : bd_E) (xm ym : bd_M) (om : Nat → Int64) (w : Nat) (n : Nat) (nb : Nat) (z : (Nat→Nat)) (b : Nat) (hw : w < 2) (hs : kx_Sh xm w n nb z) (hb6 : b < 6) : bd_Ct l yX0_members cX0_members 3 (some .int) 0 0 0 0 E [.ref (bd_ea E 9 w b)] xm ym om xm ym om (some (.int (kx_mem xm w b (z b)))) := by
  refine bd_open RX0 rfl (by decide) (Nat.le_of_ble_eq_true rfl) ?_
  intro p e s m args below meth c ls C hr hlk hS hR hl
  have hx := C.1.1
  have hb := C.1.2.1
  have hs24 := hs.2.1
  have hs6 := hs.2.2.2.1
  have zb8 := (hs.2.2.2.2 b (by omega)).2
  have hl : lv_has ls 3 [(0, .ref (bd_ea E 9 w b))] := hl
  refine lv_iconst (v := 0) hx hb dX0_members_0 (by decide) ?_
  refine lv_istore_n (lv' := [(1, .int 0), (0, .ref (bd_ea E 9 w b))]) hx hb dX0_members_1 rfl hl (by decide) rfl (fun ls hl => ?_)
  refine lv_iconst (v := 0) hx hb dX0_members_2 (by decide) ?_
  refine lv_istore_n (lv' := [(2, .int 0), (1, .int 0), (0, .ref (bd_ea E 9 w b))]) hx hb dX0_members_3 rfl hl (by decide) rfl (fun ls hl => ?_)
  have lp1 : ∀ (t1 j : Nat), j ≤ z b → (z b) - j < t1 → ∀ (H : Heap) (locs : List Loc), bd_Rep E xm ym om H → va_S (bd_A E) s.heap H locs → ∀ (ls : Array Slot), lv_has ls 3 [(2, .int (nI j)), (1, .int (kx_mem xm w b j)), (0, .ref (bd_ea E 9 w b))] → W p l e { frames := 0, cells := 0, slots := 0, locals := 0 } s m args below meth c H locs 0 0 (MQ below (bd_Q E xm ym om (some (.int (kx_mem xm w b (z b))))) args s 0 0 (bd_A E)) (F0 m 4 ls []) := by
    intro t1
    induction t1 with
    | zero => intro j h1 h2; exact absurd h2 (Nat.not_lt_zero _)
    | succ t1 ih1 =>
      intro j hj1 hj2 H locs hR hS ls hl
      refine lv_iload_n hx hb dX0_members_4 rfl (lv_at hl 0 rfl) ?_
      refine lv_aload_n hx hb dX0_members_5 rfl (lv_at hl 2 rfl) ?_
      refine bd_g_X0_size C hR (by omega) (by omega) qf_X0_31 dX0_members_6 ?_
      have z6 := ((show kx_Sh xm w n nb z from hs).2.2.2.2 b (by omega)).2
      rw [show xm 20 w b = nI (z b) from ((show kx_Sh xm w n nb z from hs).2.2.2.2 b (by omega)).1]
      refine lv_icmp_ge (tgt := 34) hx hb dX0_members_9 (by decide) (fun c9 => ?_) (fun c9 => ?_)
      · skip
        have nc9 : (z b) ≤ j := (nI_leI (a := (z b)) (b := j) (by omega) (by omega)).mp c9
        obtain rfl : z b = j := by omega
        refine lv_iload_n hx hb dX0_members_34 rfl (lv_at hl 1 rfl) ?_
        exact bd_ri C hr hlk (hR.eq rfl rfl) hS (Nat.zero_le _) (Nat.zero_le _) dX0_members_35 rfl
      · skip
        have nc9 : ¬ (z b) ≤ j := fun q9 => c9 ((nI_leI (a := (z b)) (b := j) (by omega) (by omega)).mpr q9)
        refine lv_aload_n hx hb dX0_members_12 rfl (lv_at hl 2 rfl) ?_
        refine bd_g_X0_chairs C hR (by omega) (by omega) qf_X0_11 dX0_members_13 ?_
        refine lv_iload_n hx hb dX0_members_16 rfl (lv_at hl 0 rfl) ?_
        refine bd_ld_10 C hR (by omega) (by omega) (j := j) (by omega) dX0_members_17 ?_
        refine bd_g_X1_member C hR (by omega) (by omega) qf_X0_59 dX0_members_18 ?_
        refine lv_iconst (v := (-1)) hx hb dX0_members_21 (by decide) ?_
        refine lv_icmp_eq (tgt := 28) hx hb dX0_members_22 (by decide) (fun c22 => ?_) (fun c22 => ?_)
        · skip
          refine lv_iinc (v := nI (j + 1)) (lv' := [(2, .int (nI (j + 1))), (1, .int (kx_mem xm w b j)), (0, .ref (bd_ea E 9 w b))]) hx hb dX0_members_28 hl (k := 0) rfl (nI_1 j) (by decide) rfl (fun ls hl => ?_)
          refine lv_goto (tgt := 4) hx hb dX0_members_31 (by decide) ?_
          exact ih1 (j + 1) (by omega) (by omega) _ _ (hR.eq rfl rfl) hS _ (by rw [show (kx_mem xm w b (j + 1) : Int32) = kx_mem xm w b j from (by first | (simp (config := { decide := true }) only [kx_mem, eq_false c9, eq_false nc9, eq_true c22, ↓reduceIte, not_true_eq_false, not_false_eq_true, and_self, and_true, true_and, and_false, false_and]; done) | rfl)]; exact lv_sub hl [0, 1, 2] rfl)
        · skip
          refine lv_iinc (v := (kx_mem xm w b j) + 1) (lv' := [(1, .int ((kx_mem xm w b j) + 1)), (2, .int (nI j)), (0, .ref (bd_ea E 9 w b))]) hx hb dX0_members_25 hl (k := 1) rfl rfl (by decide) rfl (fun ls hl => ?_)
          refine lv_iinc (v := nI (j + 1)) (lv' := [(2, .int (nI (j + 1))), (1, .int ((kx_mem xm w b j) + 1)), (0, .ref (bd_ea E 9 w b))]) hx hb dX0_members_28 hl (k := 1) rfl (nI_1 j) (by decide) rfl (fun ls hl => ?_)
          refine lv_goto (tgt := 4) hx hb dX0_members_31 (by decide) ?_
          exact ih1 (j + 1) (by omega) (by omega) _ _ (hR.eq rfl rfl) hS _ (by rw [show (kx_mem xm w b (j + 1) : Int32) = (kx_mem xm w b j) + 1 from (by first | (simp (config := { decide := true }) only [kx_mem, eq_false c9, eq_false nc9, eq_false c22, ↓reduceIte, not_true_eq_false, not_false_eq_true, and_self, and_true, true_and, and_false, false_and]; done) | rfl)]; exact lv_sub hl [0, 1, 2] rfl)
  exact lp1 ((z b) + 1) 0 (by omega) (by omega) _ _ (hR.eq rfl rfl) hS _ (by first | exact lv_sub hl [0, 1, 2] rfl | (rw [show (nI 0 : Int32) = 0 from by first | rfl | decide | simp [nI_0]]; rw [show (kx_mem xm w b 0 : Int32) = 0 from by first | rfl | decide | simp [nI_0]]; exact lv_sub hl [0, 1, 2] rfl))
set_option maxHeartbeats 4000000 in
set_option maxRecDepth 100000 in
theorem k_X0_ownSitting (l : Launch) (E : bd_E) (xm ym : bd_M) (om : Nat → Int64) (w : Nat) (n : Nat) (nb : Nat) (z : (Nat→Nat)) (b : Nat) (hw : w < 2) (hs : kx_Sh xm w n nb z) (hb6 : b < 6) : bd_Ct l yX0_ownSitting cX0_ownSitting 3 (some .int) 1 20 0 0 E [.ref (bd_ea E 9 w b)] xm ym om xm ym om (some (.int (kx_owns xm w b (z b)))) := by
  refine bd_open RX0 rfl (by decide) (Nat.le_of_ble_eq_true rfl) ?_
  intro p e s m args below meth c ls C hr hlk hS hR hl
  have hx := C.1.1
  have hb := C.1.2.1
  have hs24 := hs.2.1
  have hs6 := hs.2.2.2.1
  have zb8 := (hs.2.2.2.2 b (by omega)).2
  have hl : lv_has ls 3 [(0, .ref (bd_ea E 9 w b))] := hl
  refine lv_iconst (v := 0) hx hb dX0_ownSitting_0 (by decide) ?_
  refine lv_istore_n (lv' := [(1, .int 0), (0, .ref (bd_ea E 9 w b))]) hx hb dX0_ownSitting_1 rfl hl (by decide) rfl (fun ls hl => ?_)
  refine lv_iconst (v := 0) hx hb dX0_ownSitting_2 (by decide) ?_
  refine lv_istore_n (lv' := [(2, .int 0), (1, .int 0), (0, .ref (bd_ea E 9 w b))]) hx hb dX0_ownSitting_3 rfl hl (by decide) rfl (fun ls hl => ?_)
  have lp1 : ∀ (t1 j : Nat), j ≤ z b → (z b) - j < t1 → ∀ (H : Heap) (locs : List Loc), bd_Rep E xm ym om H → va_S (bd_A E) s.heap H locs → ∀ (ls : Array Slot), lv_has ls 3 [(2, .int (nI j)), (1, .int (kx_owns xm w b j)), (0, .ref (bd_ea E 9 w b))] → W p l e { frames := 1, cells := 0, slots := 0, locals := 20 } s m args below meth c H locs 0 0 (MQ below (bd_Q E xm ym om (some (.int (kx_owns xm w b (z b))))) args s 0 0 (bd_A E)) (F0 m 4 ls []) := by
    intro t1
    induction t1 with
    | zero => intro j h1 h2; exact absurd h2 (Nat.not_lt_zero _)
    | succ t1 ih1 =>
      intro j hj1 hj2 H locs hR hS ls hl
      refine lv_iload_n hx hb dX0_ownSitting_4 rfl (lv_at hl 0 rfl) ?_
      refine lv_aload_n hx hb dX0_ownSitting_5 rfl (lv_at hl 2 rfl) ?_
      refine bd_g_X0_size C hR (by omega) (by omega) qf_X0_31 dX0_ownSitting_6 ?_
      have z6 := ((show kx_Sh xm w n nb z from hs).2.2.2.2 b (by omega)).2
      rw [show xm 20 w b = nI (z b) from ((show kx_Sh xm w n nb z from hs).2.2.2.2 b (by omega)).1]
      refine lv_icmp_ge (tgt := 33) hx hb dX0_ownSitting_9 (by decide) (fun c9 => ?_) (fun c9 => ?_)
      · skip
        have nc9 : (z b) ≤ j := (nI_leI (a := (z b)) (b := j) (by omega) (by omega)).mp c9
        obtain rfl : z b = j := by omega
        refine lv_iload_n hx hb dX0_ownSitting_33 rfl (lv_at hl 1 rfl) ?_
        exact bd_ri C hr hlk (hR.eq rfl rfl) hS (Nat.zero_le _) (Nat.zero_le _) dX0_ownSitting_34 rfl
      · skip
        have nc9 : ¬ (z b) ≤ j := fun q9 => c9 ((nI_leI (a := (z b)) (b := j) (by omega) (by omega)).mpr q9)
        refine lv_aload_n hx hb dX0_ownSitting_12 rfl (lv_at hl 2 rfl) ?_
        refine bd_g_X0_chairs C hR (by omega) (by omega) qf_X0_11 dX0_ownSitting_13 ?_
        refine lv_iload_n hx hb dX0_ownSitting_16 rfl (lv_at hl 0 rfl) ?_
        refine bd_ld_10 C hR (by omega) (by omega) (j := j) (by omega) dX0_ownSitting_17 ?_
        refine bd_cV1 [] [] C (k_X1_hasOwn l E xm ym om w (8 * b + j) (by omega) (by omega)) hR hS (bd_recv C.2 hR ⟨by decide, show w < 2 by omega, show 8 * b + j < 48 by omega⟩ rfl rfl) qm_X0_62 qi_X1_hasOwn qs_X1_hasOwn qz_X1 qc_X1_hasOwn qp_X1_hasOwn ⟨Nat.le_of_ble_eq_true rfl, Nat.le_of_ble_eq_true rfl⟩ hl.1 (Nat.le_of_ble_eq_true rfl) dX0_ownSitting_18 ⟨Nat.le_of_ble_eq_true rfl, Nat.le_of_ble_eq_true rfl⟩ (fun H locs hR hS hz18 => ?_)
        refine bd_ifeq (P := kx_own xm w (8 * b + j)) (tgt := 27) C dX0_ownSitting_21 (by decide) (fun c21 => ?_) (fun c21 => ?_)
        · skip
          refine lv_iinc (v := nI (j + 1)) (lv' := [(2, .int (nI (j + 1))), (1, .int (kx_owns xm w b j)), (0, .ref (bd_ea E 9 w b))]) hx hb dX0_ownSitting_27 hl (k := 0) rfl (nI_1 j) (by decide) rfl (fun ls hl => ?_)
          refine lv_goto (tgt := 4) hx hb dX0_ownSitting_30 (by decide) ?_
          exact ih1 (j + 1) (by omega) (by omega) _ _ (hR.eq rfl rfl) hS _ (by rw [show (kx_owns xm w b (j + 1) : Int32) = kx_owns xm w b j from (by first | (simp (config := { decide := true }) only [kx_owns, eq_false c9, eq_false nc9, eq_false c21, ↓reduceIte, not_true_eq_false, not_false_eq_true, and_self, and_true, true_and, and_false, false_and]; done) | rfl)]; exact lv_sub hl [0, 1, 2] rfl)
        · skip
          refine lv_iinc (v := (kx_owns xm w b j) + 1) (lv' := [(1, .int ((kx_owns xm w b j) + 1)), (2, .int (nI j)), (0, .ref (bd_ea E 9 w b))]) hx hb dX0_ownSitting_24 hl (k := 1) rfl rfl (by decide) rfl (fun ls hl => ?_)
          refine lv_iinc (v := nI (j + 1)) (lv' := [(2, .int (nI (j + 1))), (1, .int ((kx_owns xm w b j) + 1)), (0, .ref (bd_ea E 9 w b))]) hx hb dX0_ownSitting_27 hl (k := 1) rfl (nI_1 j) (by decide) rfl (fun ls hl => ?_)
          refine lv_goto (tgt := 4) hx hb dX0_ownSitting_30 (by decide) ?_
          exact ih1 (j + 1) (by omega) (by omega) _ _ (hR.eq rfl rfl) hS _ (by rw [show (kx_owns xm w b (j + 1) : Int32) = (kx_owns xm w b j) + 1 from (by first | (simp (config := { decide := true }) only [kx_owns, eq_false c9, eq_false nc9, eq_true c21, ↓reduceIte, not_true_eq_false, not_false_eq_true, and_self, and_true, true_and, and_false, false_and]; done) | rfl)]; exact lv_sub hl [0, 1, 2] rfl)
  exact lp1 ((z b) + 1) 0 (by omega) (by omega) _ _ (hR.eq rfl rfl) hS _ (by first | exact lv_sub hl [0, 1, 2] rfl | (rw [show (nI 0 : Int32) = 0 from by first | rfl | decide | simp [nI_0]]; rw [show (kx_owns xm w b 0 : Int32) = 0 from by first | rfl | decide | simp [nI_0]]; exact lv_sub hl [0, 1, 2] rfl))
set_option maxHeartbeats 4000000 in
set_option maxRecDepth 100000 in
theorem k_X0_deputiesSitting (l : Launch) (E : bd_E) (xm ym : bd_M) (om : Nat → Int64) (w : Nat) (n : Nat) (nb : Nat) (z : (Nat→Nat)) (b : Nat) (hw : w < 2) (hs : kx_Sh xm w n nb z) (hb6 : b < 6) : bd_Ct l yX0_deputiesSitting cX0_deputiesSitting 3 (some .int) 1 20 0 0 E [.ref (bd_ea E 9 w b)] xm ym om xm ym om (some (.int (kx_deps xm w b (z b)))) := by
  refine bd_open RX0 rfl (by decide) (Nat.le_of_ble_eq_true rfl) ?_
  intro p e s m args below meth c ls C hr hlk hS hR hl
  have hx := C.1.1
  have hb := C.1.2.1
  have hs24 := hs.2.1
  have hs6 := hs.2.2.2.1
  have zb8 := (hs.2.2.2.2 b (by omega)).2
  have hl : lv_has ls 3 [(0, .ref (bd_ea E 9 w b))] := hl
  refine lv_iconst (v := 0) hx hb dX0_deputiesSitting_0 (by decide) ?_
  refine lv_istore_n (lv' := [(1, .int 0), (0, .ref (bd_ea E 9 w b))]) hx hb dX0_deputiesSitting_1 rfl hl (by decide) rfl (fun ls hl => ?_)
  refine lv_iconst (v := 0) hx hb dX0_deputiesSitting_2 (by decide) ?_
  refine lv_istore_n (lv' := [(2, .int 0), (1, .int 0), (0, .ref (bd_ea E 9 w b))]) hx hb dX0_deputiesSitting_3 rfl hl (by decide) rfl (fun ls hl => ?_)
  have lp1 : ∀ (t1 j : Nat), j ≤ z b → (z b) - j < t1 → ∀ (H : Heap) (locs : List Loc), bd_Rep E xm ym om H → va_S (bd_A E) s.heap H locs → ∀ (ls : Array Slot), lv_has ls 3 [(2, .int (nI j)), (1, .int (kx_deps xm w b j)), (0, .ref (bd_ea E 9 w b))] → W p l e { frames := 1, cells := 0, slots := 0, locals := 20 } s m args below meth c H locs 0 0 (MQ below (bd_Q E xm ym om (some (.int (kx_deps xm w b (z b))))) args s 0 0 (bd_A E)) (F0 m 4 ls []) := by
    intro t1
    induction t1 with
    | zero => intro j h1 h2; exact absurd h2 (Nat.not_lt_zero _)
    | succ t1 ih1 =>
      intro j hj1 hj2 H locs hR hS ls hl
      refine lv_iload_n hx hb dX0_deputiesSitting_4 rfl (lv_at hl 0 rfl) ?_
      refine lv_aload_n hx hb dX0_deputiesSitting_5 rfl (lv_at hl 2 rfl) ?_
      refine bd_g_X0_size C hR (by omega) (by omega) qf_X0_31 dX0_deputiesSitting_6 ?_
      have z6 := ((show kx_Sh xm w n nb z from hs).2.2.2.2 b (by omega)).2
      rw [show xm 20 w b = nI (z b) from ((show kx_Sh xm w n nb z from hs).2.2.2.2 b (by omega)).1]
      refine lv_icmp_ge (tgt := 33) hx hb dX0_deputiesSitting_9 (by decide) (fun c9 => ?_) (fun c9 => ?_)
      · skip
        have nc9 : (z b) ≤ j := (nI_leI (a := (z b)) (b := j) (by omega) (by omega)).mp c9
        obtain rfl : z b = j := by omega
        refine lv_iload_n hx hb dX0_deputiesSitting_33 rfl (lv_at hl 1 rfl) ?_
        exact bd_ri C hr hlk (hR.eq rfl rfl) hS (Nat.zero_le _) (Nat.zero_le _) dX0_deputiesSitting_34 rfl
      · skip
        have nc9 : ¬ (z b) ≤ j := fun q9 => c9 ((nI_leI (a := (z b)) (b := j) (by omega) (by omega)).mpr q9)
        refine lv_aload_n hx hb dX0_deputiesSitting_12 rfl (lv_at hl 2 rfl) ?_
        refine bd_g_X0_chairs C hR (by omega) (by omega) qf_X0_11 dX0_deputiesSitting_13 ?_
        refine lv_iload_n hx hb dX0_deputiesSitting_16 rfl (lv_at hl 0 rfl) ?_
        refine bd_ld_10 C hR (by omega) (by omega) (j := j) (by omega) dX0_deputiesSitting_17 ?_
        refine bd_cV1 [] [] C (k_X1_hasDeputy l E xm ym om w (8 * b + j) (by omega) (by omega)) hR hS (bd_recv C.2 hR ⟨by decide, show w < 2 by omega, show 8 * b + j < 48 by omega⟩ rfl rfl) qm_X0_66 qi_X1_hasDeputy qs_X1_hasDeputy qz_X1 qc_X1_hasDeputy qp_X1_hasDeputy ⟨Nat.le_of_ble_eq_true rfl, Nat.le_of_ble_eq_true rfl⟩ hl.1 (Nat.le_of_ble_eq_true rfl) dX0_deputiesSitting_18 ⟨Nat.le_of_ble_eq_true rfl, Nat.le_of_ble_eq_true rfl⟩ (fun H locs hR hS hz18 => ?_)
        refine bd_ifeq (P := kx_dep xm w (8 * b + j)) (tgt := 27) C dX0_deputiesSitting_21 (by decide) (fun c21 => ?_) (fun c21 => ?_)
        · skip
          refine lv_iinc (v := nI (j + 1)) (lv' := [(2, .int (nI (j + 1))), (1, .int (kx_deps xm w b j)), (0, .ref (bd_ea E 9 w b))]) hx hb dX0_deputiesSitting_27 hl (k := 0) rfl (nI_1 j) (by decide) rfl (fun ls hl => ?_)
          refine lv_goto (tgt := 4) hx hb dX0_deputiesSitting_30 (by decide) ?_
          exact ih1 (j + 1) (by omega) (by omega) _ _ (hR.eq rfl rfl) hS _ (by rw [show (kx_deps xm w b (j + 1) : Int32) = kx_deps xm w b j from (by first | (simp (config := { decide := true }) only [kx_deps, eq_false c9, eq_false nc9, eq_false c21, ↓reduceIte, not_true_eq_false, not_false_eq_true, and_self, and_true, true_and, and_false, false_and]; done) | rfl)]; exact lv_sub hl [0, 1, 2] rfl)
        · skip
          refine lv_iinc (v := (kx_deps xm w b j) + 1) (lv' := [(1, .int ((kx_deps xm w b j) + 1)), (2, .int (nI j)), (0, .ref (bd_ea E 9 w b))]) hx hb dX0_deputiesSitting_24 hl (k := 1) rfl rfl (by decide) rfl (fun ls hl => ?_)
          refine lv_iinc (v := nI (j + 1)) (lv' := [(2, .int (nI (j + 1))), (1, .int ((kx_deps xm w b j) + 1)), (0, .ref (bd_ea E 9 w b))]) hx hb dX0_deputiesSitting_27 hl (k := 1) rfl (nI_1 j) (by decide) rfl (fun ls hl => ?_)
          refine lv_goto (tgt := 4) hx hb dX0_deputiesSitting_30 (by decide) ?_
          exact ih1 (j + 1) (by omega) (by omega) _ _ (hR.eq rfl rfl) hS _ (by rw [show (kx_deps xm w b (j + 1) : Int32) = (kx_deps xm w b j) + 1 from (by first | (simp (config := { decide := true }) only [kx_deps, eq_false c9, eq_false nc9, eq_true c21, ↓reduceIte, not_true_eq_false, not_false_eq_true, and_self, and_true, true_and, and_false, false_and]; done) | rfl)]; exact lv_sub hl [0, 1, 2] rfl)
  exact lp1 ((z b) + 1) 0 (by omega) (by omega) _ _ (hR.eq rfl rfl) hS _ (by first | exact lv_sub hl [0, 1, 2] rfl | (rw [show (nI 0 : Int32) = 0 from by first | rfl | decide | simp [nI_0]]; rw [show (kx_deps xm w b 0 : Int32) = 0 from by first | rfl | decide | simp [nI_0]]; exact lv_sub hl [0, 1, 2] rfl))
set_option maxHeartbeats 4000000 in
set_option maxRecDepth 100000 in
theorem k_X0_emptyChairs (l : Launch) (E : bd_E) (xm ym : bd_M) (om : Nat → Int64) (w : Nat) (n : Nat) (nb : Nat) (z : (Nat→Nat)) (b : Nat) (hw : w < 2) (hs : kx_Sh xm w n nb z) (hb6 : b < 6) : bd_Ct l yX0_emptyChairs cX0_emptyChairs 3 (some .int) 1 20 0 0 E [.ref (bd_ea E 9 w b)] xm ym om xm ym om (some (.int (kx_emps xm w b (z b)))) := by
  refine bd_open RX0 rfl (by decide) (Nat.le_of_ble_eq_true rfl) ?_
  intro p e s m args below meth c ls C hr hlk hS hR hl
  have hx := C.1.1
  have hb := C.1.2.1
  have hs24 := hs.2.1
  have hs6 := hs.2.2.2.1
  have zb8 := (hs.2.2.2.2 b (by omega)).2
  have hl : lv_has ls 3 [(0, .ref (bd_ea E 9 w b))] := hl
  refine lv_iconst (v := 0) hx hb dX0_emptyChairs_0 (by decide) ?_
  refine lv_istore_n (lv' := [(1, .int 0), (0, .ref (bd_ea E 9 w b))]) hx hb dX0_emptyChairs_1 rfl hl (by decide) rfl (fun ls hl => ?_)
  refine lv_iconst (v := 0) hx hb dX0_emptyChairs_2 (by decide) ?_
  refine lv_istore_n (lv' := [(2, .int 0), (1, .int 0), (0, .ref (bd_ea E 9 w b))]) hx hb dX0_emptyChairs_3 rfl hl (by decide) rfl (fun ls hl => ?_)
  have lp1 : ∀ (t1 j : Nat), j ≤ z b → (z b) - j < t1 → ∀ (H : Heap) (locs : List Loc), bd_Rep E xm ym om H → va_S (bd_A E) s.heap H locs → ∀ (ls : Array Slot), lv_has ls 3 [(2, .int (nI j)), (1, .int (kx_emps xm w b j)), (0, .ref (bd_ea E 9 w b))] → W p l e { frames := 1, cells := 0, slots := 0, locals := 20 } s m args below meth c H locs 0 0 (MQ below (bd_Q E xm ym om (some (.int (kx_emps xm w b (z b))))) args s 0 0 (bd_A E)) (F0 m 4 ls []) := by
    intro t1
    induction t1 with
    | zero => intro j h1 h2; exact absurd h2 (Nat.not_lt_zero _)
    | succ t1 ih1 =>
      intro j hj1 hj2 H locs hR hS ls hl
      refine lv_iload_n hx hb dX0_emptyChairs_4 rfl (lv_at hl 0 rfl) ?_
      refine lv_aload_n hx hb dX0_emptyChairs_5 rfl (lv_at hl 2 rfl) ?_
      refine bd_g_X0_size C hR (by omega) (by omega) qf_X0_31 dX0_emptyChairs_6 ?_
      have z6 := ((show kx_Sh xm w n nb z from hs).2.2.2.2 b (by omega)).2
      rw [show xm 20 w b = nI (z b) from ((show kx_Sh xm w n nb z from hs).2.2.2.2 b (by omega)).1]
      refine lv_icmp_ge (tgt := 33) hx hb dX0_emptyChairs_9 (by decide) (fun c9 => ?_) (fun c9 => ?_)
      · skip
        have nc9 : (z b) ≤ j := (nI_leI (a := (z b)) (b := j) (by omega) (by omega)).mp c9
        obtain rfl : z b = j := by omega
        refine lv_iload_n hx hb dX0_emptyChairs_33 rfl (lv_at hl 1 rfl) ?_
        exact bd_ri C hr hlk (hR.eq rfl rfl) hS (Nat.zero_le _) (Nat.zero_le _) dX0_emptyChairs_34 rfl
      · skip
        have nc9 : ¬ (z b) ≤ j := fun q9 => c9 ((nI_leI (a := (z b)) (b := j) (by omega) (by omega)).mpr q9)
        refine lv_aload_n hx hb dX0_emptyChairs_12 rfl (lv_at hl 2 rfl) ?_
        refine bd_g_X0_chairs C hR (by omega) (by omega) qf_X0_11 dX0_emptyChairs_13 ?_
        refine lv_iload_n hx hb dX0_emptyChairs_16 rfl (lv_at hl 0 rfl) ?_
        refine bd_ld_10 C hR (by omega) (by omega) (j := j) (by omega) dX0_emptyChairs_17 ?_
        refine bd_cV1 [] [] C (k_X1_isEmpty l E xm ym om w (8 * b + j) (by omega) (by omega)) hR hS (bd_recv C.2 hR ⟨by decide, show w < 2 by omega, show 8 * b + j < 48 by omega⟩ rfl rfl) qm_X0_69 qi_X1_isEmpty qs_X1_isEmpty qz_X1 qc_X1_isEmpty qp_X1_isEmpty ⟨Nat.le_of_ble_eq_true rfl, Nat.le_of_ble_eq_true rfl⟩ hl.1 (Nat.le_of_ble_eq_true rfl) dX0_emptyChairs_18 ⟨Nat.le_of_ble_eq_true rfl, Nat.le_of_ble_eq_true rfl⟩ (fun H locs hR hS hz18 => ?_)
        refine bd_ifeq (P := xm 12 w (8 * b + j) = (-1)) (tgt := 27) C dX0_emptyChairs_21 (by decide) (fun c21 => ?_) (fun c21 => ?_)
        · skip
          refine lv_iinc (v := nI (j + 1)) (lv' := [(2, .int (nI (j + 1))), (1, .int (kx_emps xm w b j)), (0, .ref (bd_ea E 9 w b))]) hx hb dX0_emptyChairs_27 hl (k := 0) rfl (nI_1 j) (by decide) rfl (fun ls hl => ?_)
          refine lv_goto (tgt := 4) hx hb dX0_emptyChairs_30 (by decide) ?_
          exact ih1 (j + 1) (by omega) (by omega) _ _ (hR.eq rfl rfl) hS _ (by rw [show (kx_emps xm w b (j + 1) : Int32) = kx_emps xm w b j from (by first | (simp (config := { decide := true }) only [kx_emps, eq_false c9, eq_false nc9, eq_false c21, ↓reduceIte, not_true_eq_false, not_false_eq_true, and_self, and_true, true_and, and_false, false_and]; done) | rfl)]; exact lv_sub hl [0, 1, 2] rfl)
        · skip
          refine lv_iinc (v := (kx_emps xm w b j) + 1) (lv' := [(1, .int ((kx_emps xm w b j) + 1)), (2, .int (nI j)), (0, .ref (bd_ea E 9 w b))]) hx hb dX0_emptyChairs_24 hl (k := 1) rfl rfl (by decide) rfl (fun ls hl => ?_)
          refine lv_iinc (v := nI (j + 1)) (lv' := [(2, .int (nI (j + 1))), (1, .int ((kx_emps xm w b j) + 1)), (0, .ref (bd_ea E 9 w b))]) hx hb dX0_emptyChairs_27 hl (k := 1) rfl (nI_1 j) (by decide) rfl (fun ls hl => ?_)
          refine lv_goto (tgt := 4) hx hb dX0_emptyChairs_30 (by decide) ?_
          exact ih1 (j + 1) (by omega) (by omega) _ _ (hR.eq rfl rfl) hS _ (by rw [show (kx_emps xm w b (j + 1) : Int32) = (kx_emps xm w b j) + 1 from (by first | (simp (config := { decide := true }) only [kx_emps, eq_false c9, eq_false nc9, eq_true c21, ↓reduceIte, not_true_eq_false, not_false_eq_true, and_self, and_true, true_and, and_false, false_and]; done) | rfl)]; exact lv_sub hl [0, 1, 2] rfl)
  exact lp1 ((z b) + 1) 0 (by omega) (by omega) _ _ (hR.eq rfl rfl) hS _ (by first | exact lv_sub hl [0, 1, 2] rfl | (rw [show (nI 0 : Int32) = 0 from by first | rfl | decide | simp [nI_0]]; rw [show (kx_emps xm w b 0 : Int32) = 0 from by first | rfl | decide | simp [nI_0]]; exact lv_sub hl [0, 1, 2] rfl))
set_option maxHeartbeats 4000000 in
set_option maxRecDepth 100000 in
theorem k_X0_tell (l : Launch) (E : bd_E) (xm ym : bd_M) (om : Nat → Int64) (w : Nat) (n : Nat) (nb : Nat) (z : (Nat→Nat)) (b : Nat) (v : Int32) (hw : w < 2) (hs : kx_Sh xm w n nb z) (hb6 : b < 6) : bd_Ct l yX0_tell cX0_tell 2 (some .int) 1 22 0 0 E [.ref (bd_ea E 9 w b), .int v] xm ym om xm ym om (some (.int (kx_btell xm w b (z b) v))) := by
  refine bd_open RX0 rfl (by decide) (Nat.le_of_ble_eq_true rfl) ?_
  intro p e s m args below meth c ls C hr hlk hS hR hl
  have hx := C.1.1
  have hb := C.1.2.1
  have hs24 := hs.2.1
  have hs6 := hs.2.2.2.1
  have hl : lv_has ls 2 [(0, .ref (bd_ea E 9 w b)), (1, .int v)] := hl
  refine lv_iload_n hx hb dX0_tell_0 rfl (lv_at hl 1 rfl) ?_
  by_cases e1_0 : v = 0
  · refine lv_tableIn (tgt := 48) (off := 47) hx hb dX0_tell_1 (by rw [e1_0]; decide) (by rw [e1_0]; decide) (by rw [e1_0]; rfl) (by decide) ?_
    refine lv_aload_n hx hb dX0_tell_48 rfl (lv_at hl 0 rfl) ?_
    refine bd_g_X0_size C hR (by omega) (by omega) qf_X0_31 dX0_tell_49 ?_
    have z49 := ((show kx_Sh xm w n nb z from hs).2.2.2.2 b (by omega)).2
    rw [show xm 20 w b = nI (z b) from ((show kx_Sh xm w n nb z from hs).2.2.2.2 b (by omega)).1]
    exact bd_ri C hr hlk (hR.eq rfl rfl) hS (Nat.zero_le _) (Nat.zero_le _) dX0_tell_52 (by first | (simp (config := { decide := true }) only [kx_btell, eq_true e1_0, ↓reduceIte, not_true_eq_false, not_false_eq_true, and_self, and_true, true_and, and_false, false_and]; done) | rfl)
  · skip
    by_cases e1_1 : v = 1
    · refine lv_tableIn (tgt := 53) (off := 52) hx hb dX0_tell_1 (by rw [e1_1]; decide) (by rw [e1_1]; decide) (by rw [e1_1]; rfl) (by decide) ?_
      refine lv_aload_n hx hb dX0_tell_53 rfl (lv_at hl 0 rfl) ?_
      refine bd_cV1 [] [] C (k_X0_members l E xm ym om w n nb z b (by omega) hs (by omega)) hR hS (bd_recv C.2 hR ⟨by decide, show w < 2 by omega, show b < 6 by omega⟩ rfl rfl) qm_X0_72 qi_X0_members qs_X0_members qz_X0 qc_X0_members qp_X0_members ⟨Nat.le_of_ble_eq_true rfl, Nat.le_of_ble_eq_true rfl⟩ hl.1 (Nat.le_of_ble_eq_true rfl) dX0_tell_54 ⟨Nat.le_of_ble_eq_true rfl, Nat.le_of_ble_eq_true rfl⟩ (fun H locs hR hS hz54 => ?_)
      exact bd_ri C hr hlk (hR.eq rfl rfl) hS (Nat.zero_le _) (Nat.zero_le _) dX0_tell_57 (by first | (simp (config := { decide := true }) only [kx_btell, eq_false e1_0, eq_true e1_1, ↓reduceIte, not_true_eq_false, not_false_eq_true, and_self, and_true, true_and, and_false, false_and]; done) | rfl)
    · skip
      by_cases e1_2 : v = 2
      · refine lv_tableIn (tgt := 58) (off := 57) hx hb dX0_tell_1 (by rw [e1_2]; decide) (by rw [e1_2]; decide) (by rw [e1_2]; rfl) (by decide) ?_
        refine lv_aload_n hx hb dX0_tell_58 rfl (lv_at hl 0 rfl) ?_
        refine bd_g_X0_spirit C hR (by omega) (by omega) qf_X0_38 dX0_tell_59 ?_
        exact bd_ri C hr hlk (hR.eq rfl rfl) hS (Nat.zero_le _) (Nat.zero_le _) dX0_tell_62 (by first | (simp (config := { decide := true }) only [kx_btell, eq_false e1_0, eq_false e1_1, eq_true e1_2, ↓reduceIte, not_true_eq_false, not_false_eq_true, and_self, and_true, true_and, and_false, false_and]; done) | rfl)
      · skip
        by_cases e1_3 : v = 3
        · refine lv_tableIn (tgt := 63) (off := 62) hx hb dX0_tell_1 (by rw [e1_3]; decide) (by rw [e1_3]; decide) (by rw [e1_3]; rfl) (by decide) ?_
          refine lv_aload_n hx hb dX0_tell_63 rfl (lv_at hl 0 rfl) ?_
          refine bd_g_X0_marks C hR (by omega) (by omega) qf_X0_17 dX0_tell_64 ?_
          exact bd_ri C hr hlk (hR.eq rfl rfl) hS (Nat.zero_le _) (Nat.zero_le _) dX0_tell_67 (by first | (simp (config := { decide := true }) only [kx_btell, eq_false e1_0, eq_false e1_1, eq_false e1_2, eq_true e1_3, ↓reduceIte, not_true_eq_false, not_false_eq_true, and_self, and_true, true_and, and_false, false_and]; done) | rfl)
        · skip
          by_cases e1_4 : v = 4
          · refine lv_tableIn (tgt := 68) (off := 67) hx hb dX0_tell_1 (by rw [e1_4]; decide) (by rw [e1_4]; decide) (by rw [e1_4]; rfl) (by decide) ?_
            refine lv_aload_n hx hb dX0_tell_68 rfl (lv_at hl 0 rfl) ?_
            refine bd_g_X0_place C hR (by omega) (by omega) qf_X0_21 dX0_tell_69 ?_
            exact bd_ri C hr hlk (hR.eq rfl rfl) hS (Nat.zero_le _) (Nat.zero_le _) dX0_tell_72 (by first | (simp (config := { decide := true }) only [kx_btell, eq_false e1_0, eq_false e1_1, eq_false e1_2, eq_false e1_3, eq_true e1_4, ↓reduceIte, not_true_eq_false, not_false_eq_true, and_self, and_true, true_and, and_false, false_and]; done) | rfl)
          · skip
            by_cases e1_5 : v = 5
            · refine lv_tableIn (tgt := 73) (off := 72) hx hb dX0_tell_1 (by rw [e1_5]; decide) (by rw [e1_5]; decide) (by rw [e1_5]; rfl) (by decide) ?_
              refine lv_aload_n hx hb dX0_tell_73 rfl (lv_at hl 0 rfl) ?_
              refine bd_g_X0_deputies C hR (by omega) (by omega) qf_X0_24 dX0_tell_74 ?_
              exact bd_ri C hr hlk (hR.eq rfl rfl) hS (Nat.zero_le _) (Nat.zero_le _) dX0_tell_77 (by first | (simp (config := { decide := true }) only [kx_btell, eq_false e1_0, eq_false e1_1, eq_false e1_2, eq_false e1_3, eq_false e1_4, eq_true e1_5, ↓reduceIte, not_true_eq_false, not_false_eq_true, and_self, and_true, true_and, and_false, false_and]; done) | rfl)
            · skip
              by_cases e1_6 : v = 6
              · refine lv_tableIn (tgt := 78) (off := 77) hx hb dX0_tell_1 (by rw [e1_6]; decide) (by rw [e1_6]; decide) (by rw [e1_6]; rfl) (by decide) ?_
                refine lv_aload_n hx hb dX0_tell_78 rfl (lv_at hl 0 rfl) ?_
                refine bd_g_X0_empties C hR (by omega) (by omega) qf_X0_27 dX0_tell_79 ?_
                exact bd_ri C hr hlk (hR.eq rfl rfl) hS (Nat.zero_le _) (Nat.zero_le _) dX0_tell_82 (by first | (simp (config := { decide := true }) only [kx_btell, eq_false e1_0, eq_false e1_1, eq_false e1_2, eq_false e1_3, eq_false e1_4, eq_false e1_5, eq_true e1_6, ↓reduceIte, not_true_eq_false, not_false_eq_true, and_self, and_true, true_and, and_false, false_and]; done) | rfl)
              · skip
                by_cases e1_7 : v = 7
                · refine lv_tableIn (tgt := 83) (off := 82) hx hb dX0_tell_1 (by rw [e1_7]; decide) (by rw [e1_7]; decide) (by rw [e1_7]; rfl) (by decide) ?_
                  refine lv_aload_n hx hb dX0_tell_83 rfl (lv_at hl 0 rfl) ?_
                  refine bd_g_X0_points C hR (by omega) (by omega) qf_X0_41 dX0_tell_84 ?_
                  exact bd_ri C hr hlk (hR.eq rfl rfl) hS (Nat.zero_le _) (Nat.zero_le _) dX0_tell_87 (by first | (simp (config := { decide := true }) only [kx_btell, eq_false e1_0, eq_false e1_1, eq_false e1_2, eq_false e1_3, eq_false e1_4, eq_false e1_5, eq_false e1_6, eq_true e1_7, ↓reduceIte, not_true_eq_false, not_false_eq_true, and_self, and_true, true_and, and_false, false_and]; done) | rfl)
                · skip
                  have x1_0 := bd_nei e1_0
                  have x1_1 := bd_nei e1_1
                  have x1_2 := bd_nei e1_2
                  have x1_3 := bd_nei e1_3
                  have x1_4 := bd_nei e1_4
                  have x1_5 := bd_nei e1_5
                  have x1_6 := bd_nei e1_6
                  have x1_7 := bd_nei e1_7
                  have y1 : (v).toInt < 0 ∨ 7 < (v).toInt := by
                    simp only [show ((0 : Int32).toInt) = 0 from rfl, show ((1 : Int32).toInt) = 1 from rfl, show ((2 : Int32).toInt) = 2 from rfl, show ((3 : Int32).toInt) = 3 from rfl, show ((4 : Int32).toInt) = 4 from rfl, show ((5 : Int32).toInt) = 5 from rfl, show ((6 : Int32).toInt) = 6 from rfl, show ((7 : Int32).toInt) = 7 from rfl] at x1_0 x1_1 x1_2 x1_3 x1_4 x1_5 x1_6 x1_7
                    omega
                  refine lv_tableOut (tgt := 88) hx hb dX0_tell_1 y1 (by decide) ?_
                  refine lv_aload_n hx hb dX0_tell_88 rfl (lv_at hl 0 rfl) ?_
                  refine bd_g_X0_outs C hR (by omega) (by omega) qf_X0_44 dX0_tell_89 ?_
                  exact bd_ri C hr hlk (hR.eq rfl rfl) hS (Nat.zero_le _) (Nat.zero_le _) dX0_tell_92 (by first | (simp (config := { decide := true }) only [kx_btell, eq_false e1_0, eq_false e1_1, eq_false e1_2, eq_false e1_3, eq_false e1_4, eq_false e1_5, eq_false e1_6, eq_false e1_7, ↓reduceIte, not_true_eq_false, not_false_eq_true, and_self, and_true, true_and, and_false, false_and]; done) | rfl)
set_option maxHeartbeats 4000000 in
set_option maxRecDepth 100000 in
theorem k_X0_outlook (l : Launch) (E : bd_E) (xm ym : bd_M) (om : Nat → Int64) (w : Nat) (n : Nat) (nb : Nat) (z : (Nat→Nat)) (b : Nat) (v : Int32) (hw : w < 2) (hs : kx_Sh xm w n nb z) (hb6 : b < 6) : bd_Ct l yX0_outlook cX0_outlook 2 (some .int) 0 0 0 0 E [.ref (bd_ea E 9 w b), .int v] xm ym om xm ym om (some (.int (kx_outlook xm w b v))) := by
  refine bd_open RX0 rfl (by decide) (Nat.le_of_ble_eq_true rfl) ?_
  intro p e s m args below meth c ls C hr hlk hS hR hl
  have hx := C.1.1
  have hb := C.1.2.1
  have hs24 := hs.2.1
  have hs6 := hs.2.2.2.1
  have hl : lv_has ls 2 [(0, .ref (bd_ea E 9 w b)), (1, .int v)] := hl
  refine lv_iload_n hx hb dX0_outlook_0 rfl (lv_at hl 1 rfl) ?_
  by_cases e1_0 : v = 0
  · refine lv_tableIn (tgt := 28) (off := 27) hx hb dX0_outlook_1 (by rw [e1_0]; decide) (by rw [e1_0]; decide) (by rw [e1_0]; rfl) (by decide) ?_
    refine lv_aload_n hx hb dX0_outlook_28 rfl (lv_at hl 0 rfl) ?_
    refine bd_g_X0_marks C hR (by omega) (by omega) qf_X0_17 dX0_outlook_29 ?_
    exact bd_ri C hr hlk (hR.eq rfl rfl) hS (Nat.zero_le _) (Nat.zero_le _) dX0_outlook_32 (by first | (simp (config := { decide := true }) only [kx_outlook, eq_true e1_0, ↓reduceIte, not_true_eq_false, not_false_eq_true, and_self, and_true, true_and, and_false, false_and]; done) | rfl)
  · skip
    by_cases e1_1 : v = 1
    · refine lv_tableIn (tgt := 33) (off := 32) hx hb dX0_outlook_1 (by rw [e1_1]; decide) (by rw [e1_1]; decide) (by rw [e1_1]; rfl) (by decide) ?_
      refine lv_aload_n hx hb dX0_outlook_33 rfl (lv_at hl 0 rfl) ?_
      refine bd_g_X0_place C hR (by omega) (by omega) qf_X0_21 dX0_outlook_34 ?_
      exact bd_ri C hr hlk (hR.eq rfl rfl) hS (Nat.zero_le _) (Nat.zero_le _) dX0_outlook_37 (by first | (simp (config := { decide := true }) only [kx_outlook, eq_false e1_0, eq_true e1_1, ↓reduceIte, not_true_eq_false, not_false_eq_true, and_self, and_true, true_and, and_false, false_and]; done) | rfl)
    · skip
      by_cases e1_2 : v = 2
      · refine lv_tableIn (tgt := 38) (off := 37) hx hb dX0_outlook_1 (by rw [e1_2]; decide) (by rw [e1_2]; decide) (by rw [e1_2]; rfl) (by decide) ?_
        refine lv_aload_n hx hb dX0_outlook_38 rfl (lv_at hl 0 rfl) ?_
        refine bd_g_X0_deputies C hR (by omega) (by omega) qf_X0_24 dX0_outlook_39 ?_
        exact bd_ri C hr hlk (hR.eq rfl rfl) hS (Nat.zero_le _) (Nat.zero_le _) dX0_outlook_42 (by first | (simp (config := { decide := true }) only [kx_outlook, eq_false e1_0, eq_false e1_1, eq_true e1_2, ↓reduceIte, not_true_eq_false, not_false_eq_true, and_self, and_true, true_and, and_false, false_and]; done) | rfl)
      · skip
        have x1_0 := bd_nei e1_0
        have x1_1 := bd_nei e1_1
        have x1_2 := bd_nei e1_2
        have y1 : (v).toInt < 0 ∨ 2 < (v).toInt := by
          simp only [show ((0 : Int32).toInt) = 0 from rfl, show ((1 : Int32).toInt) = 1 from rfl, show ((2 : Int32).toInt) = 2 from rfl] at x1_0 x1_1 x1_2
          omega
        refine lv_tableOut (tgt := 43) hx hb dX0_outlook_1 y1 (by decide) ?_
        refine lv_aload_n hx hb dX0_outlook_43 rfl (lv_at hl 0 rfl) ?_
        refine bd_g_X0_points C hR (by omega) (by omega) qf_X0_41 dX0_outlook_44 ?_
        exact bd_ri C hr hlk (hR.eq rfl rfl) hS (Nat.zero_le _) (Nat.zero_le _) dX0_outlook_47 (by first | (simp (config := { decide := true }) only [kx_outlook, eq_false e1_0, eq_false e1_1, eq_false e1_2, ↓reduceIte, not_true_eq_false, not_false_eq_true, and_self, and_true, true_and, and_false, false_and]; done) | rfl)
set_option maxHeartbeats 4000000 in
set_option maxRecDepth 100000 in
theorem k_X0_isBetterThan (l : Launch) (E : bd_E) (xm ym : bd_M) (om : Nat → Int64) (w : Nat) (b : Nat) (b2 : Nat) (hw : w < 2) (hb6 : b < 6) (hb26 : b2 < 6) : bd_Ct l yX0_isBetterThan cX0_isBetterThan 2 (some .boolean) 0 0 0 0 E [.ref (bd_ea E 9 w b), .ref (bd_ea E 9 w b2)] xm ym om xm ym om (some (.int (if kx_bt xm w b b2 then 1 else 0))) := by
  refine bd_open RX0 rfl (by decide) (Nat.le_of_ble_eq_true rfl) ?_
  intro p e s m args below meth c ls C hr hlk hS hR hl
  have hx := C.1.1
  have hb := C.1.2.1
  have hl : lv_has ls 2 [(0, .ref (bd_ea E 9 w b)), (1, .ref (bd_ea E 9 w b2))] := hl
  refine lv_aload_n hx hb dX0_isBetterThan_0 rfl (lv_at hl 0 rfl) ?_
  refine bd_g_X0_marks C hR (by omega) (by omega) qf_X0_17 dX0_isBetterThan_1 ?_
  refine lv_aload_n hx hb dX0_isBetterThan_4 rfl (lv_at hl 1 rfl) ?_
  refine bd_g_X0_marks C hR (by omega) (by omega) qf_X0_17 dX0_isBetterThan_5 ?_
  refine lv_icmp_gt (tgt := 33) hx hb dX0_isBetterThan_8 (by decide) (fun c8 => ?_) (fun c8 => ?_)
  · skip
    refine lv_iconst (v := 1) hx hb dX0_isBetterThan_33 (by decide) ?_
    refine lv_goto (tgt := 38) hx hb dX0_isBetterThan_34 (by decide) ?_
    exact bd_rz C hr hlk (hR.eq rfl rfl) hS (Nat.zero_le _) (Nat.zero_le _) dX0_isBetterThan_38 rfl (by first | (simp (config := { decide := true }) only [kx_bt, eq_true c8, ↓reduceIte, not_true_eq_false, not_false_eq_true, and_self, and_true, true_and, and_false, false_and]; done) | rfl)
  · skip
    refine lv_aload_n hx hb dX0_isBetterThan_11 rfl (lv_at hl 0 rfl) ?_
    refine bd_g_X0_marks C hR (by omega) (by omega) qf_X0_17 dX0_isBetterThan_12 ?_
    refine lv_aload_n hx hb dX0_isBetterThan_15 rfl (lv_at hl 1 rfl) ?_
    refine bd_g_X0_marks C hR (by omega) (by omega) qf_X0_17 dX0_isBetterThan_16 ?_
    refine lv_icmp_ne (tgt := 37) hx hb dX0_isBetterThan_19 (by decide) (fun c19 => ?_) (fun c19 => ?_)
    · skip
      refine lv_iconst (v := 0) hx hb dX0_isBetterThan_37 (by decide) ?_
      exact bd_rz C hr hlk (hR.eq rfl rfl) hS (Nat.zero_le _) (Nat.zero_le _) dX0_isBetterThan_38 rfl (by first | (simp (config := { decide := true }) only [kx_bt, eq_false c8, eq_false c19, ↓reduceIte, not_true_eq_false, not_false_eq_true, and_self, and_true, true_and, and_false, false_and]; done) | rfl)
    · skip
      refine lv_aload_n hx hb dX0_isBetterThan_22 rfl (lv_at hl 0 rfl) ?_
      refine bd_g_X0_deputies C hR (by omega) (by omega) qf_X0_24 dX0_isBetterThan_23 ?_
      refine lv_aload_n hx hb dX0_isBetterThan_26 rfl (lv_at hl 1 rfl) ?_
      refine bd_g_X0_deputies C hR (by omega) (by omega) qf_X0_24 dX0_isBetterThan_27 ?_
      refine lv_icmp_ge (tgt := 37) hx hb dX0_isBetterThan_30 (by decide) (fun c30 => ?_) (fun c30 => ?_)
      · skip
        refine lv_iconst (v := 0) hx hb dX0_isBetterThan_37 (by decide) ?_
        exact bd_rz C hr hlk (hR.eq rfl rfl) hS (Nat.zero_le _) (Nat.zero_le _) dX0_isBetterThan_38 rfl (by first | (simp (config := { decide := true }) only [kx_bt, eq_false c8, eq_true c19, eq_true c30, ↓reduceIte, not_true_eq_false, not_false_eq_true, and_self, and_true, true_and, and_false, false_and]; done) | rfl)
      · skip
        refine lv_iconst (v := 1) hx hb dX0_isBetterThan_33 (by decide) ?_
        refine lv_goto (tgt := 38) hx hb dX0_isBetterThan_34 (by decide) ?_
        exact bd_rz C hr hlk (hR.eq rfl rfl) hS (Nat.zero_le _) (Nat.zero_le _) dX0_isBetterThan_38 rfl (by first | (simp (config := { decide := true }) only [kx_bt, eq_false c8, eq_true c19, eq_false c30, ↓reduceIte, not_true_eq_false, not_false_eq_true, and_self, and_true, true_and, and_false, false_and]; done) | rfl)
set_option maxHeartbeats 4000000 in
set_option maxRecDepth 100000 in
theorem k_X0_copyFrom (l : Launch) (E : bd_E) (xm ym : bd_M) (om : Nat → Int64) (w : Nat) (b : Nat) (w2 : Nat) (b2 : Nat) (n : Nat) (nb : Nat) (z : (Nat→Nat)) (hw : w < 2) (hw2 : w2 < 2) (hne : w2 ≠ w) (hs : kx_Sh xm w2 n nb z) (hb6 : b < 6) (hb26 : b2 < 6) : bd_Ct l yX0_copyFrom cX0_copyFrom 3 none 1 21 0 0 E [.ref (bd_ea E 9 w b), .ref (bd_ea E 9 w2 b2)] xm ym om (kx_bcopy xm w b w2 b2 (z b2)) ym om (none) := by
  refine bd_open RX0 rfl (by decide) (Nat.le_of_ble_eq_true rfl) ?_
  intro p e s m args below meth c ls C hr hlk hS hR hl
  have hx := C.1.1
  have hb := C.1.2.1
  have hs24 := hs.2.1
  have hs6 := hs.2.2.2.1
  have z8 := (hs.2.2.2.2 b2 (by omega)).2
  have hl : lv_has ls 3 [(0, .ref (bd_ea E 9 w b)), (1, .ref (bd_ea E 9 w2 b2))] := hl
  refine lv_aload_n hx hb dX0_copyFrom_0 rfl (lv_at hl 0 rfl) ?_
  refine lv_aload_n hx hb dX0_copyFrom_1 rfl (lv_at hl 1 rfl) ?_
  refine bd_g_X0_size C hR (by omega) (by omega) qf_X0_31 dX0_copyFrom_2 ?_
  have z2 := ((show kx_Sh xm w2 n nb z from hs).2.2.2.2 b2 (by omega)).2
  rw [show xm 20 w2 b2 = nI (z b2) from ((show kx_Sh xm w2 n nb z from hs).2.2.2.2 b2 (by omega)).1]
  refine bd_p_X0_size C hR hS (by omega) (by omega) qf_X0_31 dX0_copyFrom_5 (fun H locs hR hS => ?_)
  refine lv_iconst (v := 0) hx hb dX0_copyFrom_8 (by decide) ?_
  refine lv_istore_n (lv' := [(2, .int 0), (0, .ref (bd_ea E 9 w b)), (1, .ref (bd_ea E 9 w2 b2))]) hx hb dX0_copyFrom_9 rfl hl (by decide) rfl (fun ls hl => ?_)
  have lp1 : ∀ (t1 j : Nat), j ≤ z b2 → (z b2) - j < t1 → ∀ (H : Heap) (locs : List Loc), bd_Rep E (kx_bcL (bd_up xm 20 w b (nI (z b2))) w b w2 b2 j) ym om H → va_S (bd_A E) s.heap H locs → ∀ (ls : Array Slot), lv_has ls 3 [(2, .int (nI j)), (0, .ref (bd_ea E 9 w b)), (1, .ref (bd_ea E 9 w2 b2))] → W p l e { frames := 1, cells := 0, slots := 0, locals := 21 } s m args below meth c H locs 0 0 (MQ below (bd_Q E (kx_bcopy xm w b w2 b2 (z b2)) ym om (none)) args s 0 0 (bd_A E)) (F0 m 10 ls []) := by
    intro t1
    induction t1 with
    | zero => intro j h1 h2; exact absurd h2 (Nat.not_lt_zero _)
    | succ t1 ih1 =>
      intro j hj1 hj2 H locs hR hS ls hl
      refine lv_iload_n hx hb dX0_copyFrom_10 rfl (lv_at hl 0 rfl) ?_
      refine lv_aload_n hx hb dX0_copyFrom_11 rfl (lv_at hl 1 rfl) ?_
      refine bd_g_X0_size C hR (by omega) (by omega) qf_X0_31 dX0_copyFrom_12 ?_
      rw [show (kx_bcL (bd_up xm 20 w b (nI (z b2))) w b w2 b2 j) 20 w b = nI (z b2) from by rw [kx_bcL_f (by decide) (by decide) (by decide), bd_up_s]]
      refine lv_icmp_ge (tgt := 39) hx hb dX0_copyFrom_15 (by decide) (fun c15 => ?_) (fun c15 => ?_)
      · skip
        have nc15 : (z b2) ≤ j := (nI_leI (a := (z b2)) (b := j) (by omega) (by omega)).mp c15
        obtain rfl : z b2 = j := by omega
        refine lv_aload_n hx hb dX0_copyFrom_39 rfl (lv_at hl 1 rfl) ?_
        refine lv_aload_n hx hb dX0_copyFrom_40 rfl (lv_at hl 2 rfl) ?_
        refine bd_g_X0_spirit C hR (by omega) (by omega) qf_X0_38 dX0_copyFrom_41 ?_
        refine bd_p_X0_spirit C hR hS (by omega) (by omega) qf_X0_38 dX0_copyFrom_44 (fun H locs hR hS => ?_)
        obtain ⟨xn2, hxn2⟩ : ∃ z9, z9 = bd_up (kx_bcL (bd_up xm 20 w b (nI (z b2))) w b w2 b2 (z b2)) 21 w b ((kx_bcL (bd_up xm 20 w b (nI (z b2))) w b w2 b2 (z b2)) 21 w2 b2) := ⟨_, rfl⟩
        rw [← hxn2] at hR
        have sxn2_0 : kx_Sh xn2 w2 n nb z := by rw [hxn2]; exact (kx_Sh_up (kx_bcL_sh (kx_Sh_w hs (by omega)) (z b2)) (by decide))
        refine lv_aload_n hx hb dX0_copyFrom_47 rfl (lv_at hl 1 rfl) ?_
        refine lv_aload_n hx hb dX0_copyFrom_48 rfl (lv_at hl 2 rfl) ?_
        refine bd_g_X0_marks C hR (by omega) (by omega) qf_X0_17 dX0_copyFrom_49 ?_
        refine bd_p_X0_marks C hR hS (by omega) (by omega) qf_X0_17 dX0_copyFrom_52 (fun H locs hR hS => ?_)
        obtain ⟨xn3, hxn3⟩ : ∃ z9, z9 = bd_up xn2 22 w b (xn2 22 w2 b2) := ⟨_, rfl⟩
        rw [← hxn3] at hR
        have sxn3_0 : kx_Sh xn3 w2 n nb z := by rw [hxn3]; exact (kx_Sh_up sxn2_0 (by decide))
        refine lv_aload_n hx hb dX0_copyFrom_55 rfl (lv_at hl 1 rfl) ?_
        refine lv_aload_n hx hb dX0_copyFrom_56 rfl (lv_at hl 2 rfl) ?_
        refine bd_g_X0_place C hR (by omega) (by omega) qf_X0_21 dX0_copyFrom_57 ?_
        refine bd_p_X0_place C hR hS (by omega) (by omega) qf_X0_21 dX0_copyFrom_60 (fun H locs hR hS => ?_)
        obtain ⟨xn4, hxn4⟩ : ∃ z9, z9 = bd_up xn3 23 w b (xn3 23 w2 b2) := ⟨_, rfl⟩
        rw [← hxn4] at hR
        have sxn4_0 : kx_Sh xn4 w2 n nb z := by rw [hxn4]; exact (kx_Sh_up sxn3_0 (by decide))
        refine lv_aload_n hx hb dX0_copyFrom_63 rfl (lv_at hl 1 rfl) ?_
        refine lv_aload_n hx hb dX0_copyFrom_64 rfl (lv_at hl 2 rfl) ?_
        refine bd_g_X0_deputies C hR (by omega) (by omega) qf_X0_24 dX0_copyFrom_65 ?_
        refine bd_p_X0_deputies C hR hS (by omega) (by omega) qf_X0_24 dX0_copyFrom_68 (fun H locs hR hS => ?_)
        obtain ⟨xn5, hxn5⟩ : ∃ z9, z9 = bd_up xn4 24 w b (xn4 24 w2 b2) := ⟨_, rfl⟩
        rw [← hxn5] at hR
        have sxn5_0 : kx_Sh xn5 w2 n nb z := by rw [hxn5]; exact (kx_Sh_up sxn4_0 (by decide))
        refine lv_aload_n hx hb dX0_copyFrom_71 rfl (lv_at hl 1 rfl) ?_
        refine lv_aload_n hx hb dX0_copyFrom_72 rfl (lv_at hl 2 rfl) ?_
        refine bd_g_X0_empties C hR (by omega) (by omega) qf_X0_27 dX0_copyFrom_73 ?_
        refine bd_p_X0_empties C hR hS (by omega) (by omega) qf_X0_27 dX0_copyFrom_76 (fun H locs hR hS => ?_)
        obtain ⟨xn6, hxn6⟩ : ∃ z9, z9 = bd_up xn5 25 w b (xn5 25 w2 b2) := ⟨_, rfl⟩
        rw [← hxn6] at hR
        have sxn6_0 : kx_Sh xn6 w2 n nb z := by rw [hxn6]; exact (kx_Sh_up sxn5_0 (by decide))
        refine lv_aload_n hx hb dX0_copyFrom_79 rfl (lv_at hl 1 rfl) ?_
        refine lv_aload_n hx hb dX0_copyFrom_80 rfl (lv_at hl 2 rfl) ?_
        refine bd_g_X0_points C hR (by omega) (by omega) qf_X0_41 dX0_copyFrom_81 ?_
        refine bd_p_X0_points C hR hS (by omega) (by omega) qf_X0_41 dX0_copyFrom_84 (fun H locs hR hS => ?_)
        obtain ⟨xn7, hxn7⟩ : ∃ z9, z9 = bd_up xn6 26 w b (xn6 26 w2 b2) := ⟨_, rfl⟩
        rw [← hxn7] at hR
        have sxn7_0 : kx_Sh xn7 w2 n nb z := by rw [hxn7]; exact (kx_Sh_up sxn6_0 (by decide))
        refine lv_aload_n hx hb dX0_copyFrom_87 rfl (lv_at hl 1 rfl) ?_
        refine lv_aload_n hx hb dX0_copyFrom_88 rfl (lv_at hl 2 rfl) ?_
        refine bd_g_X0_outs C hR (by omega) (by omega) qf_X0_44 dX0_copyFrom_89 ?_
        refine bd_p_X0_outs C hR hS (by omega) (by omega) qf_X0_44 dX0_copyFrom_92 (fun H locs hR hS => ?_)
        obtain ⟨xn8, hxn8⟩ : ∃ z9, z9 = bd_up xn7 27 w b (xn7 27 w2 b2) := ⟨_, rfl⟩
        rw [← hxn8] at hR
        have sxn8_0 : kx_Sh xn8 w2 n nb z := by rw [hxn8]; exact (kx_Sh_up sxn7_0 (by decide))
        exact bd_rv C hr hlk (hR.eq (by first | rfl | (subst_vars; rfl)) rfl) hS (Nat.zero_le _) (Nat.zero_le _) dX0_copyFrom_95
      · skip
        have nc15 : ¬ (z b2) ≤ j := fun q9 => c15 ((nI_leI (a := (z b2)) (b := j) (by omega) (by omega)).mpr q9)
        refine lv_aload_n hx hb dX0_copyFrom_18 rfl (lv_at hl 1 rfl) ?_
        refine bd_g_X0_chairs C hR (by omega) (by omega) qf_X0_11 dX0_copyFrom_19 ?_
        refine lv_iload_n hx hb dX0_copyFrom_22 rfl (lv_at hl 0 rfl) ?_
        refine bd_ld_10 C hR (by omega) (by omega) (j := j) (by omega) dX0_copyFrom_23 ?_
        refine lv_aload_n hx hb dX0_copyFrom_24 rfl (lv_at hl 2 rfl) ?_
        refine bd_g_X0_chairs C hR (by omega) (by omega) qf_X0_11 dX0_copyFrom_25 ?_
        refine lv_iload_n hx hb dX0_copyFrom_28 rfl (lv_at hl 0 rfl) ?_
        refine bd_ld_10 C hR (by omega) (by omega) (j := j) (by omega) dX0_copyFrom_29 ?_
        refine bd_cV0 [.ref (bd_ea E 11 w2 (8 * b2 + j))] [] C (k_X1_copyFrom l E (kx_bcL (bd_up xm 20 w b (nI (z b2))) w b w2 b2 j) ym om w (8 * b + j) w2 (8 * b2 + j) (by omega) (by omega) (by omega) (by omega)) hR hS (bd_recv C.2 hR ⟨by decide, show w < 2 by omega, show 8 * b + j < 48 by omega⟩ rfl rfl) qm_X0_34 qi_X1_copyFrom qs_X1_copyFrom qz_X1 qc_X1_copyFrom qp_X1_copyFrom ⟨Nat.le_of_ble_eq_true rfl, Nat.le_of_ble_eq_true rfl⟩ hl.1 (Nat.le_of_ble_eq_true rfl) dX0_copyFrom_30 ⟨Nat.le_of_ble_eq_true rfl, Nat.le_of_ble_eq_true rfl⟩ (fun H locs hR hS hz30 => ?_)
        refine lv_iinc (v := nI (j + 1)) (lv' := [(2, .int (nI (j + 1))), (0, .ref (bd_ea E 9 w b)), (1, .ref (bd_ea E 9 w2 b2))]) hx hb dX0_copyFrom_33 hl (k := 0) rfl (nI_1 j) (by decide) rfl (fun ls hl => ?_)
        refine lv_goto (tgt := 10) hx hb dX0_copyFrom_36 (by decide) ?_
        exact ih1 (j + 1) (by omega) (by omega) _ _ (hR.eq (by first | rfl | (subst_vars; rfl)) rfl) hS _ (lv_sub hl [0, 1, 2] rfl)
  exact lp1 ((z b2) + 1) 0 (by omega) (by omega) _ _ (hR.eq rfl rfl) hS _ (by first | exact lv_sub hl [0, 1, 2] rfl | (rw [show (nI 0 : Int32) = 0 from by first | rfl | decide | simp [nI_0]]; exact lv_sub hl [0, 1, 2] rfl))
set_option maxHeartbeats 4000000 in
set_option maxRecDepth 100000 in
theorem k_X0_furnish (l : Launch) (E : bd_E) (xm ym : bd_M) (om : Nat → Int64) (w : Nat) (b : Nat) (d : Int32) (q : Nat) (hw : w < 2) (hb6 : b < 6) (hq : q ≤ 8) : bd_Ct l yX0_furnish cX0_furnish 5 none 1 20 0 0 E [.ref (bd_ea E 9 w b), .int d, .int (nI q)] xm ym om (kx_fu xm w b q d q) ym om (none) := by
  refine bd_open RX0 rfl (by decide) (Nat.le_of_ble_eq_true rfl) ?_
  intro p e s m args below meth c ls C hr hlk hS hR hl
  have hx := C.1.1
  have hb := C.1.2.1
  have hl : lv_has ls 5 [(0, .ref (bd_ea E 9 w b)), (1, .int d), (2, .int (nI q))] := hl
  refine lv_aload_n hx hb dX0_furnish_0 rfl (lv_at hl 0 rfl) ?_
  refine lv_iload_n hx hb dX0_furnish_1 rfl (lv_at hl 2 rfl) ?_
  refine lv_bipush (v := 8) hx hb dX0_furnish_2 (by decide) ?_
  refine bd_min C hl.1 qm_X0_47 ⟨Nat.le_of_ble_eq_true rfl, Nat.le_of_ble_eq_true rfl⟩ ⟨Nat.le_of_ble_eq_true rfl, Nat.le_of_ble_eq_true rfl⟩ dX0_furnish_4 ?_
  rw [bd_mn8 hq]
  refine bd_p_X0_size C hR hS (by omega) (by omega) qf_X0_31 dX0_furnish_7 (fun H locs hR hS => ?_)
  refine lv_iload_n hx hb dX0_furnish_10 rfl (lv_at hl 1 rfl) ?_
  refine lv_istore_n (lv' := [(3, .int d), (0, .ref (bd_ea E 9 w b)), (1, .int d), (2, .int (nI q))]) hx hb dX0_furnish_11 rfl hl (by decide) rfl (fun ls hl => ?_)
  refine lv_aload_n hx hb dX0_furnish_12 rfl (lv_at hl 1 rfl) ?_
  refine bd_g_X0_size C hR (by omega) (by omega) qf_X0_31 dX0_furnish_13 ?_
  rw [show (bd_up xm 20 w b (nI q)) 20 w b = nI q from bd_up_s]
  refine lv_iconst (v := 1) hx hb dX0_furnish_16 (by decide) ?_
  refine lv_isub hx hb dX0_furnish_17 ?_
  refine lv_istore (lv' := [(4, .int ((nI q) - 1)), (3, .int d), (0, .ref (bd_ea E 9 w b)), (1, .int d), (2, .int (nI q))]) hx hb dX0_furnish_18 hl (by decide) rfl (fun ls hl => ?_)
  have lp1 : ∀ (t1 j : Nat), j ≤ q → q - j < t1 → ∀ (H : Heap) (locs : List Loc), bd_Rep E (kx_fu xm w b q d j) ym om H → va_S (bd_A E) s.heap H locs → ∀ (ls : Array Slot), lv_has ls 5 [(4, .int (nI (q - j) - 1)), (3, .int (kx_dv d j)), (0, .ref (bd_ea E 9 w b)), (1, .int d), (2, .int (nI q))] → W p l e { frames := 1, cells := 0, slots := 0, locals := 20 } s m args below meth c H locs 0 0 (MQ below (bd_Q E (kx_fu xm w b q d q) ym om (none)) args s 0 0 (bd_A E)) (F0 m 20 ls []) := by
    intro t1
    induction t1 with
    | zero => intro j h1 h2; exact absurd h2 (Nat.not_lt_zero _)
    | succ t1 ih1 =>
      intro j hj1 hj2 H locs hR hS ls hl
      refine lv_iload hx hb dX0_furnish_20 (lv_at hl 0 rfl) ?_
      refine lv_if_lt (tgt := 52) hx hb dX0_furnish_22 (by decide) (fun c22 => ?_) (fun c22 => ?_)
      · skip
        have hjq := bd_dnT c22 hj1 hq
        obtain rfl : q = j := by omega
        exact bd_rv C hr hlk (hR.eq rfl rfl) hS (Nat.zero_le _) (Nat.zero_le _) dX0_furnish_52
      · skip
        have hjq := bd_dnF c22 hj1
        refine lv_aload_n hx hb dX0_furnish_25 rfl (lv_at hl 2 rfl) ?_
        refine bd_g_X0_chairs C hR (by omega) (by omega) qf_X0_11 dX0_furnish_26 ?_
        refine lv_iload hx hb dX0_furnish_29 (lv_at hl 0 rfl) ?_
        refine bd_ti (j := q - 1 - j) (bd_dn1 hjq) ?_
        refine bd_ld_10 C hR (by omega) (by omega) (j := (q - 1 - j)) (by omega) dX0_furnish_31 ?_
        refine lv_iload_n hx hb dX0_furnish_32 rfl (lv_at hl 1 rfl) ?_
        refine lv_bipush (v := 10) hx hb dX0_furnish_33 (by decide) ?_
        refine lv_irem hx hb dX0_furnish_35 (by decide) ?_
        refine lv_iconst (v := 1) hx hb dX0_furnish_36 (by decide) ?_
        refine lv_isub hx hb dX0_furnish_37 ?_
        refine bd_p_X1_instrument C hR hS (by omega) (by omega) qf_X0_53 dX0_furnish_38 (fun H locs hR hS => ?_)
        refine lv_iload_n hx hb dX0_furnish_41 rfl (lv_at hl 1 rfl) ?_
        refine lv_bipush (v := 10) hx hb dX0_furnish_42 (by decide) ?_
        refine lv_idiv hx hb dX0_furnish_44 (by decide) ?_
        refine lv_istore_n (lv' := [(3, .int ((kx_dv d j) / 10)), (4, .int (nI (q - j) - 1)), (0, .ref (bd_ea E 9 w b)), (1, .int d), (2, .int (nI q))]) hx hb dX0_furnish_45 rfl hl (by decide) rfl (fun ls hl => ?_)
        refine lv_iinc (v := (nI (q - j) - 1) + (-1)) (lv' := [(4, .int ((nI (q - j) - 1) + (-1))), (3, .int ((kx_dv d j) / 10)), (0, .ref (bd_ea E 9 w b)), (1, .int d), (2, .int (nI q))]) hx hb dX0_furnish_46 hl (k := 1) rfl rfl (by decide) rfl (fun ls hl => ?_)
        refine lv_goto (tgt := 20) hx hb dX0_furnish_49 (by decide) ?_
        exact ih1 (j + 1) (by omega) (by omega) _ _ (hR.eq (by first | (simp (config := { decide := true }) only [kx_fu, kx_dv, eq_false c22, ↓reduceIte, not_true_eq_false, not_false_eq_true, and_self, and_true, true_and, and_false, false_and]; done) | rfl) rfl) hS _ (by rw [show (nI (q - (j + 1)) - 1 : Int32) = (nI (q - j) - 1) + (-1) from (by exact (bd_dn2 hjq).symm)]; rw [show (kx_dv d (j + 1) : Int32) = (kx_dv d j) / 10 from (by first | (simp (config := { decide := true }) only [kx_fu, kx_dv, eq_false c22, ↓reduceIte, not_true_eq_false, not_false_eq_true, and_self, and_true, true_and, and_false, false_and]; done) | rfl)]; exact lv_sub hl [0, 1, 2, 3, 4] rfl)
  exact lp1 (q + 1) 0 (by omega) (by omega) _ _ (hR.eq rfl rfl) hS _ (by first | exact lv_sub hl [0, 1, 2, 3, 4] rfl | (rw [show (nI (q - 0) - 1 : Int32) = (nI q) - 1 from by first | rfl | decide | simp [nI_0]]; rw [show (kx_dv d 0 : Int32) = d from by first | rfl | decide | simp [nI_0]]; exact lv_sub hl [0, 1, 2, 3, 4] rfl))
