/-! THE CLASS'S PUBLIC FACE, where it answers -/
set_option maxHeartbeats 4000000 in
set_option maxRecDepth 100000 in
theorem k_X5_isSkill (l : Launch) (E : bd_E) (xm ym : bd_M) (om : Nat → Int64) (v : Int32)  : bd_Ct l yX5_isSkill cX5_isSkill 1 (some .boolean) 0 0 0 0 E [.int v] xm ym om xm ym om (some (.int (if ¬ v < 0 ∧ ¬ 9 < v then 1 else 0))) := by
  refine bd_open RX5 rfl (by decide) (Nat.le_of_ble_eq_true rfl) ?_
  intro p e s m args below meth c ls C hr hlk hS hR hl
  have hx := C.1.1
  have hb := C.1.2.1
  have hl : lv_has ls 1 [(0, .int v)] := hl
  refine lv_iload_n hx hb dX5_isSkill_0 rfl (lv_at hl 0 rfl) ?_
  refine lv_if_lt (tgt := 14) hx hb dX5_isSkill_1 (by decide) (fun c1 => ?_) (fun c1 => ?_)
  · skip
    refine lv_iconst (v := 0) hx hb dX5_isSkill_14 (by decide) ?_
    exact bd_rz C hr hlk (hR.eq rfl rfl) hS (Nat.zero_le _) (Nat.zero_le _) dX5_isSkill_15 rfl (by first | (simp (config := { decide := true }) only [eq_true c1, ↓reduceIte, not_true_eq_false, not_false_eq_true, and_self, and_true, true_and, and_false, false_and]; done) | rfl)
  · skip
    refine lv_iload_n hx hb dX5_isSkill_4 rfl (lv_at hl 0 rfl) ?_
    refine lv_bipush (v := 9) hx hb dX5_isSkill_5 (by decide) ?_
    refine lv_icmp_gt (tgt := 14) hx hb dX5_isSkill_7 (by decide) (fun c7 => ?_) (fun c7 => ?_)
    · skip
      refine lv_iconst (v := 0) hx hb dX5_isSkill_14 (by decide) ?_
      exact bd_rz C hr hlk (hR.eq rfl rfl) hS (Nat.zero_le _) (Nat.zero_le _) dX5_isSkill_15 rfl (by first | (simp (config := { decide := true }) only [eq_false c1, eq_true c7, ↓reduceIte, not_true_eq_false, not_false_eq_true, and_self, and_true, true_and, and_false, false_and]; done) | rfl)
    · skip
      refine lv_iconst (v := 1) hx hb dX5_isSkill_10 (by decide) ?_
      refine lv_goto (tgt := 15) hx hb dX5_isSkill_11 (by decide) ?_
      exact bd_rz C hr hlk (hR.eq rfl rfl) hS (Nat.zero_le _) (Nat.zero_le _) dX5_isSkill_15 rfl (by first | (simp (config := { decide := true }) only [eq_false c1, eq_false c7, ↓reduceIte, not_true_eq_false, not_false_eq_true, and_self, and_true, true_and, and_false, false_and]; done) | rfl)
set_option maxHeartbeats 4000000 in
set_option maxRecDepth 100000 in
theorem k_X5_seatsIn_ok (l : Launch) (E : bd_E) (xm ym : bd_M) (om : Nat → Int64) (d : Int32) (q : Nat) (hq : q ≤ 8) (hk : kx_ok d q) : bd_Ct l yX5_seatsIn cX5_seatsIn 4 (some .int) 0 0 0 0 E [.int d] xm ym om xm ym om (some (.int (nI q))) := by
  refine bd_open RX5 rfl (by decide) (Nat.le_of_ble_eq_true rfl) ?_
  intro p e s m args below meth c ls C hr hlk hS hR hl
  have hx := C.1.1
  have hb := C.1.2.1
  have hl : lv_has ls 4 [(0, .int d)] := hl
  refine lv_iload_n hx hb dX5_seatsIn_0 rfl (lv_at hl 0 rfl) ?_
  refine lv_istore_n (lv' := [(1, .int d), (0, .int d)]) hx hb dX5_seatsIn_1 rfl hl (by decide) rfl (fun ls hl => ?_)
  refine lv_iconst (v := 0) hx hb dX5_seatsIn_2 (by decide) ?_
  refine lv_istore_n (lv' := [(2, .int 0), (1, .int d), (0, .int d)]) hx hb dX5_seatsIn_3 rfl hl (by decide) rfl (fun ls hl => ?_)
  have lp1 : ∀ (t1 j : Nat), j ≤ q → q - j < t1 → ∀ (H : Heap) (locs : List Loc), bd_Rep E xm ym om H → va_S (bd_A E) s.heap H locs → ∀ (ls : Array Slot), lv_has ls 4 [(2, .int (nI j)), (1, .int (kx_dv d j)), (0, .int d)] → W p l e { frames := 0, cells := 0, slots := 0, locals := 0 } s m args below meth c H locs 0 0 (MQ below (bd_Q E xm ym om (some (.int (nI q)))) args s 0 0 (bd_A E)) (F0 m 4 ls []) := by
    intro t1
    induction t1 with
    | zero => intro j h1 h2; exact absurd h2 (Nat.not_lt_zero _)
    | succ t1 ih1 =>
      intro j hj1 hj2 H locs hR hS ls hl
      refine lv_iload_n hx hb dX5_seatsIn_4 rfl (lv_at hl 0 rfl) ?_
      refine lv_bipush (v := 8) hx hb dX5_seatsIn_5 (by decide) ?_
      refine lv_icmp_gt (tgt := 44) hx hb dX5_seatsIn_7 (by decide) (fun c7 => ?_) (fun c7 => ?_)
      · exact absurd ((nI_ltI (a := 8) (b := j) (by decide) (by omega)).mp c7) (by omega)
      · skip
        have nc7 : ¬ 8 < j := fun q9 => c7 ((nI_ltI (a := 8) (b := j) (by omega) (by omega)).mpr q9)
        refine lv_iload_n hx hb dX5_seatsIn_10 rfl (lv_at hl 1 rfl) ?_
        refine lv_if_gt (tgt := 16) hx hb dX5_seatsIn_11 (by decide) (fun c11 => ?_) (fun c11 => ?_)
        · skip
          have hjq : j < q := Nat.lt_of_not_ge (fun h9 => absurd ((show q = j by omega) ▸ hk.2) (Int32.not_le.mpr c11))
          refine lv_iload_n hx hb dX5_seatsIn_16 rfl (lv_at hl 1 rfl) ?_
          refine lv_bipush (v := 10) hx hb dX5_seatsIn_17 (by decide) ?_
          refine lv_irem hx hb dX5_seatsIn_19 (by decide) ?_
          refine lv_istore_n (lv' := [(3, .int ((kx_dv d j) - (kx_dv d j) / 10 * 10)), (2, .int (nI j)), (1, .int (kx_dv d j)), (0, .int d)]) hx hb dX5_seatsIn_20 rfl hl (by decide) rfl (fun ls hl => ?_)
          refine lv_iload_n hx hb dX5_seatsIn_21 rfl (lv_at hl 0 rfl) ?_
          refine lv_iconst (v := 1) hx hb dX5_seatsIn_22 (by decide) ?_
          refine lv_icmp_lt (tgt := 31) hx hb dX5_seatsIn_23 (by decide) (fun c23 => ?_) (fun c23 => ?_)
          · exact absurd c23 (hk.1 j hjq).2.1
          · skip
            refine lv_iload_n hx hb dX5_seatsIn_26 rfl (lv_at hl 0 rfl) ?_
            refine lv_iconst (v := 4) hx hb dX5_seatsIn_27 (by decide) ?_
            refine lv_icmp_le (tgt := 33) hx hb dX5_seatsIn_28 (by decide) (fun c28 => ?_) (fun c28 => ?_)
            · skip
              refine lv_iload_n hx hb dX5_seatsIn_33 rfl (lv_at hl 2 rfl) ?_
              refine lv_bipush (v := 10) hx hb dX5_seatsIn_34 (by decide) ?_
              refine lv_idiv hx hb dX5_seatsIn_36 (by decide) ?_
              refine lv_istore_n (lv' := [(1, .int ((kx_dv d j) / 10)), (3, .int ((kx_dv d j) - (kx_dv d j) / 10 * 10)), (2, .int (nI j)), (0, .int d)]) hx hb dX5_seatsIn_37 rfl hl (by decide) rfl (fun ls hl => ?_)
              refine lv_iinc (v := nI (j + 1)) (lv' := [(2, .int (nI (j + 1))), (1, .int ((kx_dv d j) / 10)), (3, .int ((kx_dv d j) - (kx_dv d j) / 10 * 10)), (0, .int d)]) hx hb dX5_seatsIn_38 hl (k := 2) rfl (nI_1 j) (by decide) rfl (fun ls hl => ?_)
              refine lv_goto (tgt := 4) hx hb dX5_seatsIn_41 (by decide) ?_
              exact ih1 (j + 1) (by omega) (by omega) _ _ (hR.eq rfl rfl) hS _ (by rw [show (kx_dv d (j + 1) : Int32) = (kx_dv d j) / 10 from (by first | (simp (config := { decide := true }) only [kx_dv, eq_false c7, eq_false nc7, eq_true c11, eq_false c23, eq_true c28, ↓reduceIte, not_true_eq_false, not_false_eq_true, and_self, and_true, true_and, and_false, false_and]; done) | rfl)]; exact lv_sub hl [0, 1, 3] rfl)
            · exact absurd (Int32.not_lt.mp (hk.1 j hjq).2.2) c28
        · skip
          have hjq : ¬ j < q := fun h9 => (hk.1 j h9).1 (Int32.not_lt.mp c11)
          obtain rfl : q = j := by omega
          refine lv_iload_n hx hb dX5_seatsIn_14 rfl (lv_at hl 0 rfl) ?_
          exact bd_ri C hr hlk (hR.eq rfl rfl) hS (Nat.zero_le _) (Nat.zero_le _) dX5_seatsIn_15 rfl
  exact lp1 (q + 1) 0 (by omega) (by omega) _ _ (hR.eq rfl rfl) hS _ (by rw [show (nI 0 : Int32) = 0 from by rfl]; rw [show (kx_dv d 0 : Int32) = d from by rfl]; exact lv_sub hl [0, 1, 2] rfl)
set_option maxHeartbeats 4000000 in
set_option maxRecDepth 100000 in
theorem k_X5_seatsIn_0 (l : Launch) (E : bd_E) (xm ym : bd_M) (om : Nat → Int64) (d : Int32) (h0 : d ≤ 0) : bd_Ct l yX5_seatsIn cX5_seatsIn 4 (some .int) 0 0 0 0 E [.int d] xm ym om xm ym om (some (.int 0)) := by
  refine bd_open RX5 rfl (by decide) (Nat.le_of_ble_eq_true rfl) ?_
  intro p e s m args below meth c ls C hr hlk hS hR hl
  have hx := C.1.1
  have hb := C.1.2.1
  have hl : lv_has ls 4 [(0, .int d)] := hl
  refine lv_iload_n hx hb dX5_seatsIn_0 rfl (lv_at hl 0 rfl) ?_
  refine lv_istore_n (lv' := [(1, .int d), (0, .int d)]) hx hb dX5_seatsIn_1 rfl hl (by decide) rfl (fun ls hl => ?_)
  refine lv_iconst (v := 0) hx hb dX5_seatsIn_2 (by decide) ?_
  refine lv_istore_n (lv' := [(2, .int 0), (1, .int d), (0, .int d)]) hx hb dX5_seatsIn_3 rfl hl (by decide) rfl (fun ls hl => ?_)
  refine lv_iload_n hx hb dX5_seatsIn_4 rfl (lv_at hl 0 rfl) ?_
  refine lv_bipush (v := 8) hx hb dX5_seatsIn_5 (by decide) ?_
  refine lv_icmp_gt (tgt := 44) hx hb dX5_seatsIn_7 (by decide) (fun c7 => ?_) (fun c7 => ?_)
  · exact absurd c7 (by decide)
  · skip
    refine lv_iload_n hx hb dX5_seatsIn_10 rfl (lv_at hl 1 rfl) ?_
    refine lv_if_gt (tgt := 16) hx hb dX5_seatsIn_11 (by decide) (fun c11 => ?_) (fun c11 => ?_)
    · exact absurd c11 (Int32.not_lt.mpr h0)
    · skip
      refine lv_iload_n hx hb dX5_seatsIn_14 rfl (lv_at hl 0 rfl) ?_
      exact bd_ri C hr hlk (hR.eq rfl rfl) hS (Nat.zero_le _) (Nat.zero_le _) dX5_seatsIn_15 rfl
set_option maxHeartbeats 4000000 in
set_option maxRecDepth 100000 in
theorem k_X5_seatsIn_1 (l : Launch) (E : bd_E) (xm ym : bd_M) (om : Nat → Int64) (d : Int32) (q : Nat) (hq : q ≤ 8) (hk : ∀ j, j < q → ¬ kx_dv d j ≤ 0 ∧ kx_dk d j) (hb1 : ¬ kx_dv d q ≤ 0) (hb2 : ¬ kx_dk d q ∨ q = 8) : bd_Ct l yX5_seatsIn cX5_seatsIn 4 (some .int) 0 0 0 0 E [.int d] xm ym om xm ym om (some (.int 0)) := by
  refine bd_open RX5 rfl (by decide) (Nat.le_of_ble_eq_true rfl) ?_
  intro p e s m args below meth c ls C hr hlk hS hR hl
  have hx := C.1.1
  have hb := C.1.2.1
  have hl : lv_has ls 4 [(0, .int d)] := hl
  refine lv_iload_n hx hb dX5_seatsIn_0 rfl (lv_at hl 0 rfl) ?_
  refine lv_istore_n (lv' := [(1, .int d), (0, .int d)]) hx hb dX5_seatsIn_1 rfl hl (by decide) rfl (fun ls hl => ?_)
  refine lv_iconst (v := 0) hx hb dX5_seatsIn_2 (by decide) ?_
  refine lv_istore_n (lv' := [(2, .int 0), (1, .int d), (0, .int d)]) hx hb dX5_seatsIn_3 rfl hl (by decide) rfl (fun ls hl => ?_)
  have lp1 : ∀ (t1 j : Nat), j ≤ (q + 1) → (q + 1) - j < t1 → (j ≤ q ∨ q = 8) → ∀ (H : Heap) (locs : List Loc), bd_Rep E xm ym om H → va_S (bd_A E) s.heap H locs → ∀ (ls : Array Slot), lv_has ls 4 [(2, .int (nI j)), (1, .int (kx_dv d j)), (0, .int d)] → W p l e { frames := 0, cells := 0, slots := 0, locals := 0 } s m args below meth c H locs 0 0 (MQ below (bd_Q E xm ym om (some (.int 0))) args s 0 0 (bd_A E)) (F0 m 4 ls []) := by
    intro t1
    induction t1 with
    | zero => intro j h1 h2; exact absurd h2 (Nat.not_lt_zero _)
    | succ t1 ih1 =>
      intro j hj1 hj2 hi H locs hR hS ls hl
      refine lv_iload_n hx hb dX5_seatsIn_4 rfl (lv_at hl 0 rfl) ?_
      refine lv_bipush (v := 8) hx hb dX5_seatsIn_5 (by decide) ?_
      refine lv_icmp_gt (tgt := 44) hx hb dX5_seatsIn_7 (by decide) (fun c7 => ?_) (fun c7 => ?_)
      · skip
        have nc7 : 8 < j := (nI_ltI (a := 8) (b := j) (by omega) (by omega)).mp c7
        refine lv_iconst (v := 0) hx hb dX5_seatsIn_44 (by decide) ?_
        exact bd_ri C hr hlk (hR.eq rfl rfl) hS (Nat.zero_le _) (Nat.zero_le _) dX5_seatsIn_45 rfl
      · skip
        have nc7 : ¬ 8 < j := fun q9 => c7 ((nI_ltI (a := 8) (b := j) (by omega) (by omega)).mpr q9)
        have hjq : j ≤ q := by omega
        have hp : ¬ kx_dv d j ≤ 0 := by
          rcases Nat.lt_or_ge j q with h10 | h10
          · exact (hk j h10).1
          · exact (show q = j by omega) ▸ hb1
        refine lv_iload_n hx hb dX5_seatsIn_10 rfl (lv_at hl 1 rfl) ?_
        refine lv_if_gt (tgt := 16) hx hb dX5_seatsIn_11 (by decide) (fun c11 => ?_) (fun c11 => ?_)
        · skip
          refine lv_iload_n hx hb dX5_seatsIn_16 rfl (lv_at hl 1 rfl) ?_
          refine lv_bipush (v := 10) hx hb dX5_seatsIn_17 (by decide) ?_
          refine lv_irem hx hb dX5_seatsIn_19 (by decide) ?_
          refine lv_istore_n (lv' := [(3, .int ((kx_dv d j) - (kx_dv d j) / 10 * 10)), (2, .int (nI j)), (1, .int (kx_dv d j)), (0, .int d)]) hx hb dX5_seatsIn_20 rfl hl (by decide) rfl (fun ls hl => ?_)
          refine lv_iload_n hx hb dX5_seatsIn_21 rfl (lv_at hl 0 rfl) ?_
          refine lv_iconst (v := 1) hx hb dX5_seatsIn_22 (by decide) ?_
          refine lv_icmp_lt (tgt := 31) hx hb dX5_seatsIn_23 (by decide) (fun c23 => ?_) (fun c23 => ?_)
          · skip
            refine lv_iconst (v := 0) hx hb dX5_seatsIn_31 (by decide) ?_
            exact bd_ri C hr hlk (hR.eq rfl rfl) hS (Nat.zero_le _) (Nat.zero_le _) dX5_seatsIn_32 rfl
          · skip
            refine lv_iload_n hx hb dX5_seatsIn_26 rfl (lv_at hl 0 rfl) ?_
            refine lv_iconst (v := 4) hx hb dX5_seatsIn_27 (by decide) ?_
            refine lv_icmp_le (tgt := 33) hx hb dX5_seatsIn_28 (by decide) (fun c28 => ?_) (fun c28 => ?_)
            · skip
              refine lv_iload_n hx hb dX5_seatsIn_33 rfl (lv_at hl 2 rfl) ?_
              refine lv_bipush (v := 10) hx hb dX5_seatsIn_34 (by decide) ?_
              refine lv_idiv hx hb dX5_seatsIn_36 (by decide) ?_
              refine lv_istore_n (lv' := [(1, .int ((kx_dv d j) / 10)), (3, .int ((kx_dv d j) - (kx_dv d j) / 10 * 10)), (2, .int (nI j)), (0, .int d)]) hx hb dX5_seatsIn_37 rfl hl (by decide) rfl (fun ls hl => ?_)
              refine lv_iinc (v := nI (j + 1)) (lv' := [(2, .int (nI (j + 1))), (1, .int ((kx_dv d j) / 10)), (3, .int ((kx_dv d j) - (kx_dv d j) / 10 * 10)), (0, .int d)]) hx hb dX5_seatsIn_38 hl (k := 2) rfl (nI_1 j) (by decide) rfl (fun ls hl => ?_)
              refine lv_goto (tgt := 4) hx hb dX5_seatsIn_41 (by decide) ?_
              exact ih1 (j + 1) (by omega) (by omega) (by
  rcases hb2 with h11 | h11
  · rcases Nat.lt_or_ge j q with h10 | h10
    · exact Or.inl (by omega)
    · exact absurd ⟨c23, Int32.not_lt.mpr c28⟩ ((show q = j by omega) ▸ h11)
  · exact Or.inr h11) _ _ (hR.eq rfl rfl) hS _ (by rw [show (kx_dv d (j + 1) : Int32) = (kx_dv d j) / 10 from (by first | (simp (config := { decide := true }) only [kx_dv, eq_false c7, eq_false nc7, eq_true c11, eq_false c23, eq_true c28, ↓reduceIte, not_true_eq_false, not_false_eq_true, and_self, and_true, true_and, and_false, false_and]; done) | rfl)]; exact lv_sub hl [0, 1, 3] rfl)
            · skip
              refine lv_iconst (v := 0) hx hb dX5_seatsIn_31 (by decide) ?_
              exact bd_ri C hr hlk (hR.eq rfl rfl) hS (Nat.zero_le _) (Nat.zero_le _) dX5_seatsIn_32 rfl
        · exact absurd (Int32.not_lt.mp c11) hp
  exact lp1 ((q + 1) + 1) 0 (by omega) (by omega) (Or.inl (Nat.zero_le _)) _ _ (hR.eq rfl rfl) hS _ (by rw [show (nI 0 : Int32) = 0 from by rfl]; rw [show (kx_dv d 0 : Int32) = d from by rfl]; exact lv_sub hl [0, 1, 2] rfl)
set_option maxHeartbeats 4000000 in
set_option maxRecDepth 100000 in
theorem k_X5_needInstrument (l : Launch) (E : bd_E) (xm ym : bd_M) (om : Nat → Int64) (k : Nat) (hk4 : k < 4) : bd_Ct l yX5_needInstrument cX5_needInstrument 1 none 6 96 0 0 E [.int (nI k)] xm ym om xm ym om (none) := by
  refine bd_open RX5 rfl (by decide) (Nat.le_of_ble_eq_true rfl) ?_
  intro p e s m args below meth c ls C hr hlk hS hR hl
  have hx := C.1.1
  have hb := C.1.2.1
  have hl : lv_has ls 1 [(0, .int (nI k))] := hl
  refine lv_iload_n hx hb dX5_needInstrument_0 rfl (lv_at hl 0 rfl) ?_
  refine lv_if_lt (tgt := 9) hx hb dX5_needInstrument_1 (by decide) (fun c1 => ?_) (fun c1 => ?_)
  · exact absurd c1 (nI_pos (by omega))
  · skip
    have nc1 : ¬ k < 0 := fun q9 => c1 ((nI_ltI (a := k) (b := 0) (by omega) (by omega)).mpr q9)
    refine lv_iload_n hx hb dX5_needInstrument_4 rfl (lv_at hl 0 rfl) ?_
    refine lv_iconst (v := 4) hx hb dX5_needInstrument_5 (by decide) ?_
    refine lv_icmp_lt (tgt := 19) hx hb dX5_needInstrument_6 (by decide) (fun c6 => ?_) (fun c6 => ?_)
    · skip
      have nc6 : k < 4 := (nI_ltI (a := k) (b := 4) (by omega) (by omega)).mp c6
      exact bd_rv C hr hlk (hR.eq rfl rfl) hS (Nat.zero_le _) (Nat.zero_le _) dX5_needInstrument_19
    · exact absurd ((nI_ltI (a := k) (b := 4) (by omega) (by omega)).mpr (by omega)) c6
set_option maxHeartbeats 4000000 in
set_option maxRecDepth 100000 in
theorem k_X5_needWhat (l : Launch) (E : bd_E) (xm ym : bd_M) (om : Nat → Int64) (u : Int32) (t : Int32) (hu : ¬ u < 0 ∧ u < t) : bd_Ct l yX5_needWhat cX5_needWhat 2 none 6 96 0 0 E [.int u, .int t] xm ym om xm ym om (none) := by
  refine bd_open RX5 rfl (by decide) (Nat.le_of_ble_eq_true rfl) ?_
  intro p e s m args below meth c ls C hr hlk hS hR hl
  have hx := C.1.1
  have hb := C.1.2.1
  have hl : lv_has ls 2 [(0, .int u), (1, .int t)] := hl
  refine lv_iload_n hx hb dX5_needWhat_0 rfl (lv_at hl 0 rfl) ?_
  refine lv_if_lt (tgt := 9) hx hb dX5_needWhat_1 (by decide) (fun c1 => ?_) (fun c1 => ?_)
  · exact absurd c1 hu.1
  · skip
    refine lv_iload_n hx hb dX5_needWhat_4 rfl (lv_at hl 0 rfl) ?_
    refine lv_iload_n hx hb dX5_needWhat_5 rfl (lv_at hl 1 rfl) ?_
    refine lv_icmp_lt (tgt := 19) hx hb dX5_needWhat_6 (by decide) (fun c6 => ?_) (fun c6 => ?_)
    · skip
      exact bd_rv C hr hlk (hR.eq rfl rfl) hS (Nat.zero_le _) (Nat.zero_le _) dX5_needWhat_19
    · exact absurd hu.2 c6
set_option maxHeartbeats 4000000 in
set_option maxRecDepth 100000 in
theorem k_X5_needPlayer (l : Launch) (E : bd_E) (xm ym : bd_M) (om : Nat → Int64) (n : Nat) (nb : Nat) (z : (Nat→Nat)) (k : Nat) (hs : kx_Sh xm 0 n nb z) (hk : k < n) : bd_Ct l yX5_needPlayer cX5_needPlayer 3 (some (.object "BandDay$Player")) 6 96 0 0 E [.ref (bd_ea E 0 0 0), .int (nI k)] xm ym om xm ym om (some (.ref (bd_ea E 7 0 k))) := by
  refine bd_open RX5 rfl (by decide) (Nat.le_of_ble_eq_true rfl) ?_
  intro p e s m args below meth c ls C hr hlk hS hR hl
  have hx := C.1.1
  have hb := C.1.2.1
  have hs24 := hs.2.1
  have hs6 := hs.2.2.2.1
  have hl : lv_has ls 3 [(0, .ref (bd_ea E 0 0 0)), (1, .int (nI k))] := hl
  refine lv_aload_n hx hb dX5_needPlayer_0 rfl (lv_at hl 0 rfl) ?_
  refine bd_g_X5_season C hR  qf_X5_20 dX5_needPlayer_1 ?_
  refine lv_iload_n hx hb dX5_needPlayer_4 rfl (lv_at hl 1 rfl) ?_
  refine bd_cV1 [.int (nI k)] [] C (k_X4_playerAt_j l E xm ym om 0 n nb z k (by omega) hs (by omega)) hR hS (bd_recv C.2 hR ⟨by decide, (by decide), (by decide)⟩ rfl rfl) qm_X5_188 qi_X4_playerAt qs_X4_playerAt qz_X4 qc_X4_playerAt qp_X4_playerAt ⟨Nat.le_of_ble_eq_true rfl, Nat.le_of_ble_eq_true rfl⟩ hl.1 (Nat.le_of_ble_eq_true rfl) dX5_needPlayer_5 ⟨Nat.le_of_ble_eq_true rfl, Nat.le_of_ble_eq_true rfl⟩ (fun H locs hR hS hz5 => ?_)
  refine lv_astore_n (lv' := [(2, .ref (bd_ea E 7 0 k)), (0, .ref (bd_ea E 0 0 0)), (1, .int (nI k))]) hx hb dX5_needPlayer_8 rfl hl (by decide) rfl (fun ls hl => ?_)
  refine lv_aload_n hx hb dX5_needPlayer_9 rfl (lv_at hl 0 rfl) ?_
  refine lv_ifnonnull (tgt := 23) hx hb dX5_needPlayer_10 (by decide) ?_
  refine lv_aload_n hx hb dX5_needPlayer_23 rfl (lv_at hl 0 rfl) ?_
  exact bd_ra C hr (Or.inl ⟨_, rfl⟩) hlk (hR.eq rfl rfl) hS (Nat.zero_le _) (Nat.zero_le _) dX5_needPlayer_24 (Or.inr ⟨_, rfl⟩) rfl
set_option maxHeartbeats 4000000 in
set_option maxRecDepth 100000 in
theorem k_X5_needBand (l : Launch) (E : bd_E) (xm ym : bd_M) (om : Nat → Int64) (n : Nat) (nb : Nat) (z : (Nat→Nat)) (b : Nat) (hs : kx_Sh xm 0 n nb z) (hb : b < nb) : bd_Ct l yX5_needBand cX5_needBand 3 (some (.object "BandDay$Band")) 6 96 0 0 E [.ref (bd_ea E 0 0 0), .int (nI b)] xm ym om xm ym om (some (.ref (bd_ea E 9 0 b))) := by
  refine bd_open RX5 rfl (by decide) (Nat.le_of_ble_eq_true rfl) ?_
  intro p e s m args below meth c ls C hr hlk hS hR hl
  have hx := C.1.1
  have hb := C.1.2.1
  have hs24 := hs.2.1
  have hs6 := hs.2.2.2.1
  have hl : lv_has ls 3 [(0, .ref (bd_ea E 0 0 0)), (1, .int (nI b))] := hl
  refine lv_aload_n hx hb dX5_needBand_0 rfl (lv_at hl 0 rfl) ?_
  refine bd_g_X5_season C hR  qf_X5_20 dX5_needBand_1 ?_
  refine lv_iload_n hx hb dX5_needBand_4 rfl (lv_at hl 1 rfl) ?_
  refine bd_cV1 [.int (nI b)] [] C (k_X4_bandAt_j l E xm ym om 0 n nb z b (by omega) hs (by omega)) hR hS (bd_recv C.2 hR ⟨by decide, (by decide), (by decide)⟩ rfl rfl) qm_X5_161 qi_X4_bandAt qs_X4_bandAt qz_X4 qc_X4_bandAt qp_X4_bandAt ⟨Nat.le_of_ble_eq_true rfl, Nat.le_of_ble_eq_true rfl⟩ hl.1 (Nat.le_of_ble_eq_true rfl) dX5_needBand_5 ⟨Nat.le_of_ble_eq_true rfl, Nat.le_of_ble_eq_true rfl⟩ (fun H locs hR hS hz5 => ?_)
  refine lv_astore_n (lv' := [(2, .ref (bd_ea E 9 0 b)), (0, .ref (bd_ea E 0 0 0)), (1, .int (nI b))]) hx hb dX5_needBand_8 rfl hl (by decide) rfl (fun ls hl => ?_)
  refine lv_aload_n hx hb dX5_needBand_9 rfl (lv_at hl 0 rfl) ?_
  refine lv_ifnonnull (tgt := 23) hx hb dX5_needBand_10 (by decide) ?_
  refine lv_aload_n hx hb dX5_needBand_23 rfl (lv_at hl 0 rfl) ?_
  exact bd_ra C hr (Or.inl ⟨_, rfl⟩) hlk (hR.eq rfl rfl) hS (Nat.zero_le _) (Nat.zero_le _) dX5_needBand_24 (Or.inr ⟨_, rfl⟩) rfl
set_option maxHeartbeats 4000000 in
set_option maxRecDepth 100000 in
theorem k_X5_needChair (l : Launch) (E : bd_E) (xm ym : bd_M) (om : Nat → Int64) (n : Nat) (nb : Nat) (z : (Nat→Nat)) (b : Nat) (q : Nat) (hs : kx_Sh xm 0 n nb z) (hb : b < nb) (hq : q < z b) : bd_Ct l yX5_needChair cX5_needChair 4 (some (.object "BandDay$Chair")) 7 118 0 0 E [.ref (bd_ea E 0 0 0), .int (nI b), .int (nI q)] xm ym om xm ym om (some (.ref (bd_ea E 11 0 (8 * b + q)))) := by
  refine bd_open RX5 rfl (by decide) (Nat.le_of_ble_eq_true rfl) ?_
  intro p e s m args below meth c ls C hr hlk hS hR hl
  have hx := C.1.1
  have hb := C.1.2.1
  have hs24 := hs.2.1
  have hs6 := hs.2.2.2.1
  have z8 := (hs.2.2.2.2 b (by omega)).2
  have hl : lv_has ls 4 [(0, .ref (bd_ea E 0 0 0)), (1, .int (nI b)), (2, .int (nI q))] := hl
  refine lv_aload_n hx hb dX5_needChair_0 rfl (lv_at hl 0 rfl) ?_
  refine lv_iload_n hx hb dX5_needChair_1 rfl (lv_at hl 1 rfl) ?_
  refine bd_cV1 [.int (nI b)] [] C (k_X5_needBand l E xm ym om n nb z b hs (by omega)) hR hS (bd_recv C.2 hR ⟨by decide, (by decide), (by decide)⟩ rfl rfl) qm_X5_101 qi_X5_needBand qs_X5_needBand qz_X5 qc_X5_needBand qp_X5_needBand ⟨Nat.le_of_ble_eq_true rfl, Nat.le_of_ble_eq_true rfl⟩ hl.1 (Nat.le_of_ble_eq_true rfl) dX5_needChair_2 ⟨Nat.le_of_ble_eq_true rfl, Nat.le_of_ble_eq_true rfl⟩ (fun H locs hR hS hz2 => ?_)
  refine lv_iload_n hx hb dX5_needChair_5 rfl (lv_at hl 2 rfl) ?_
  refine bd_cV1 [.int (nI q)] [] C (k_X0_chairAt_j l E xm ym om 0 n nb z b q (by omega) hs (by omega) (by omega)) hR hS (bd_recv C.2 hR ⟨by decide, (by decide), show b < 6 by omega⟩ rfl rfl) qm_X5_195 qi_X0_chairAt qs_X0_chairAt qz_X0 qc_X0_chairAt qp_X0_chairAt ⟨Nat.le_of_ble_eq_true rfl, Nat.le_of_ble_eq_true rfl⟩ hl.1 (Nat.le_of_ble_eq_true rfl) dX5_needChair_6 ⟨Nat.le_of_ble_eq_true rfl, Nat.le_of_ble_eq_true rfl⟩ (fun H locs hR hS hz6 => ?_)
  refine lv_astore_n (lv' := [(3, .ref (bd_ea E 11 0 (8 * b + q))), (0, .ref (bd_ea E 0 0 0)), (1, .int (nI b)), (2, .int (nI q))]) hx hb dX5_needChair_9 rfl hl (by decide) rfl (fun ls hl => ?_)
  refine lv_aload_n hx hb dX5_needChair_10 rfl (lv_at hl 0 rfl) ?_
  refine lv_ifnonnull (tgt := 24) hx hb dX5_needChair_11 (by decide) ?_
  refine lv_aload_n hx hb dX5_needChair_24 rfl (lv_at hl 0 rfl) ?_
  exact bd_ra C hr (Or.inl ⟨_, rfl⟩) hlk (hR.eq rfl rfl) hS (Nat.zero_le _) (Nat.zero_le _) dX5_needChair_25 (Or.inr ⟨_, rfl⟩) rfl
set_option maxHeartbeats 4000000 in
set_option maxRecDepth 100000 in
theorem k_X5_addPlayer (l : Launch) (E : bd_E) (xm ym : bd_M) (om : Nat → Int64) (n : Nat) (nb : Nat) (z : (Nat→Nat)) (a : Int32) (b : Int32) (c2 : Int32) (d : Int32) (hs : kx_Sh xm 0 n nb z) (h9a : ¬ a < 0 ∧ ¬ 9 < a) (h9b : ¬ b < 0 ∧ ¬ 9 < b) (h9c : ¬ c2 < 0 ∧ ¬ 9 < c2) (h9d : ¬ d < 0 ∧ ¬ 9 < d) (hn : n < 24) : bd_Ct l yX5_addPlayer cX5_addPlayer 5 (some .int) 6 96 0 0 E [.ref (bd_ea E 0 0 0), .int a, .int b, .int c2, .int d] xm ym om (kx_enrol xm 0 n a b c2 d) ym om (some (.int (nI n))) := by
  refine bd_open RX5 rfl (by decide) (Nat.le_of_ble_eq_true rfl) ?_
  intro p e s m args below meth c ls C hr hlk hS hR hl
  have hx := C.1.1
  have hb := C.1.2.1
  have hs24 := hs.2.1
  have hs6 := hs.2.2.2.1
  have hl : lv_has ls 5 [(0, .ref (bd_ea E 0 0 0)), (1, .int a), (2, .int b), (3, .int c2), (4, .int d)] := hl
  refine lv_iload_n hx hb dX5_addPlayer_0 rfl (lv_at hl 1 rfl) ?_
  refine bd_cS1 [.int a] [] C (k_X5_isSkill l E xm ym om a ) hR hS qm_X5_27 qt_X5_isSkill qz_X5 qc_X5_isSkill qp_X5_isSkill.2 ⟨Nat.le_of_ble_eq_true rfl, Nat.le_of_ble_eq_true rfl⟩ hl.1 (Nat.le_of_ble_eq_true rfl) dX5_addPlayer_1 ⟨Nat.le_of_ble_eq_true rfl, Nat.le_of_ble_eq_true rfl⟩ (fun H locs hR hS hz1 => ?_)
  refine bd_ifeq (P := ¬ a < 0 ∧ ¬ 9 < a) (tgt := 29) C dX5_addPlayer_4 (by decide) (fun q9 => absurd h9a q9) (fun q9 => ?_)
  refine lv_iload_n hx hb dX5_addPlayer_7 rfl (lv_at hl 2 rfl) ?_
  refine bd_cS1 [.int b] [] C (k_X5_isSkill l E xm ym om b ) hR hS qm_X5_27 qt_X5_isSkill qz_X5 qc_X5_isSkill qp_X5_isSkill.2 ⟨Nat.le_of_ble_eq_true rfl, Nat.le_of_ble_eq_true rfl⟩ hl.1 (Nat.le_of_ble_eq_true rfl) dX5_addPlayer_8 ⟨Nat.le_of_ble_eq_true rfl, Nat.le_of_ble_eq_true rfl⟩ (fun H locs hR hS hz8 => ?_)
  refine bd_ifeq (P := ¬ b < 0 ∧ ¬ 9 < b) (tgt := 29) C dX5_addPlayer_11 (by decide) (fun q9 => absurd h9b q9) (fun q9 => ?_)
  refine lv_iload_n hx hb dX5_addPlayer_14 rfl (lv_at hl 3 rfl) ?_
  refine bd_cS1 [.int c2] [] C (k_X5_isSkill l E xm ym om c2 ) hR hS qm_X5_27 qt_X5_isSkill qz_X5 qc_X5_isSkill qp_X5_isSkill.2 ⟨Nat.le_of_ble_eq_true rfl, Nat.le_of_ble_eq_true rfl⟩ hl.1 (Nat.le_of_ble_eq_true rfl) dX5_addPlayer_15 ⟨Nat.le_of_ble_eq_true rfl, Nat.le_of_ble_eq_true rfl⟩ (fun H locs hR hS hz15 => ?_)
  refine bd_ifeq (P := ¬ c2 < 0 ∧ ¬ 9 < c2) (tgt := 29) C dX5_addPlayer_18 (by decide) (fun q9 => absurd h9c q9) (fun q9 => ?_)
  refine lv_iload hx hb dX5_addPlayer_21 (lv_at hl 4 rfl) ?_
  refine bd_cS1 [.int d] [] C (k_X5_isSkill l E xm ym om d ) hR hS qm_X5_27 qt_X5_isSkill qz_X5 qc_X5_isSkill qp_X5_isSkill.2 ⟨Nat.le_of_ble_eq_true rfl, Nat.le_of_ble_eq_true rfl⟩ hl.1 (Nat.le_of_ble_eq_true rfl) dX5_addPlayer_23 ⟨Nat.le_of_ble_eq_true rfl, Nat.le_of_ble_eq_true rfl⟩ (fun H locs hR hS hz23 => ?_)
  refine bd_ifne (P := ¬ d < 0 ∧ ¬ 9 < d) (tgt := 39) C dX5_addPlayer_26 (by decide) (fun q9 => ?_) (fun q9 => absurd h9d q9)
  refine lv_aload_n hx hb dX5_addPlayer_39 rfl (lv_at hl 0 rfl) ?_
  refine bd_g_X5_season C hR  qf_X5_20 dX5_addPlayer_40 ?_
  refine bd_g_X4_playerCount C hR (by decide) qf_X5_38 dX5_addPlayer_43 ?_
  rw [show xm 30 0 0 = nI n from (show kx_Sh xm 0 n nb z from hs).1]
  refine lv_bipush (v := 24) hx hb dX5_addPlayer_46 (by decide) ?_
  refine lv_icmp_lt (tgt := 61) hx hb dX5_addPlayer_48 (by decide) (fun c48 => ?_) (fun c48 => ?_)
  · skip
    have nc48 : n < 24 := (nI_ltI (a := n) (b := 24) (by omega) (by omega)).mp c48
    refine lv_aload_n hx hb dX5_addPlayer_61 rfl (lv_at hl 0 rfl) ?_
    refine bd_g_X5_season C hR  qf_X5_20 dX5_addPlayer_62 ?_
    refine lv_iload_n hx hb dX5_addPlayer_65 rfl (lv_at hl 1 rfl) ?_
    refine lv_iload_n hx hb dX5_addPlayer_66 rfl (lv_at hl 2 rfl) ?_
    refine lv_iload_n hx hb dX5_addPlayer_67 rfl (lv_at hl 3 rfl) ?_
    refine lv_iload hx hb dX5_addPlayer_68 (lv_at hl 4 rfl) ?_
    refine bd_cV1 [.int a, .int b, .int c2, .int d] [] C (k_X4_enrol l E xm ym om 0 n nb z a b c2 d (by omega) hs (by omega)) hR hS (bd_recv C.2 hR ⟨by decide, (by decide), (by decide)⟩ rfl rfl) qm_X5_49 qi_X4_enrol qs_X4_enrol qz_X4 qc_X4_enrol qp_X4_enrol ⟨Nat.le_of_ble_eq_true rfl, Nat.le_of_ble_eq_true rfl⟩ hl.1 (Nat.le_of_ble_eq_true rfl) dX5_addPlayer_70 ⟨Nat.le_of_ble_eq_true rfl, Nat.le_of_ble_eq_true rfl⟩ (fun H locs hR hS hz70 => ?_)
    exact bd_ri C hr hlk (hR.eq rfl rfl) hS (Nat.zero_le _) (Nat.zero_le _) dX5_addPlayer_73 rfl
  · exact absurd ((nI_ltI (a := n) (b := 24) (by omega) (by omega)).mpr (by omega)) c48
set_option maxHeartbeats 4000000 in
set_option maxRecDepth 100000 in
theorem k_X5_found (l : Launch) (E : bd_E) (xm ym : bd_M) (om : Nat → Int64) (n : Nat) (nb : Nat) (z : (Nat→Nat)) (d : Int32) (q : Nat) (hs : kx_Sh xm 0 n nb z) (h0 : 0 < q) (hq : q ≤ 8) (hk : kx_ok d q) (hnb : nb < 6) : bd_Ct l yX5_found cX5_found 3 (some .int) 6 96 0 0 E [.ref (bd_ea E 0 0 0), .int d] xm ym om (kx_open xm 0 nb q d) ym om (some (.int (nI nb))) := by
  refine bd_open RX5 rfl (by decide) (Nat.le_of_ble_eq_true rfl) ?_
  intro p e s m args below meth c ls C hr hlk hS hR hl
  have hx := C.1.1
  have hb := C.1.2.1
  have hs24 := hs.2.1
  have hs6 := hs.2.2.2.1
  have hl : lv_has ls 3 [(0, .ref (bd_ea E 0 0 0)), (1, .int d)] := hl
  refine lv_iload_n hx hb dX5_found_0 rfl (lv_at hl 1 rfl) ?_
  refine bd_cS1 [.int d] [] C (k_X5_seatsIn_ok l E xm ym om d q (by omega) (by assumption)) hR hS qm_X5_53 qt_X5_seatsIn qz_X5 qc_X5_seatsIn qp_X5_seatsIn.2 ⟨Nat.le_of_ble_eq_true rfl, Nat.le_of_ble_eq_true rfl⟩ hl.1 (Nat.le_of_ble_eq_true rfl) dX5_found_1 ⟨Nat.le_of_ble_eq_true rfl, Nat.le_of_ble_eq_true rfl⟩ (fun H locs hR hS hz1 => ?_)
  refine lv_istore_n (lv' := [(2, .int (nI q)), (0, .ref (bd_ea E 0 0 0)), (1, .int d)]) hx hb dX5_found_4 rfl hl (by decide) rfl (fun ls hl => ?_)
  refine lv_iload_n hx hb dX5_found_5 rfl (lv_at hl 0 rfl) ?_
  refine lv_if_ne (tgt := 19) hx hb dX5_found_6 (by decide) (fun c6 => ?_) (fun c6 => ?_)
  · skip
    have nc6 : ¬ q = 0 := fun q9 => c6 ((nI_eq (a := q) (b := 0) (by omega) (by omega)).mpr q9)
    refine lv_aload_n hx hb dX5_found_19 rfl (lv_at hl 1 rfl) ?_
    refine bd_g_X5_season C hR  qf_X5_20 dX5_found_20 ?_
    refine bd_g_X4_bandCount C hR (by decide) qf_X5_59 dX5_found_23 ?_
    rw [show xm 31 0 0 = nI nb from (show kx_Sh xm 0 n nb z from hs).2.2.1]
    refine lv_bipush (v := 6) hx hb dX5_found_26 (by decide) ?_
    refine lv_icmp_lt (tgt := 41) hx hb dX5_found_28 (by decide) (fun c28 => ?_) (fun c28 => ?_)
    · skip
      have nc28 : nb < 6 := (nI_ltI (a := nb) (b := 6) (by omega) (by omega)).mp c28
      refine lv_aload_n hx hb dX5_found_41 rfl (lv_at hl 1 rfl) ?_
      refine bd_g_X5_season C hR  qf_X5_20 dX5_found_42 ?_
      refine lv_iload_n hx hb dX5_found_45 rfl (lv_at hl 2 rfl) ?_
      refine lv_iload_n hx hb dX5_found_46 rfl (lv_at hl 0 rfl) ?_
      refine bd_cV1 [.int d, .int (nI q)] [] C (k_X4_open l E xm ym om 0 n nb z d q (by omega) hs (by omega) (by omega)) hR hS (bd_recv C.2 hR ⟨by decide, (by decide), (by decide)⟩ rfl rfl) qm_X5_64 qi_X4_open qs_X4_open qz_X4 qc_X4_open qp_X4_open ⟨Nat.le_of_ble_eq_true rfl, Nat.le_of_ble_eq_true rfl⟩ hl.1 (Nat.le_of_ble_eq_true rfl) dX5_found_47 ⟨Nat.le_of_ble_eq_true rfl, Nat.le_of_ble_eq_true rfl⟩ (fun H locs hR hS hz47 => ?_)
      exact bd_ri C hr hlk (hR.eq rfl rfl) hS (Nat.zero_le _) (Nat.zero_le _) dX5_found_50 rfl
    · exact absurd ((nI_ltI (a := nb) (b := 6) (by omega) (by omega)).mpr (by omega)) c28
  · exact absurd ((nI_eq (a := q) (b := 0) (by omega) (by decide)).mp c6) (by omega)
set_option maxHeartbeats 4000000 in
set_option maxRecDepth 100000 in
theorem k_X5_seat_out (l : Launch) (E : bd_E) (xm ym : bd_M) (om : Nat → Int64) (n : Nat) (nb : Nat) (z : (Nat→Nat)) (b : Nat) (q : Nat) (hs : kx_Sh xm 0 n nb z) (hb : b < nb) (hq : q < z b) : bd_Ct l yX5_seat cX5_seat 6 (some .int) 8 141 0 0 E [.ref (bd_ea E 0 0 0), .int (nI b), .int (nI q), .int (-1)] xm ym om (kx_putOn (kx_leave (kx_leave xm 0 n nb z (xm 11 0 (8 * b + q))) 0 n nb z (-1)) 0 n b q (-1)) ym om (some (.int (xm 11 0 (8 * b + q)))) := by
  refine bd_open RX5 rfl (by decide) (Nat.le_of_ble_eq_true rfl) ?_
  intro p e s m args below meth c ls C hr hlk hS hR hl
  have hx := C.1.1
  have hb := C.1.2.1
  have hs24 := hs.2.1
  have hs6 := hs.2.2.2.1
  have z8 := (hs.2.2.2.2 b (by omega)).2
  have hl : lv_has ls 6 [(0, .ref (bd_ea E 0 0 0)), (1, .int (nI b)), (2, .int (nI q)), (3, .int (-1))] := hl
  refine lv_aload_n hx hb dX5_seat_0 rfl (lv_at hl 0 rfl) ?_
  refine lv_iload_n hx hb dX5_seat_1 rfl (lv_at hl 1 rfl) ?_
  refine lv_iload_n hx hb dX5_seat_2 rfl (lv_at hl 2 rfl) ?_
  refine bd_cV1 [.int (nI b), .int (nI q)] [] C (k_X5_needChair l E xm ym om n nb z b q hs (by omega) (by omega)) hR hS (bd_recv C.2 hR ⟨by decide, (by decide), (by decide)⟩ rfl rfl) qm_X5_68 qi_X5_needChair qs_X5_needChair qz_X5 qc_X5_needChair qp_X5_needChair ⟨Nat.le_of_ble_eq_true rfl, Nat.le_of_ble_eq_true rfl⟩ hl.1 (Nat.le_of_ble_eq_true rfl) dX5_seat_3 ⟨Nat.le_of_ble_eq_true rfl, Nat.le_of_ble_eq_true rfl⟩ (fun H locs hR hS hz3 => ?_)
  refine lv_astore (lv' := [(4, .ref (bd_ea E 11 0 (8 * b + q))), (0, .ref (bd_ea E 0 0 0)), (1, .int (nI b)), (2, .int (nI q)), (3, .int (-1))]) hx hb dX5_seat_6 hl (by decide) rfl (fun ls hl => ?_)
  refine lv_iload_n hx hb dX5_seat_8 rfl (lv_at hl 4 rfl) ?_
  refine lv_iconst (v := (-1)) hx hb dX5_seat_9 (by decide) ?_
  refine lv_icmp_eq (tgt := 19) hx hb dX5_seat_10 (by decide) (fun _ => ?_) (fun q9 => absurd rfl q9)
  refine lv_aload hx hb dX5_seat_19 (lv_at hl 0 rfl) ?_
  refine bd_g_X1_member C hR (by decide) (by omega) qf_X5_76 dX5_seat_21 ?_
  refine lv_istore (lv' := [(5, .int (xm 11 0 (8 * b + q))), (4, .ref (bd_ea E 11 0 (8 * b + q))), (0, .ref (bd_ea E 0 0 0)), (1, .int (nI b)), (2, .int (nI q)), (3, .int (-1))]) hx hb dX5_seat_24 hl (by decide) rfl (fun ls hl => ?_)
  refine lv_iload_n hx hb dX5_seat_26 rfl (lv_at hl 5 rfl) ?_
  refine lv_iconst (v := (-1)) hx hb dX5_seat_27 (by decide) ?_
  refine lv_icmp_eq (tgt := 53) hx hb dX5_seat_28 (by decide) (fun _ => ?_) (fun q9 => absurd rfl q9)
  refine lv_aload_n hx hb dX5_seat_53 rfl (lv_at hl 2 rfl) ?_
  refine bd_g_X5_season C hR  qf_X5_20 dX5_seat_54 ?_
  refine lv_iload hx hb dX5_seat_57 (lv_at hl 0 rfl) ?_
  refine bd_cV0 [.int (xm 11 0 (8 * b + q))] [] C (k_X4_leave l E xm ym om 0 n nb z (xm 11 0 (8 * b + q)) (by omega) hs) hR hS (bd_recv C.2 hR ⟨by decide, (by decide), (by decide)⟩ rfl rfl) qm_X5_83 qi_X4_leave qs_X4_leave qz_X4 qc_X4_leave qp_X4_leave ⟨Nat.le_of_ble_eq_true rfl, Nat.le_of_ble_eq_true rfl⟩ hl.1 (Nat.le_of_ble_eq_true rfl) dX5_seat_59 ⟨Nat.le_of_ble_eq_true rfl, Nat.le_of_ble_eq_true rfl⟩ (fun H locs hR hS hz59 => ?_)
  refine lv_aload_n hx hb dX5_seat_62 rfl (lv_at hl 2 rfl) ?_
  refine bd_g_X5_season C hR  qf_X5_20 dX5_seat_63 ?_
  refine lv_iload_n hx hb dX5_seat_66 rfl (lv_at hl 5 rfl) ?_
  refine bd_cV0 [.int (-1)] [] C (k_X4_leave l E (kx_leave xm 0 n nb z (xm 11 0 (8 * b + q))) ym om 0 n nb z (-1) (by omega) (kx_leave_sh hs)) hR hS (bd_recv C.2 hR ⟨by decide, (by decide), (by decide)⟩ rfl rfl) qm_X5_83 qi_X4_leave qs_X4_leave qz_X4 qc_X4_leave qp_X4_leave ⟨Nat.le_of_ble_eq_true rfl, Nat.le_of_ble_eq_true rfl⟩ hl.1 (Nat.le_of_ble_eq_true rfl) dX5_seat_67 ⟨Nat.le_of_ble_eq_true rfl, Nat.le_of_ble_eq_true rfl⟩ (fun H locs hR hS hz67 => ?_)
  refine lv_aload_n hx hb dX5_seat_70 rfl (lv_at hl 2 rfl) ?_
  refine bd_g_X5_season C hR  qf_X5_20 dX5_seat_71 ?_
  refine lv_iload_n hx hb dX5_seat_74 rfl (lv_at hl 3 rfl) ?_
  refine lv_iload_n hx hb dX5_seat_75 rfl (lv_at hl 4 rfl) ?_
  refine lv_iload_n hx hb dX5_seat_76 rfl (lv_at hl 5 rfl) ?_
  refine bd_cV0 [.int (nI b), .int (nI q), .int (-1)] [] C (k_X4_putOn l E (kx_leave (kx_leave xm 0 n nb z (xm 11 0 (8 * b + q))) 0 n nb z (-1)) ym om 0 n nb z b q (-1) (by omega) (kx_leave_sh (kx_leave_sh hs)) (by omega) (by omega)) hR hS (bd_recv C.2 hR ⟨by decide, (by decide), (by decide)⟩ rfl rfl) qm_X5_87 qi_X4_putOn qs_X4_putOn qz_X4 qc_X4_putOn qp_X4_putOn ⟨Nat.le_of_ble_eq_true rfl, Nat.le_of_ble_eq_true rfl⟩ hl.1 (Nat.le_of_ble_eq_true rfl) dX5_seat_77 ⟨Nat.le_of_ble_eq_true rfl, Nat.le_of_ble_eq_true rfl⟩ (fun H locs hR hS hz77 => ?_)
  refine lv_iload hx hb dX5_seat_80 (lv_at hl 0 rfl) ?_
  exact bd_ri C hr hlk (hR.eq rfl rfl) hS (Nat.zero_le _) (Nat.zero_le _) dX5_seat_82 rfl
set_option maxHeartbeats 4000000 in
set_option maxRecDepth 100000 in
theorem k_X5_seat_ok (l : Launch) (E : bd_E) (xm ym : bd_M) (om : Nat → Int64) (n : Nat) (nb : Nat) (z : (Nat→Nat)) (b : Nat) (q : Nat) (k : Nat) (hs : kx_Sh xm 0 n nb z) (hb : b < nb) (hq : q < z b) (hk : k < n) (hm : xm 11 0 (8 * b + q) = (-1) ∨ xm 11 0 (8 * b + q) = nI k) : bd_Ct l yX5_seat cX5_seat 6 (some .int) 8 141 0 0 E [.ref (bd_ea E 0 0 0), .int (nI b), .int (nI q), .int (nI k)] xm ym om (kx_putOn (kx_leave (kx_leave xm 0 n nb z (xm 11 0 (8 * b + q))) 0 n nb z (nI k)) 0 n b q (nI k)) ym om (some (.int (xm 11 0 (8 * b + q)))) := by
  refine bd_open RX5 rfl (by decide) (Nat.le_of_ble_eq_true rfl) ?_
  intro p e s m args below meth c ls C hr hlk hS hR hl
  have hx := C.1.1
  have hb := C.1.2.1
  have hs24 := hs.2.1
  have hs6 := hs.2.2.2.1
  have z8 := (hs.2.2.2.2 b (by omega)).2
  have hl : lv_has ls 6 [(0, .ref (bd_ea E 0 0 0)), (1, .int (nI b)), (2, .int (nI q)), (3, .int (nI k))] := hl
  refine lv_aload_n hx hb dX5_seat_0 rfl (lv_at hl 0 rfl) ?_
  refine lv_iload_n hx hb dX5_seat_1 rfl (lv_at hl 1 rfl) ?_
  refine lv_iload_n hx hb dX5_seat_2 rfl (lv_at hl 2 rfl) ?_
  refine bd_cV1 [.int (nI b), .int (nI q)] [] C (k_X5_needChair l E xm ym om n nb z b q hs (by omega) (by omega)) hR hS (bd_recv C.2 hR ⟨by decide, (by decide), (by decide)⟩ rfl rfl) qm_X5_68 qi_X5_needChair qs_X5_needChair qz_X5 qc_X5_needChair qp_X5_needChair ⟨Nat.le_of_ble_eq_true rfl, Nat.le_of_ble_eq_true rfl⟩ hl.1 (Nat.le_of_ble_eq_true rfl) dX5_seat_3 ⟨Nat.le_of_ble_eq_true rfl, Nat.le_of_ble_eq_true rfl⟩ (fun H locs hR hS hz3 => ?_)
  refine lv_astore (lv' := [(4, .ref (bd_ea E 11 0 (8 * b + q))), (0, .ref (bd_ea E 0 0 0)), (1, .int (nI b)), (2, .int (nI q)), (3, .int (nI k))]) hx hb dX5_seat_6 hl (by decide) rfl (fun ls hl => ?_)
  refine lv_iload_n hx hb dX5_seat_8 rfl (lv_at hl 4 rfl) ?_
  refine lv_iconst (v := (-1)) hx hb dX5_seat_9 (by decide) ?_
  refine lv_icmp_eq (tgt := 19) hx hb dX5_seat_10 (by decide) (fun c10 => ?_) (fun c10 => ?_)
  · exact absurd (show nI k < 0 by rw [c10]; decide) (nI_pos (by omega))
  · skip
    refine lv_aload_n hx hb dX5_seat_13 rfl (lv_at hl 1 rfl) ?_
    refine lv_iload_n hx hb dX5_seat_14 rfl (lv_at hl 4 rfl) ?_
    refine bd_cV1 [.int (nI k)] [] C (k_X5_needPlayer l E xm ym om n nb z k hs (by omega)) hR hS (bd_recv C.2 hR ⟨by decide, (by decide), (by decide)⟩ rfl rfl) qm_X5_72 qi_X5_needPlayer qs_X5_needPlayer qz_X5 qc_X5_needPlayer qp_X5_needPlayer ⟨Nat.le_of_ble_eq_true rfl, Nat.le_of_ble_eq_true rfl⟩ hl.1 (Nat.le_of_ble_eq_true rfl) dX5_seat_15 ⟨Nat.le_of_ble_eq_true rfl, Nat.le_of_ble_eq_true rfl⟩ (fun H locs hR hS hz15 => ?_)
    refine lv_pop hx hb dX5_seat_18 rfl ?_
    refine lv_aload hx hb dX5_seat_19 (lv_at hl 0 rfl) ?_
    refine bd_g_X1_member C hR (by decide) (by omega) qf_X5_76 dX5_seat_21 ?_
    refine lv_istore (lv' := [(5, .int (xm 11 0 (8 * b + q))), (4, .ref (bd_ea E 11 0 (8 * b + q))), (0, .ref (bd_ea E 0 0 0)), (1, .int (nI b)), (2, .int (nI q)), (3, .int (nI k))]) hx hb dX5_seat_24 hl (by decide) rfl (fun ls hl => ?_)
    refine lv_iload_n hx hb dX5_seat_26 rfl (lv_at hl 5 rfl) ?_
    refine lv_iconst (v := (-1)) hx hb dX5_seat_27 (by decide) ?_
    refine lv_icmp_eq (tgt := 53) hx hb dX5_seat_28 (by decide) (fun q9 => absurd q9 c10) (fun _ => ?_)
    refine lv_iload hx hb dX5_seat_31 (lv_at hl 0 rfl) ?_
    refine lv_iconst (v := (-1)) hx hb dX5_seat_33 (by decide) ?_
    refine lv_icmp_eq (tgt := 53) hx hb dX5_seat_34 (by decide) (fun c34 => ?_) (fun c34 => ?_)
    · skip
      refine lv_aload_n hx hb dX5_seat_53 rfl (lv_at hl 2 rfl) ?_
      refine bd_g_X5_season C hR  qf_X5_20 dX5_seat_54 ?_
      refine lv_iload hx hb dX5_seat_57 (lv_at hl 0 rfl) ?_
      refine bd_cV0 [.int (xm 11 0 (8 * b + q))] [] C (k_X4_leave l E xm ym om 0 n nb z (xm 11 0 (8 * b + q)) (by omega) hs) hR hS (bd_recv C.2 hR ⟨by decide, (by decide), (by decide)⟩ rfl rfl) qm_X5_83 qi_X4_leave qs_X4_leave qz_X4 qc_X4_leave qp_X4_leave ⟨Nat.le_of_ble_eq_true rfl, Nat.le_of_ble_eq_true rfl⟩ hl.1 (Nat.le_of_ble_eq_true rfl) dX5_seat_59 ⟨Nat.le_of_ble_eq_true rfl, Nat.le_of_ble_eq_true rfl⟩ (fun H locs hR hS hz59 => ?_)
      refine lv_aload_n hx hb dX5_seat_62 rfl (lv_at hl 2 rfl) ?_
      refine bd_g_X5_season C hR  qf_X5_20 dX5_seat_63 ?_
      refine lv_iload_n hx hb dX5_seat_66 rfl (lv_at hl 5 rfl) ?_
      refine bd_cV0 [.int (nI k)] [] C (k_X4_leave l E (kx_leave xm 0 n nb z (xm 11 0 (8 * b + q))) ym om 0 n nb z (nI k) (by omega) (kx_leave_sh hs)) hR hS (bd_recv C.2 hR ⟨by decide, (by decide), (by decide)⟩ rfl rfl) qm_X5_83 qi_X4_leave qs_X4_leave qz_X4 qc_X4_leave qp_X4_leave ⟨Nat.le_of_ble_eq_true rfl, Nat.le_of_ble_eq_true rfl⟩ hl.1 (Nat.le_of_ble_eq_true rfl) dX5_seat_67 ⟨Nat.le_of_ble_eq_true rfl, Nat.le_of_ble_eq_true rfl⟩ (fun H locs hR hS hz67 => ?_)
      refine lv_aload_n hx hb dX5_seat_70 rfl (lv_at hl 2 rfl) ?_
      refine bd_g_X5_season C hR  qf_X5_20 dX5_seat_71 ?_
      refine lv_iload_n hx hb dX5_seat_74 rfl (lv_at hl 3 rfl) ?_
      refine lv_iload_n hx hb dX5_seat_75 rfl (lv_at hl 4 rfl) ?_
      refine lv_iload_n hx hb dX5_seat_76 rfl (lv_at hl 5 rfl) ?_
      refine bd_cV0 [.int (nI b), .int (nI q), .int (nI k)] [] C (k_X4_putOn l E (kx_leave (kx_leave xm 0 n nb z (xm 11 0 (8 * b + q))) 0 n nb z (nI k)) ym om 0 n nb z b q (nI k) (by omega) (kx_leave_sh (kx_leave_sh hs)) (by omega) (by omega)) hR hS (bd_recv C.2 hR ⟨by decide, (by decide), (by decide)⟩ rfl rfl) qm_X5_87 qi_X4_putOn qs_X4_putOn qz_X4 qc_X4_putOn qp_X4_putOn ⟨Nat.le_of_ble_eq_true rfl, Nat.le_of_ble_eq_true rfl⟩ hl.1 (Nat.le_of_ble_eq_true rfl) dX5_seat_77 ⟨Nat.le_of_ble_eq_true rfl, Nat.le_of_ble_eq_true rfl⟩ (fun H locs hR hS hz77 => ?_)
      refine lv_iload hx hb dX5_seat_80 (lv_at hl 0 rfl) ?_
      exact bd_ri C hr hlk (hR.eq rfl rfl) hS (Nat.zero_le _) (Nat.zero_le _) dX5_seat_82 rfl
    · skip
      refine lv_iload hx hb dX5_seat_37 (lv_at hl 0 rfl) ?_
      refine lv_iload_n hx hb dX5_seat_39 rfl (lv_at hl 5 rfl) ?_
      refine lv_icmp_eq (tgt := 53) hx hb dX5_seat_40 (by decide) (fun c40 => ?_) (fun c40 => ?_)
      · skip
        refine lv_aload_n hx hb dX5_seat_53 rfl (lv_at hl 2 rfl) ?_
        refine bd_g_X5_season C hR  qf_X5_20 dX5_seat_54 ?_
        refine lv_iload hx hb dX5_seat_57 (lv_at hl 0 rfl) ?_
        refine bd_cV0 [.int (xm 11 0 (8 * b + q))] [] C (k_X4_leave l E xm ym om 0 n nb z (xm 11 0 (8 * b + q)) (by omega) hs) hR hS (bd_recv C.2 hR ⟨by decide, (by decide), (by decide)⟩ rfl rfl) qm_X5_83 qi_X4_leave qs_X4_leave qz_X4 qc_X4_leave qp_X4_leave ⟨Nat.le_of_ble_eq_true rfl, Nat.le_of_ble_eq_true rfl⟩ hl.1 (Nat.le_of_ble_eq_true rfl) dX5_seat_59 ⟨Nat.le_of_ble_eq_true rfl, Nat.le_of_ble_eq_true rfl⟩ (fun H locs hR hS hz59 => ?_)
        refine lv_aload_n hx hb dX5_seat_62 rfl (lv_at hl 2 rfl) ?_
        refine bd_g_X5_season C hR  qf_X5_20 dX5_seat_63 ?_
        refine lv_iload_n hx hb dX5_seat_66 rfl (lv_at hl 5 rfl) ?_
        refine bd_cV0 [.int (nI k)] [] C (k_X4_leave l E (kx_leave xm 0 n nb z (xm 11 0 (8 * b + q))) ym om 0 n nb z (nI k) (by omega) (kx_leave_sh hs)) hR hS (bd_recv C.2 hR ⟨by decide, (by decide), (by decide)⟩ rfl rfl) qm_X5_83 qi_X4_leave qs_X4_leave qz_X4 qc_X4_leave qp_X4_leave ⟨Nat.le_of_ble_eq_true rfl, Nat.le_of_ble_eq_true rfl⟩ hl.1 (Nat.le_of_ble_eq_true rfl) dX5_seat_67 ⟨Nat.le_of_ble_eq_true rfl, Nat.le_of_ble_eq_true rfl⟩ (fun H locs hR hS hz67 => ?_)
        refine lv_aload_n hx hb dX5_seat_70 rfl (lv_at hl 2 rfl) ?_
        refine bd_g_X5_season C hR  qf_X5_20 dX5_seat_71 ?_
        refine lv_iload_n hx hb dX5_seat_74 rfl (lv_at hl 3 rfl) ?_
        refine lv_iload_n hx hb dX5_seat_75 rfl (lv_at hl 4 rfl) ?_
        refine lv_iload_n hx hb dX5_seat_76 rfl (lv_at hl 5 rfl) ?_
        refine bd_cV0 [.int (nI b), .int (nI q), .int (nI k)] [] C (k_X4_putOn l E (kx_leave (kx_leave xm 0 n nb z (xm 11 0 (8 * b + q))) 0 n nb z (nI k)) ym om 0 n nb z b q (nI k) (by omega) (kx_leave_sh (kx_leave_sh hs)) (by omega) (by omega)) hR hS (bd_recv C.2 hR ⟨by decide, (by decide), (by decide)⟩ rfl rfl) qm_X5_87 qi_X4_putOn qs_X4_putOn qz_X4 qc_X4_putOn qp_X4_putOn ⟨Nat.le_of_ble_eq_true rfl, Nat.le_of_ble_eq_true rfl⟩ hl.1 (Nat.le_of_ble_eq_true rfl) dX5_seat_77 ⟨Nat.le_of_ble_eq_true rfl, Nat.le_of_ble_eq_true rfl⟩ (fun H locs hR hS hz77 => ?_)
        refine lv_iload hx hb dX5_seat_80 (lv_at hl 0 rfl) ?_
        exact bd_ri C hr hlk (hR.eq rfl rfl) hS (Nat.zero_le _) (Nat.zero_le _) dX5_seat_82 rfl
      · exact absurd (hm.resolve_left c34) c40
set_option maxHeartbeats 4000000 in
set_option maxRecDepth 100000 in
theorem k_X5_change (l : Launch) (E : bd_E) (xm ym : bd_M) (om : Nat → Int64) (n : Nat) (nb : Nat) (z : (Nat→Nat)) (b : Nat) (q : Nat) (t : Nat) (hs : kx_Sh xm 0 n nb z) (hb : b < nb) (hq : q < z b) (ht : t < z b) : bd_Ct l yX5_change cX5_change 5 (some .int) 8 141 0 0 E [.ref (bd_ea E 0 0 0), .int (nI b), .int (nI q), .int (nI t)] xm ym om (kx_swap xm 0 n b q t) ym om (some (.int (kx_swap xm 0 n b q t 11 0 (8 * b + q)))) := by
  refine bd_open RX5 rfl (by decide) (Nat.le_of_ble_eq_true rfl) ?_
  intro p e s m args below meth c ls C hr hlk hS hR hl
  have hx := C.1.1
  have hb := C.1.2.1
  have hs24 := hs.2.1
  have hs6 := hs.2.2.2.1
  have z8 := (hs.2.2.2.2 b (by omega)).2
  have hl : lv_has ls 5 [(0, .ref (bd_ea E 0 0 0)), (1, .int (nI b)), (2, .int (nI q)), (3, .int (nI t))] := hl
  refine lv_aload_n hx hb dX5_change_0 rfl (lv_at hl 0 rfl) ?_
  refine lv_iload_n hx hb dX5_change_1 rfl (lv_at hl 1 rfl) ?_
  refine lv_iload_n hx hb dX5_change_2 rfl (lv_at hl 2 rfl) ?_
  refine bd_cV1 [.int (nI b), .int (nI q)] [] C (k_X5_needChair l E xm ym om n nb z b q hs (by omega) (by omega)) hR hS (bd_recv C.2 hR ⟨by decide, (by decide), (by decide)⟩ rfl rfl) qm_X5_68 qi_X5_needChair qs_X5_needChair qz_X5 qc_X5_needChair qp_X5_needChair ⟨Nat.le_of_ble_eq_true rfl, Nat.le_of_ble_eq_true rfl⟩ hl.1 (Nat.le_of_ble_eq_true rfl) dX5_change_3 ⟨Nat.le_of_ble_eq_true rfl, Nat.le_of_ble_eq_true rfl⟩ (fun H locs hR hS hz3 => ?_)
  refine lv_astore (lv' := [(4, .ref (bd_ea E 11 0 (8 * b + q))), (0, .ref (bd_ea E 0 0 0)), (1, .int (nI b)), (2, .int (nI q)), (3, .int (nI t))]) hx hb dX5_change_6 hl (by decide) rfl (fun ls hl => ?_)
  refine lv_aload_n hx hb dX5_change_8 rfl (lv_at hl 1 rfl) ?_
  refine lv_iload_n hx hb dX5_change_9 rfl (lv_at hl 2 rfl) ?_
  refine lv_iload_n hx hb dX5_change_10 rfl (lv_at hl 4 rfl) ?_
  refine bd_cV1 [.int (nI b), .int (nI t)] [] C (k_X5_needChair l E xm ym om n nb z b t hs (by omega) (by omega)) hR hS (bd_recv C.2 hR ⟨by decide, (by decide), (by decide)⟩ rfl rfl) qm_X5_68 qi_X5_needChair qs_X5_needChair qz_X5 qc_X5_needChair qp_X5_needChair ⟨Nat.le_of_ble_eq_true rfl, Nat.le_of_ble_eq_true rfl⟩ hl.1 (Nat.le_of_ble_eq_true rfl) dX5_change_11 ⟨Nat.le_of_ble_eq_true rfl, Nat.le_of_ble_eq_true rfl⟩ (fun H locs hR hS hz11 => ?_)
  refine lv_pop hx hb dX5_change_14 rfl ?_
  refine lv_aload_n hx hb dX5_change_15 rfl (lv_at hl 1 rfl) ?_
  refine bd_g_X5_season C hR  qf_X5_20 dX5_change_16 ?_
  refine lv_iload_n hx hb dX5_change_19 rfl (lv_at hl 2 rfl) ?_
  refine lv_iload_n hx hb dX5_change_20 rfl (lv_at hl 3 rfl) ?_
  refine lv_iload_n hx hb dX5_change_21 rfl (lv_at hl 4 rfl) ?_
  refine bd_cV0 [.int (nI b), .int (nI q), .int (nI t)] [] C (k_X4_swapMembers l E xm ym om 0 n nb z b q t (by omega) hs (by omega) (by omega) (by omega)) hR hS (bd_recv C.2 hR ⟨by decide, (by decide), (by decide)⟩ rfl rfl) qm_X5_91 qi_X4_swapMembers qs_X4_swapMembers qz_X4 qc_X4_swapMembers qp_X4_swapMembers ⟨Nat.le_of_ble_eq_true rfl, Nat.le_of_ble_eq_true rfl⟩ hl.1 (Nat.le_of_ble_eq_true rfl) dX5_change_22 ⟨Nat.le_of_ble_eq_true rfl, Nat.le_of_ble_eq_true rfl⟩ (fun H locs hR hS hz22 => ?_)
  refine lv_aload hx hb dX5_change_25 (lv_at hl 0 rfl) ?_
  refine bd_g_X1_member C hR (by decide) (by omega) qf_X5_76 dX5_change_27 ?_
  exact bd_ri C hr hlk (hR.eq rfl rfl) hS (Nat.zero_le _) (Nat.zero_le _) dX5_change_30 (by first | (simp (config := { decide := true }) only [↓reduceIte, not_true_eq_false, not_false_eq_true, and_self, and_true, true_and, and_false, false_and]; done) | rfl)
set_option maxHeartbeats 4000000 in
set_option maxRecDepth 100000 in
theorem k_X5_absent (l : Launch) (E : bd_E) (xm ym : bd_M) (om : Nat → Int64) (n : Nat) (nb : Nat) (z : (Nat→Nat)) (k : Nat) (v : Int32) (hs : kx_Sh xm 0 n nb z) (hk : k < n) (h2 : ¬ v < 0 ∧ ¬ 20 < v) : bd_Ct l yX5_absent cX5_absent 5 (some .int) 7 118 0 0 E [.ref (bd_ea E 0 0 0), .int (nI k), .int v] xm ym om (bd_up xm 1 0 k v) ym om (some (.int (xm 1 0 k))) := by
  refine bd_open RX5 rfl (by decide) (Nat.le_of_ble_eq_true rfl) ?_
  intro p e s m args below meth c ls C hr hlk hS hR hl
  have hx := C.1.1
  have hb := C.1.2.1
  have hs24 := hs.2.1
  have hs6 := hs.2.2.2.1
  have hl : lv_has ls 5 [(0, .ref (bd_ea E 0 0 0)), (1, .int (nI k)), (2, .int v)] := hl
  refine lv_aload_n hx hb dX5_absent_0 rfl (lv_at hl 0 rfl) ?_
  refine lv_iload_n hx hb dX5_absent_1 rfl (lv_at hl 1 rfl) ?_
  refine bd_cV1 [.int (nI k)] [] C (k_X5_needPlayer l E xm ym om n nb z k hs (by omega)) hR hS (bd_recv C.2 hR ⟨by decide, (by decide), (by decide)⟩ rfl rfl) qm_X5_72 qi_X5_needPlayer qs_X5_needPlayer qz_X5 qc_X5_needPlayer qp_X5_needPlayer ⟨Nat.le_of_ble_eq_true rfl, Nat.le_of_ble_eq_true rfl⟩ hl.1 (Nat.le_of_ble_eq_true rfl) dX5_absent_2 ⟨Nat.le_of_ble_eq_true rfl, Nat.le_of_ble_eq_true rfl⟩ (fun H locs hR hS hz2 => ?_)
  refine lv_astore_n (lv' := [(3, .ref (bd_ea E 7 0 k)), (0, .ref (bd_ea E 0 0 0)), (1, .int (nI k)), (2, .int v)]) hx hb dX5_absent_5 rfl hl (by decide) rfl (fun ls hl => ?_)
  refine lv_iload_n hx hb dX5_absent_6 rfl (lv_at hl 3 rfl) ?_
  refine lv_if_lt (tgt := 16) hx hb dX5_absent_7 (by decide) (fun c7 => ?_) (fun c7 => ?_)
  · exact absurd c7 h2.1
  · skip
    refine lv_iload_n hx hb dX5_absent_10 rfl (lv_at hl 3 rfl) ?_
    refine lv_bipush (v := 20) hx hb dX5_absent_11 (by decide) ?_
    refine lv_icmp_le (tgt := 26) hx hb dX5_absent_13 (by decide) (fun c13 => ?_) (fun c13 => ?_)
    · skip
      refine lv_aload_n hx hb dX5_absent_26 rfl (lv_at hl 0 rfl) ?_
      refine bd_g_X3_absences C hR (by decide) (by omega) qf_X5_96 dX5_absent_27 ?_
      refine lv_istore (lv' := [(4, .int (xm 1 0 k)), (3, .ref (bd_ea E 7 0 k)), (0, .ref (bd_ea E 0 0 0)), (1, .int (nI k)), (2, .int v)]) hx hb dX5_absent_30 hl (by decide) rfl (fun ls hl => ?_)
      refine lv_aload_n hx hb dX5_absent_32 rfl (lv_at hl 1 rfl) ?_
      refine lv_iload_n hx hb dX5_absent_33 rfl (lv_at hl 4 rfl) ?_
      refine bd_p_X3_absences C hR hS (by decide) (by omega) qf_X5_96 dX5_absent_34 (fun H locs hR hS => ?_)
      refine lv_iload hx hb dX5_absent_37 (lv_at hl 0 rfl) ?_
      exact bd_ri C hr hlk (hR.eq rfl rfl) hS (Nat.zero_le _) (Nat.zero_le _) dX5_absent_39 rfl
    · exact absurd (Int32.not_lt.mp h2.2) c13
set_option maxHeartbeats 4000000 in
set_option maxRecDepth 100000 in
theorem k_X5_rehearse (l : Launch) (E : bd_E) (xm ym : bd_M) (om : Nat → Int64) (n : Nat) (nb : Nat) (z : (Nat→Nat)) (b : Nat) (hs : kx_Sh xm 0 n nb z) (hb : b < nb) : bd_Ct l yX5_rehearse cX5_rehearse 3 (some .int) 7 118 0 0 E [.ref (bd_ea E 0 0 0), .int (nI b)] xm ym om (kx_tm (kx_raise xm 0 b 3) 0 n b 5 (z b)) ym om (some (.int (kx_tm (kx_raise xm 0 b 3) 0 n b 5 (z b) 21 0 b))) := by
  refine bd_open RX5 rfl (by decide) (Nat.le_of_ble_eq_true rfl) ?_
  intro p e s m args below meth c ls C hr hlk hS hR hl
  have hx := C.1.1
  have hb := C.1.2.1
  have hs24 := hs.2.1
  have hs6 := hs.2.2.2.1
  have z8 := (hs.2.2.2.2 b (by omega)).2
  have hl : lv_has ls 3 [(0, .ref (bd_ea E 0 0 0)), (1, .int (nI b))] := hl
  refine lv_aload_n hx hb dX5_rehearse_0 rfl (lv_at hl 0 rfl) ?_
  refine lv_iload_n hx hb dX5_rehearse_1 rfl (lv_at hl 1 rfl) ?_
  refine bd_cV1 [.int (nI b)] [] C (k_X5_needBand l E xm ym om n nb z b hs (by omega)) hR hS (bd_recv C.2 hR ⟨by decide, (by decide), (by decide)⟩ rfl rfl) qm_X5_101 qi_X5_needBand qs_X5_needBand qz_X5 qc_X5_needBand qp_X5_needBand ⟨Nat.le_of_ble_eq_true rfl, Nat.le_of_ble_eq_true rfl⟩ hl.1 (Nat.le_of_ble_eq_true rfl) dX5_rehearse_2 ⟨Nat.le_of_ble_eq_true rfl, Nat.le_of_ble_eq_true rfl⟩ (fun H locs hR hS hz2 => ?_)
  refine lv_astore_n (lv' := [(2, .ref (bd_ea E 9 0 b)), (0, .ref (bd_ea E 0 0 0)), (1, .int (nI b))]) hx hb dX5_rehearse_5 rfl hl (by decide) rfl (fun ls hl => ?_)
  refine lv_aload_n hx hb dX5_rehearse_6 rfl (lv_at hl 0 rfl) ?_
  refine lv_iconst (v := 3) hx hb dX5_rehearse_7 (by decide) ?_
  refine bd_cV0 [.int 3] [] C (k_X0_raiseSpirit l E xm ym om 0 n nb z b 3 (by omega) hs (by omega)) hR hS (bd_recv C.2 hR ⟨by decide, (by decide), show b < 6 by omega⟩ rfl rfl) qm_X5_105 qi_X0_raiseSpirit qs_X0_raiseSpirit qz_X0 qc_X0_raiseSpirit qp_X0_raiseSpirit ⟨Nat.le_of_ble_eq_true rfl, Nat.le_of_ble_eq_true rfl⟩ hl.1 (Nat.le_of_ble_eq_true rfl) dX5_rehearse_8 ⟨Nat.le_of_ble_eq_true rfl, Nat.le_of_ble_eq_true rfl⟩ (fun H locs hR hS hz8 => ?_)
  refine lv_aload_n hx hb dX5_rehearse_11 rfl (lv_at hl 1 rfl) ?_
  refine bd_g_X5_season C hR  qf_X5_20 dX5_rehearse_12 ?_
  refine lv_aload_n hx hb dX5_rehearse_15 rfl (lv_at hl 0 rfl) ?_
  refine lv_iconst (v := 5) hx hb dX5_rehearse_16 (by decide) ?_
  refine bd_cV0 [.ref (bd_ea E 9 0 b), .int 5] [] C (k_X4_tireMembers l E (kx_raise xm 0 b 3) ym om 0 n nb z b 5 (by omega) (kx_raise_sh hs) (by omega)) hR hS (bd_recv C.2 hR ⟨by decide, (by decide), (by decide)⟩ rfl rfl) qm_X5_110 qi_X4_tireMembers qs_X4_tireMembers qz_X4 qc_X4_tireMembers qp_X4_tireMembers ⟨Nat.le_of_ble_eq_true rfl, Nat.le_of_ble_eq_true rfl⟩ hl.1 (Nat.le_of_ble_eq_true rfl) dX5_rehearse_17 ⟨Nat.le_of_ble_eq_true rfl, Nat.le_of_ble_eq_true rfl⟩ (fun H locs hR hS hz17 => ?_)
  refine lv_aload_n hx hb dX5_rehearse_20 rfl (lv_at hl 0 rfl) ?_
  refine bd_g_X0_spirit C hR (by decide) (by omega) qf_X5_114 dX5_rehearse_21 ?_
  exact bd_ri C hr hlk (hR.eq rfl rfl) hS (Nat.zero_le _) (Nat.zero_le _) dX5_rehearse_24 (by first | (simp (config := { decide := true }) only [↓reduceIte, not_true_eq_false, not_false_eq_true, and_self, and_true, true_and, and_false, false_and]; done) | rfl)
set_option maxHeartbeats 4000000 in
set_option maxRecDepth 100000 in
theorem k_X5_setPiece (l : Launch) (E : bd_E) (xm ym : bd_M) (om : Nat → Int64) (n : Nat) (nb : Nat) (z : (Nat→Nat)) (k : Nat) (v : Int32) (hs : kx_Sh xm 0 n nb z) (hk : k < 4) (h2 : ¬ v < 0 ∧ ¬ 9 < v) : bd_Ct l yX5_setPiece cX5_setPiece 4 (some .int) 7 116 0 0 E [.ref (bd_ea E 0 0 0), .int (nI k), .int v] xm ym om (bd_up xm 35 0 k v) ym om (some (.int (xm 35 0 k))) := by
  refine bd_open RX5 rfl (by decide) (Nat.le_of_ble_eq_true rfl) ?_
  intro p e s m args below meth c ls C hr hlk hS hR hl
  have hx := C.1.1
  have hb := C.1.2.1
  have hs24 := hs.2.1
  have hs6 := hs.2.2.2.1
  have hl : lv_has ls 4 [(0, .ref (bd_ea E 0 0 0)), (1, .int (nI k)), (2, .int v)] := hl
  refine lv_iload_n hx hb dX5_setPiece_0 rfl (lv_at hl 1 rfl) ?_
  refine bd_cS0 [.int (nI k)] [] C (k_X5_needInstrument l E xm ym om k (by omega)) hR hS qm_X5_117 qt_X5_needInstrument qz_X5 qc_X5_needInstrument qp_X5_needInstrument.2 ⟨Nat.le_of_ble_eq_true rfl, Nat.le_of_ble_eq_true rfl⟩ hl.1 (Nat.le_of_ble_eq_true rfl) dX5_setPiece_1 ⟨Nat.le_of_ble_eq_true rfl, Nat.le_of_ble_eq_true rfl⟩ (fun H locs hR hS hz1 => ?_)
  refine lv_iload_n hx hb dX5_setPiece_4 rfl (lv_at hl 2 rfl) ?_
  refine lv_if_lt (tgt := 14) hx hb dX5_setPiece_5 (by decide) (fun c5 => ?_) (fun c5 => ?_)
  · exact absurd c5 h2.1
  · skip
    refine lv_iload_n hx hb dX5_setPiece_8 rfl (lv_at hl 2 rfl) ?_
    refine lv_bipush (v := 9) hx hb dX5_setPiece_9 (by decide) ?_
    refine lv_icmp_le (tgt := 24) hx hb dX5_setPiece_11 (by decide) (fun c11 => ?_) (fun c11 => ?_)
    · skip
      refine lv_aload_n hx hb dX5_setPiece_24 rfl (lv_at hl 0 rfl) ?_
      refine bd_g_X5_season C hR  qf_X5_20 dX5_setPiece_25 ?_
      refine bd_g_X4_hard C hR (by decide) qf_X5_122 dX5_setPiece_28 ?_
      refine lv_iload_n hx hb dX5_setPiece_31 rfl (lv_at hl 1 rfl) ?_
      refine bd_ld_5 C hR (by decide) (j := k) (by omega) dX5_setPiece_32 ?_
      refine lv_istore_n (lv' := [(3, .int (xm 35 0 k)), (0, .ref (bd_ea E 0 0 0)), (1, .int (nI k)), (2, .int v)]) hx hb dX5_setPiece_33 rfl hl (by decide) rfl (fun ls hl => ?_)
      refine lv_aload_n hx hb dX5_setPiece_34 rfl (lv_at hl 1 rfl) ?_
      refine bd_g_X5_season C hR  qf_X5_20 dX5_setPiece_35 ?_
      refine bd_g_X4_hard C hR (by decide) qf_X5_122 dX5_setPiece_38 ?_
      refine lv_iload_n hx hb dX5_setPiece_41 rfl (lv_at hl 2 rfl) ?_
      refine lv_iload_n hx hb dX5_setPiece_42 rfl (lv_at hl 3 rfl) ?_
      refine bd_st_5 C hR hS (by decide) (j := k) (by omega) dX5_setPiece_43 (fun H locs hR hS => ?_)
      refine lv_iload_n hx hb dX5_setPiece_44 rfl (lv_at hl 0 rfl) ?_
      exact bd_ri C hr hlk (hR.eq rfl rfl) hS (Nat.zero_le _) (Nat.zero_le _) dX5_setPiece_45 rfl
    · exact absurd (Int32.not_lt.mp h2.2) c11
set_option maxHeartbeats 4000000 in
set_option maxRecDepth 100000 in
theorem k_X5_setTaste (l : Launch) (E : bd_E) (xm ym : bd_M) (om : Nat → Int64) (n : Nat) (nb : Nat) (z : (Nat→Nat)) (k : Nat) (v : Int32) (hs : kx_Sh xm 0 n nb z) (hk : k < 4) (h2 : ¬ v < 1 ∧ ¬ 5 < v) : bd_Ct l yX5_setTaste cX5_setTaste 4 (some .int) 7 116 0 0 E [.ref (bd_ea E 0 0 0), .int (nI k), .int v] xm ym om (bd_up xm 36 0 k v) ym om (some (.int (xm 36 0 k))) := by
  refine bd_open RX5 rfl (by decide) (Nat.le_of_ble_eq_true rfl) ?_
  intro p e s m args below meth c ls C hr hlk hS hR hl
  have hx := C.1.1
  have hb := C.1.2.1
  have hs24 := hs.2.1
  have hs6 := hs.2.2.2.1
  have hl : lv_has ls 4 [(0, .ref (bd_ea E 0 0 0)), (1, .int (nI k)), (2, .int v)] := hl
  refine lv_iload_n hx hb dX5_setTaste_0 rfl (lv_at hl 1 rfl) ?_
  refine bd_cS0 [.int (nI k)] [] C (k_X5_needInstrument l E xm ym om k (by omega)) hR hS qm_X5_117 qt_X5_needInstrument qz_X5 qc_X5_needInstrument qp_X5_needInstrument.2 ⟨Nat.le_of_ble_eq_true rfl, Nat.le_of_ble_eq_true rfl⟩ hl.1 (Nat.le_of_ble_eq_true rfl) dX5_setTaste_1 ⟨Nat.le_of_ble_eq_true rfl, Nat.le_of_ble_eq_true rfl⟩ (fun H locs hR hS hz1 => ?_)
  refine lv_iload_n hx hb dX5_setTaste_4 rfl (lv_at hl 2 rfl) ?_
  refine lv_iconst (v := 1) hx hb dX5_setTaste_5 (by decide) ?_
  refine lv_icmp_lt (tgt := 14) hx hb dX5_setTaste_6 (by decide) (fun c6 => ?_) (fun c6 => ?_)
  · exact absurd c6 h2.1
  · skip
    refine lv_iload_n hx hb dX5_setTaste_9 rfl (lv_at hl 2 rfl) ?_
    refine lv_iconst (v := 5) hx hb dX5_setTaste_10 (by decide) ?_
    refine lv_icmp_le (tgt := 24) hx hb dX5_setTaste_11 (by decide) (fun c11 => ?_) (fun c11 => ?_)
    · skip
      refine lv_aload_n hx hb dX5_setTaste_24 rfl (lv_at hl 0 rfl) ?_
      refine bd_g_X5_season C hR  qf_X5_20 dX5_setTaste_25 ?_
      refine bd_g_X4_weight C hR (by decide) qf_X5_128 dX5_setTaste_28 ?_
      refine lv_iload_n hx hb dX5_setTaste_31 rfl (lv_at hl 1 rfl) ?_
      refine bd_ld_6 C hR (by decide) (j := k) (by omega) dX5_setTaste_32 ?_
      refine lv_istore_n (lv' := [(3, .int (xm 36 0 k)), (0, .ref (bd_ea E 0 0 0)), (1, .int (nI k)), (2, .int v)]) hx hb dX5_setTaste_33 rfl hl (by decide) rfl (fun ls hl => ?_)
      refine lv_aload_n hx hb dX5_setTaste_34 rfl (lv_at hl 1 rfl) ?_
      refine bd_g_X5_season C hR  qf_X5_20 dX5_setTaste_35 ?_
      refine bd_g_X4_weight C hR (by decide) qf_X5_128 dX5_setTaste_38 ?_
      refine lv_iload_n hx hb dX5_setTaste_41 rfl (lv_at hl 2 rfl) ?_
      refine lv_iload_n hx hb dX5_setTaste_42 rfl (lv_at hl 3 rfl) ?_
      refine bd_st_6 C hR hS (by decide) (j := k) (by omega) dX5_setTaste_43 (fun H locs hR hS => ?_)
      refine lv_iload_n hx hb dX5_setTaste_44 rfl (lv_at hl 0 rfl) ?_
      exact bd_ri C hr hlk (hR.eq rfl rfl) hS (Nat.zero_le _) (Nat.zero_le _) dX5_setTaste_45 rfl
    · exact absurd (Int32.not_lt.mp h2.2) c11
set_option maxHeartbeats 4000000 in
set_option maxRecDepth 100000 in
theorem k_X5_player (l : Launch) (E : bd_E) (xm ym : bd_M) (om : Nat → Int64) (n : Nat) (nb : Nat) (z : (Nat→Nat)) (k : Nat) (q : Nat) (hs : kx_Sh xm 0 n nb z) (hk : k < n) (hq : q < 10) : bd_Ct l yX5_player cX5_player 4 (some .int) 7 118 0 0 E [.ref (bd_ea E 0 0 0), .int (nI k), .int (nI q)] xm ym om xm ym om (some (.int (kx_ptell xm 0 k (nI q)))) := by
  refine bd_open RX5 rfl (by decide) (Nat.le_of_ble_eq_true rfl) ?_
  intro p e s m args below meth c ls C hr hlk hS hR hl
  have hx := C.1.1
  have hb := C.1.2.1
  have hs24 := hs.2.1
  have hs6 := hs.2.2.2.1
  have hl : lv_has ls 4 [(0, .ref (bd_ea E 0 0 0)), (1, .int (nI k)), (2, .int (nI q))] := hl
  refine lv_aload_n hx hb dX5_player_0 rfl (lv_at hl 0 rfl) ?_
  refine lv_iload_n hx hb dX5_player_1 rfl (lv_at hl 1 rfl) ?_
  refine bd_cV1 [.int (nI k)] [] C (k_X5_needPlayer l E xm ym om n nb z k hs (by omega)) hR hS (bd_recv C.2 hR ⟨by decide, (by decide), (by decide)⟩ rfl rfl) qm_X5_72 qi_X5_needPlayer qs_X5_needPlayer qz_X5 qc_X5_needPlayer qp_X5_needPlayer ⟨Nat.le_of_ble_eq_true rfl, Nat.le_of_ble_eq_true rfl⟩ hl.1 (Nat.le_of_ble_eq_true rfl) dX5_player_2 ⟨Nat.le_of_ble_eq_true rfl, Nat.le_of_ble_eq_true rfl⟩ (fun H locs hR hS hz2 => ?_)
  refine lv_astore_n (lv' := [(3, .ref (bd_ea E 7 0 k)), (0, .ref (bd_ea E 0 0 0)), (1, .int (nI k)), (2, .int (nI q))]) hx hb dX5_player_5 rfl hl (by decide) rfl (fun ls hl => ?_)
  refine lv_iload_n hx hb dX5_player_6 rfl (lv_at hl 3 rfl) ?_
  refine lv_bipush (v := 10) hx hb dX5_player_7 (by decide) ?_
  refine bd_cS0 [.int (nI q), .int 10] [] C (k_X5_needWhat l E xm ym om (nI q) 10 (bd_kP (show q < 10 from by omega) (by decide))) hR hS qm_X5_131 qt_X5_needWhat qz_X5 qc_X5_needWhat qp_X5_needWhat.2 ⟨Nat.le_of_ble_eq_true rfl, Nat.le_of_ble_eq_true rfl⟩ hl.1 (Nat.le_of_ble_eq_true rfl) dX5_player_9 ⟨Nat.le_of_ble_eq_true rfl, Nat.le_of_ble_eq_true rfl⟩ (fun H locs hR hS hz9 => ?_)
  refine lv_aload_n hx hb dX5_player_12 rfl (lv_at hl 0 rfl) ?_
  refine lv_iload_n hx hb dX5_player_13 rfl (lv_at hl 3 rfl) ?_
  refine bd_cV1 [.int (nI q)] [] C (k_X3_tell l E xm ym om 0 k (nI q) (by omega) (by omega)) hR hS (bd_recv C.2 hR ⟨by decide, (by decide), show k < 24 by omega⟩ rfl rfl) qm_X5_135 qi_X3_tell qs_X3_tell qz_X3 qc_X3_tell qp_X3_tell ⟨Nat.le_of_ble_eq_true rfl, Nat.le_of_ble_eq_true rfl⟩ hl.1 (Nat.le_of_ble_eq_true rfl) dX5_player_14 ⟨Nat.le_of_ble_eq_true rfl, Nat.le_of_ble_eq_true rfl⟩ (fun H locs hR hS hz14 => ?_)
  exact bd_ri C hr hlk (hR.eq rfl rfl) hS (Nat.zero_le _) (Nat.zero_le _) dX5_player_17 rfl
set_option maxHeartbeats 4000000 in
set_option maxRecDepth 100000 in
theorem k_X5_band (l : Launch) (E : bd_E) (xm ym : bd_M) (om : Nat → Int64) (n : Nat) (nb : Nat) (z : (Nat→Nat)) (b : Nat) (q : Nat) (hs : kx_Sh xm 0 n nb z) (hb : b < nb) (hq : q < 9) : bd_Ct l yX5_band cX5_band 4 (some .int) 7 118 0 0 E [.ref (bd_ea E 0 0 0), .int (nI b), .int (nI q)] xm ym om xm ym om (some (.int (kx_btell xm 0 b (z b) (nI q)))) := by
  refine bd_open RX5 rfl (by decide) (Nat.le_of_ble_eq_true rfl) ?_
  intro p e s m args below meth c ls C hr hlk hS hR hl
  have hx := C.1.1
  have hb := C.1.2.1
  have hs24 := hs.2.1
  have hs6 := hs.2.2.2.1
  have hl : lv_has ls 4 [(0, .ref (bd_ea E 0 0 0)), (1, .int (nI b)), (2, .int (nI q))] := hl
  refine lv_aload_n hx hb dX5_band_0 rfl (lv_at hl 0 rfl) ?_
  refine lv_iload_n hx hb dX5_band_1 rfl (lv_at hl 1 rfl) ?_
  refine bd_cV1 [.int (nI b)] [] C (k_X5_needBand l E xm ym om n nb z b hs (by omega)) hR hS (bd_recv C.2 hR ⟨by decide, (by decide), (by decide)⟩ rfl rfl) qm_X5_101 qi_X5_needBand qs_X5_needBand qz_X5 qc_X5_needBand qp_X5_needBand ⟨Nat.le_of_ble_eq_true rfl, Nat.le_of_ble_eq_true rfl⟩ hl.1 (Nat.le_of_ble_eq_true rfl) dX5_band_2 ⟨Nat.le_of_ble_eq_true rfl, Nat.le_of_ble_eq_true rfl⟩ (fun H locs hR hS hz2 => ?_)
  refine lv_astore_n (lv' := [(3, .ref (bd_ea E 9 0 b)), (0, .ref (bd_ea E 0 0 0)), (1, .int (nI b)), (2, .int (nI q))]) hx hb dX5_band_5 rfl hl (by decide) rfl (fun ls hl => ?_)
  refine lv_iload_n hx hb dX5_band_6 rfl (lv_at hl 3 rfl) ?_
  refine lv_bipush (v := 9) hx hb dX5_band_7 (by decide) ?_
  refine bd_cS0 [.int (nI q), .int 9] [] C (k_X5_needWhat l E xm ym om (nI q) 9 (bd_kP (show q < 9 from by omega) (by decide))) hR hS qm_X5_131 qt_X5_needWhat qz_X5 qc_X5_needWhat qp_X5_needWhat.2 ⟨Nat.le_of_ble_eq_true rfl, Nat.le_of_ble_eq_true rfl⟩ hl.1 (Nat.le_of_ble_eq_true rfl) dX5_band_9 ⟨Nat.le_of_ble_eq_true rfl, Nat.le_of_ble_eq_true rfl⟩ (fun H locs hR hS hz9 => ?_)
  refine lv_aload_n hx hb dX5_band_12 rfl (lv_at hl 0 rfl) ?_
  refine lv_iload_n hx hb dX5_band_13 rfl (lv_at hl 3 rfl) ?_
  refine bd_cV1 [.int (nI q)] [] C (k_X0_tell l E xm ym om 0 n nb z b (nI q) (by omega) hs (by omega)) hR hS (bd_recv C.2 hR ⟨by decide, (by decide), show b < 6 by omega⟩ rfl rfl) qm_X5_138 qi_X0_tell qs_X0_tell qz_X0 qc_X0_tell qp_X0_tell ⟨Nat.le_of_ble_eq_true rfl, Nat.le_of_ble_eq_true rfl⟩ hl.1 (Nat.le_of_ble_eq_true rfl) dX5_band_14 ⟨Nat.le_of_ble_eq_true rfl, Nat.le_of_ble_eq_true rfl⟩ (fun H locs hR hS hz14 => ?_)
  exact bd_ri C hr hlk (hR.eq rfl rfl) hS (Nat.zero_le _) (Nat.zero_le _) dX5_band_17 rfl
set_option maxHeartbeats 4000000 in
set_option maxRecDepth 100000 in
theorem k_X5_chair (l : Launch) (E : bd_E) (xm ym : bd_M) (om : Nat → Int64) (n : Nat) (nb : Nat) (z : (Nat→Nat)) (b : Nat) (t : Nat) (q : Nat) (hs : kx_Sh xm 0 n nb z) (hb : b < nb) (ht : t < z b) (hq : q < 3) : bd_Ct l yX5_chair cX5_chair 5 (some .int) 8 141 0 0 E [.ref (bd_ea E 0 0 0), .int (nI b), .int (nI t), .int (nI q)] xm ym om xm ym om (some (.int (kx_ctell xm 0 (8 * b + t) (nI q)))) := by
  refine bd_open RX5 rfl (by decide) (Nat.le_of_ble_eq_true rfl) ?_
  intro p e s m args below meth c ls C hr hlk hS hR hl
  have hx := C.1.1
  have hb := C.1.2.1
  have hs24 := hs.2.1
  have hs6 := hs.2.2.2.1
  have z8 := (hs.2.2.2.2 b (by omega)).2
  have hl : lv_has ls 5 [(0, .ref (bd_ea E 0 0 0)), (1, .int (nI b)), (2, .int (nI t)), (3, .int (nI q))] := hl
  refine lv_aload_n hx hb dX5_chair_0 rfl (lv_at hl 0 rfl) ?_
  refine lv_iload_n hx hb dX5_chair_1 rfl (lv_at hl 1 rfl) ?_
  refine lv_iload_n hx hb dX5_chair_2 rfl (lv_at hl 2 rfl) ?_
  refine bd_cV1 [.int (nI b), .int (nI t)] [] C (k_X5_needChair l E xm ym om n nb z b t hs (by omega) (by omega)) hR hS (bd_recv C.2 hR ⟨by decide, (by decide), (by decide)⟩ rfl rfl) qm_X5_68 qi_X5_needChair qs_X5_needChair qz_X5 qc_X5_needChair qp_X5_needChair ⟨Nat.le_of_ble_eq_true rfl, Nat.le_of_ble_eq_true rfl⟩ hl.1 (Nat.le_of_ble_eq_true rfl) dX5_chair_3 ⟨Nat.le_of_ble_eq_true rfl, Nat.le_of_ble_eq_true rfl⟩ (fun H locs hR hS hz3 => ?_)
  refine lv_astore (lv' := [(4, .ref (bd_ea E 11 0 (8 * b + t))), (0, .ref (bd_ea E 0 0 0)), (1, .int (nI b)), (2, .int (nI t)), (3, .int (nI q))]) hx hb dX5_chair_6 hl (by decide) rfl (fun ls hl => ?_)
  refine lv_iload_n hx hb dX5_chair_8 rfl (lv_at hl 4 rfl) ?_
  refine lv_iconst (v := 3) hx hb dX5_chair_9 (by decide) ?_
  refine bd_cS0 [.int (nI q), .int 3] [] C (k_X5_needWhat l E xm ym om (nI q) 3 (bd_kP (show q < 3 from by omega) (by decide))) hR hS qm_X5_131 qt_X5_needWhat qz_X5 qc_X5_needWhat qp_X5_needWhat.2 ⟨Nat.le_of_ble_eq_true rfl, Nat.le_of_ble_eq_true rfl⟩ hl.1 (Nat.le_of_ble_eq_true rfl) dX5_chair_10 ⟨Nat.le_of_ble_eq_true rfl, Nat.le_of_ble_eq_true rfl⟩ (fun H locs hR hS hz10 => ?_)
  refine lv_aload hx hb dX5_chair_13 (lv_at hl 0 rfl) ?_
  refine lv_iload_n hx hb dX5_chair_15 rfl (lv_at hl 4 rfl) ?_
  refine bd_cV1 [.int (nI q)] [] C (k_X1_tell l E xm ym om 0 (8 * b + t) (nI q) (by omega) (by omega)) hR hS (bd_recv C.2 hR ⟨by decide, (by decide), show 8 * b + t < 48 by omega⟩ rfl rfl) qm_X5_139 qi_X1_tell qs_X1_tell qz_X1 qc_X1_tell qp_X1_tell ⟨Nat.le_of_ble_eq_true rfl, Nat.le_of_ble_eq_true rfl⟩ hl.1 (Nat.le_of_ble_eq_true rfl) dX5_chair_16 ⟨Nat.le_of_ble_eq_true rfl, Nat.le_of_ble_eq_true rfl⟩ (fun H locs hR hS hz16 => ?_)
  exact bd_ri C hr hlk (hR.eq rfl rfl) hS (Nat.zero_le _) (Nat.zero_le _) dX5_chair_19 rfl
set_option maxHeartbeats 4000000 in
set_option maxRecDepth 100000 in
theorem k_X5_contest (l : Launch) (E : bd_E) (xm ym : bd_M) (om : Nat → Int64) (n : Nat) (nb : Nat) (z : (Nat→Nat)) (t : Nat) (hs : kx_Sh xm 0 n nb z) (ht : xm 32 0 0 = nI t) (ht2 : t < 1073741824) (hnb : 0 < nb) : bd_Ct l yX5_contest cX5_contest 1 (some .int) 6 143 0 0 E [.ref (bd_ea E 0 0 0)] xm ym om (kx_hold xm 0 n nb z t) ym om (some (.int (kx_gw (kx_h1 xm 0 n nb z t) 0 nb nb))) := by
  refine bd_open RX5 rfl (by decide) (Nat.le_of_ble_eq_true rfl) ?_
  intro p e s m args below meth c ls C hr hlk hS hR hl
  have hx := C.1.1
  have hb := C.1.2.1
  have hs24 := hs.2.1
  have hs6 := hs.2.2.2.1
  have hl : lv_has ls 1 [(0, .ref (bd_ea E 0 0 0))] := hl
  refine lv_aload_n hx hb dX5_contest_0 rfl (lv_at hl 0 rfl) ?_
  refine bd_g_X5_season C hR  qf_X5_20 dX5_contest_1 ?_
  refine bd_g_X4_bandCount C hR (by decide) qf_X5_59 dX5_contest_4 ?_
  rw [show xm 31 0 0 = nI nb from (show kx_Sh xm 0 n nb z from hs).2.2.1]
  refine lv_if_ne (tgt := 20) hx hb dX5_contest_7 (by decide) (fun c7 => ?_) (fun c7 => ?_)
  · skip
    have nc7 : ¬ nb = 0 := fun q9 => c7 ((nI_eq (a := nb) (b := 0) (by omega) (by omega)).mpr q9)
    refine lv_aload_n hx hb dX5_contest_20 rfl (lv_at hl 0 rfl) ?_
    refine bd_g_X5_contest C hR  qf_X5_10 dX5_contest_21 ?_
    refine bd_cV1 [] [] C (k_X2_hold l E xm ym om 0 n nb z t (by omega) hs (by assumption) (by omega) (by omega)) hR hS (bd_recv C.2 hR ⟨by decide, (by decide), (by decide)⟩ rfl rfl) qm_X5_142 qi_X2_hold qs_X2_hold qz_X2 qc_X2_hold qp_X2_hold ⟨Nat.le_of_ble_eq_true rfl, Nat.le_of_ble_eq_true rfl⟩ hl.1 (Nat.le_of_ble_eq_true rfl) dX5_contest_24 ⟨Nat.le_of_ble_eq_true rfl, Nat.le_of_ble_eq_true rfl⟩ (fun H locs hR hS hz24 => ?_)
    exact bd_ri C hr hlk (hR.eq rfl rfl) hS (Nat.zero_le _) (Nat.zero_le _) dX5_contest_27 rfl
  · exact absurd ((nI_eq (a := nb) (b := 0) (by omega) (by decide)).mp c7) (by omega)
set_option maxHeartbeats 4000000 in
set_option maxRecDepth 100000 in
theorem k_X5_rank (l : Launch) (E : bd_E) (xm ym : bd_M) (om : Nat → Int64) (n : Nat) (nb : Nat) (z : (Nat→Nat)) (i : Nat) (hs : kx_Sh xm 0 n nb z) (hi : i < nb) : bd_Ct l yX5_rank cX5_rank 2 (some .int) 6 96 0 0 E [.ref (bd_ea E 0 0 0), .int (nI i)] xm ym om xm ym om (some (.int (kx_bbp xm 0 nb (nI i) nb 0))) := by
  refine bd_open RX5 rfl (by decide) (Nat.le_of_ble_eq_true rfl) ?_
  intro p e s m args below meth c ls C hr hlk hS hR hl
  have hx := C.1.1
  have hb := C.1.2.1
  have hs24 := hs.2.1
  have hs6 := hs.2.2.2.1
  have hl : lv_has ls 2 [(0, .ref (bd_ea E 0 0 0)), (1, .int (nI i))] := hl
  refine lv_iload_n hx hb dX5_rank_0 rfl (lv_at hl 1 rfl) ?_
  refine lv_if_lt (tgt := 15) hx hb dX5_rank_1 (by decide) (fun c1 => ?_) (fun c1 => ?_)
  · exact absurd c1 (nI_pos (by omega))
  · skip
    have nc1 : ¬ i < 0 := fun q9 => c1 ((nI_ltI (a := i) (b := 0) (by omega) (by omega)).mpr q9)
    refine lv_iload_n hx hb dX5_rank_4 rfl (lv_at hl 1 rfl) ?_
    refine lv_aload_n hx hb dX5_rank_5 rfl (lv_at hl 0 rfl) ?_
    refine bd_g_X5_season C hR  qf_X5_20 dX5_rank_6 ?_
    refine bd_g_X4_bandCount C hR (by decide) qf_X5_59 dX5_rank_9 ?_
    rw [show xm 31 0 0 = nI nb from (show kx_Sh xm 0 n nb z from hs).2.2.1]
    refine lv_icmp_lt (tgt := 25) hx hb dX5_rank_12 (by decide) (fun c12 => ?_) (fun c12 => ?_)
    · skip
      have nc12 : i < nb := (nI_ltI (a := i) (b := nb) (by omega) (by omega)).mp c12
      refine lv_aload_n hx hb dX5_rank_25 rfl (lv_at hl 0 rfl) ?_
      refine bd_g_X5_season C hR  qf_X5_20 dX5_rank_26 ?_
      refine lv_iload_n hx hb dX5_rank_29 rfl (lv_at hl 1 rfl) ?_
      refine bd_cV1 [.int (nI i)] [] C (k_X4_bandByPoints l E xm ym om 0 n nb z (nI i) (by omega) hs) hR hS (bd_recv C.2 hR ⟨by decide, (by decide), (by decide)⟩ rfl rfl) qm_X5_151 qi_X4_bandByPoints qs_X4_bandByPoints qz_X4 qc_X4_bandByPoints qp_X4_bandByPoints ⟨Nat.le_of_ble_eq_true rfl, Nat.le_of_ble_eq_true rfl⟩ hl.1 (Nat.le_of_ble_eq_true rfl) dX5_rank_30 ⟨Nat.le_of_ble_eq_true rfl, Nat.le_of_ble_eq_true rfl⟩ (fun H locs hR hS hz30 => ?_)
      exact bd_ri C hr hlk (hR.eq rfl rfl) hS (Nat.zero_le _) (Nat.zero_le _) dX5_rank_33 rfl
    · exact absurd (nI_lt hi (by omega)) c12
set_option maxHeartbeats 4000000 in
set_option maxRecDepth 100000 in
theorem k_X5_count (l : Launch) (E : bd_E) (xm ym : bd_M) (om : Nat → Int64) (n : Nat) (nb : Nat) (z : (Nat→Nat)) (q : Nat) (hs : kx_Sh xm 0 n nb z) (hq : q < 7) : bd_Ct l yX5_count cX5_count 2 (some .int) 7 117 0 0 E [.ref (bd_ea E 0 0 0), .int (nI q)] xm ym om xm ym om (some (.int (kx_stell xm 0 n nb z (nI q)))) := by
  refine bd_open RX5 rfl (by decide) (Nat.le_of_ble_eq_true rfl) ?_
  intro p e s m args below meth c ls C hr hlk hS hR hl
  have hx := C.1.1
  have hb := C.1.2.1
  have hs24 := hs.2.1
  have hs6 := hs.2.2.2.1
  have hl : lv_has ls 2 [(0, .ref (bd_ea E 0 0 0)), (1, .int (nI q))] := hl
  refine lv_iload_n hx hb dX5_count_0 rfl (lv_at hl 1 rfl) ?_
  refine lv_bipush (v := 7) hx hb dX5_count_1 (by decide) ?_
  refine bd_cS0 [.int (nI q), .int 7] [] C (k_X5_needWhat l E xm ym om (nI q) 7 (bd_kP (show q < 7 from by omega) (by decide))) hR hS qm_X5_131 qt_X5_needWhat qz_X5 qc_X5_needWhat qp_X5_needWhat.2 ⟨Nat.le_of_ble_eq_true rfl, Nat.le_of_ble_eq_true rfl⟩ hl.1 (Nat.le_of_ble_eq_true rfl) dX5_count_3 ⟨Nat.le_of_ble_eq_true rfl, Nat.le_of_ble_eq_true rfl⟩ (fun H locs hR hS hz3 => ?_)
  refine lv_aload_n hx hb dX5_count_6 rfl (lv_at hl 0 rfl) ?_
  refine bd_g_X5_season C hR  qf_X5_20 dX5_count_7 ?_
  refine lv_iload_n hx hb dX5_count_10 rfl (lv_at hl 1 rfl) ?_
  refine bd_cV1 [.int (nI q)] [] C (k_X4_tell l E xm ym om 0 n nb z (nI q) (by omega) hs) hR hS (bd_recv C.2 hR ⟨by decide, (by decide), (by decide)⟩ rfl rfl) qm_X5_154 qi_X4_tell qs_X4_tell qz_X4 qc_X4_tell qp_X4_tell ⟨Nat.le_of_ble_eq_true rfl, Nat.le_of_ble_eq_true rfl⟩ hl.1 (Nat.le_of_ble_eq_true rfl) dX5_count_11 ⟨Nat.le_of_ble_eq_true rfl, Nat.le_of_ble_eq_true rfl⟩ (fun H locs hR hS hz11 => ?_)
  exact bd_ri C hr hlk (hR.eq rfl rfl) hS (Nat.zero_le _) (Nat.zero_le _) dX5_count_14 rfl
set_option maxHeartbeats 4000000 in
set_option maxRecDepth 100000 in
theorem k_X5_foresee (l : Launch) (E : bd_E) (xm ym : bd_M) (om : Nat → Int64) (n : Nat) (nb : Nat) (z : (Nat→Nat)) (t : Nat) (b : Nat) (g : Nat) (q : Nat) (hs : kx_Sh xm 0 n nb z) (ht : xm 32 0 0 = nI t) (ht2 : t < 1073741800) (hz : ∀ b, nb ≤ b → b < 6 → xm 20 1 b = nI (z b)) (hb : b < nb) (hg : 1 ≤ g) (hg2 : g ≤ 20) (hq : q < 4) : bd_Ct l yX5_foresee cX5_foresee 5 (some .int) 7 143 0 0 E [.ref (bd_ea E 0 0 0), .int (nI b), .int (nI g), .int (nI q)] xm ym om (kx_fo (kx_scopy xm 1 0 n nb z) n nb z t g) ym om (some (.int (kx_outlook (kx_fo (kx_scopy xm 1 0 n nb z) n nb z t g) 1 b (nI q)))) := by
  refine bd_open RX5 rfl (by decide) (Nat.le_of_ble_eq_true rfl) ?_
  intro p e s m args below meth c ls C hr hlk hS hR hl
  have hx := C.1.1
  have hb := C.1.2.1
  have hs24 := hs.2.1
  have hs6 := hs.2.2.2.1
  have ht3 : kx_scopy xm 1 0 n nb z 32 1 0 = nI t := kx_scopy_32.trans ht
  have hs1 := kx_Sh_scopy1 hs hz
  have hl : lv_has ls 5 [(0, .ref (bd_ea E 0 0 0)), (1, .int (nI b)), (2, .int (nI g)), (3, .int (nI q))] := hl
  refine lv_aload_n hx hb dX5_foresee_0 rfl (lv_at hl 0 rfl) ?_
  refine lv_iload_n hx hb dX5_foresee_1 rfl (lv_at hl 1 rfl) ?_
  refine bd_cV1 [.int (nI b)] [] C (k_X5_needBand l E xm ym om n nb z b hs (by omega)) hR hS (bd_recv C.2 hR ⟨by decide, (by decide), (by decide)⟩ rfl rfl) qm_X5_101 qi_X5_needBand qs_X5_needBand qz_X5 qc_X5_needBand qp_X5_needBand ⟨Nat.le_of_ble_eq_true rfl, Nat.le_of_ble_eq_true rfl⟩ hl.1 (Nat.le_of_ble_eq_true rfl) dX5_foresee_2 ⟨Nat.le_of_ble_eq_true rfl, Nat.le_of_ble_eq_true rfl⟩ (fun H locs hR hS hz2 => ?_)
  refine lv_pop hx hb dX5_foresee_5 rfl ?_
  refine lv_iload_n hx hb dX5_foresee_6 rfl (lv_at hl 3 rfl) ?_
  refine lv_iconst (v := 4) hx hb dX5_foresee_7 (by decide) ?_
  refine bd_cS0 [.int (nI q), .int 4] [] C (k_X5_needWhat l E xm ym om (nI q) 4 (bd_kP (show q < 4 from by omega) (by decide))) hR hS qm_X5_131 qt_X5_needWhat qz_X5 qc_X5_needWhat qp_X5_needWhat.2 ⟨Nat.le_of_ble_eq_true rfl, Nat.le_of_ble_eq_true rfl⟩ hl.1 (Nat.le_of_ble_eq_true rfl) dX5_foresee_8 ⟨Nat.le_of_ble_eq_true rfl, Nat.le_of_ble_eq_true rfl⟩ (fun H locs hR hS hz8 => ?_)
  refine lv_iload_n hx hb dX5_foresee_11 rfl (lv_at hl 2 rfl) ?_
  refine lv_iconst (v := 1) hx hb dX5_foresee_12 (by decide) ?_
  refine lv_icmp_lt (tgt := 22) hx hb dX5_foresee_13 (by decide) (fun c13 => ?_) (fun c13 => ?_)
  · exact absurd ((nI_ltI (a := g) (b := 1) (by omega) (by decide)).mp c13) (by omega)
  · skip
    have nc13 : ¬ g < 1 := fun q9 => c13 ((nI_ltI (a := g) (b := 1) (by omega) (by omega)).mpr q9)
    refine lv_iload_n hx hb dX5_foresee_16 rfl (lv_at hl 2 rfl) ?_
    refine lv_bipush (v := 20) hx hb dX5_foresee_17 (by decide) ?_
    refine lv_icmp_le (tgt := 32) hx hb dX5_foresee_19 (by decide) (fun c19 => ?_) (fun c19 => ?_)
    · skip
      have nc19 : g ≤ 20 := (nI_leI (a := g) (b := 20) (by omega) (by omega)).mp c19
      refine lv_aload_n hx hb dX5_foresee_32 rfl (lv_at hl 0 rfl) ?_
      refine bd_g_X5_trial C hR  qf_X5_24 dX5_foresee_33 ?_
      refine lv_aload_n hx hb dX5_foresee_36 rfl (lv_at hl 0 rfl) ?_
      refine bd_g_X5_season C hR  qf_X5_20 dX5_foresee_37 ?_
      refine bd_cV0 [.ref (bd_ea E 1 0 0)] [] C (k_X4_copyFrom l E xm ym om 1 0 n nb z (by omega) (by omega) (by decide) hs) hR hS (bd_recv C.2 hR ⟨by decide, (by decide), (by decide)⟩ rfl rfl) qm_X5_157 qi_X4_copyFrom qs_X4_copyFrom qz_X4 qc_X4_copyFrom qp_X4_copyFrom ⟨Nat.le_of_ble_eq_true rfl, Nat.le_of_ble_eq_true rfl⟩ hl.1 (Nat.le_of_ble_eq_true rfl) dX5_foresee_40 ⟨Nat.le_of_ble_eq_true rfl, Nat.le_of_ble_eq_true rfl⟩ (fun H locs hR hS hz40 => ?_)
      refine lv_iconst (v := 0) hx hb dX5_foresee_43 (by decide) ?_
      refine lv_istore (lv' := [(4, .int 0), (0, .ref (bd_ea E 0 0 0)), (1, .int (nI b)), (2, .int (nI g)), (3, .int (nI q))]) hx hb dX5_foresee_44 hl (by decide) rfl (fun ls hl => ?_)
      have lp1 : ∀ (t1 j : Nat), j ≤ g → g - j < t1 → ∀ (H : Heap) (locs : List Loc), bd_Rep E (kx_fo (kx_scopy xm 1 0 n nb z) n nb z t j) ym om H → va_S (bd_A E) s.heap H locs → ∀ (ls : Array Slot), lv_has ls 5 [(4, .int (nI j)), (0, .ref (bd_ea E 0 0 0)), (1, .int (nI b)), (2, .int (nI g)), (3, .int (nI q))] → W p l e { frames := 7, cells := 0, slots := 0, locals := 143 } s m args below meth c H locs 0 0 (MQ below (bd_Q E (kx_fo (kx_scopy xm 1 0 n nb z) n nb z t g) ym om (some (.int (kx_outlook (kx_fo (kx_scopy xm 1 0 n nb z) n nb z t g) 1 b (nI q))))) args s 0 0 (bd_A E)) (F0 m 46 ls []) := by
        intro t1
        induction t1 with
        | zero => intro j h1 h2; exact absurd h2 (Nat.not_lt_zero _)
        | succ t1 ih1 =>
          intro j hj1 hj2 H locs hR hS ls hl
          refine lv_iload hx hb dX5_foresee_46 (lv_at hl 0 rfl) ?_
          refine lv_iload_n hx hb dX5_foresee_48 rfl (lv_at hl 3 rfl) ?_
          refine lv_icmp_ge (tgt := 66) hx hb dX5_foresee_49 (by decide) (fun c49 => ?_) (fun c49 => ?_)
          · skip
            have nc49 : g ≤ j := (nI_leI (a := g) (b := j) (by omega) (by omega)).mp c49
            obtain rfl : g = j := by omega
            refine lv_aload_n hx hb dX5_foresee_66 rfl (lv_at hl 1 rfl) ?_
            refine bd_g_X5_trial C hR  qf_X5_24 dX5_foresee_67 ?_
            refine lv_iload_n hx hb dX5_foresee_70 rfl (lv_at hl 2 rfl) ?_
            refine bd_cV1 [.int (nI b)] [] C (k_X4_bandAt_j l E (kx_fo (kx_scopy xm 1 0 n nb z) n nb z t g) ym om 1 n nb z b (by omega) (kx_fo_sh (kx_Sh_scopy1 hs hz) g) (by omega)) hR hS (bd_recv C.2 hR ⟨by decide, (by decide), (by decide)⟩ rfl rfl) qm_X5_161 qi_X4_bandAt qs_X4_bandAt qz_X4 qc_X4_bandAt qp_X4_bandAt ⟨Nat.le_of_ble_eq_true rfl, Nat.le_of_ble_eq_true rfl⟩ hl.1 (Nat.le_of_ble_eq_true rfl) dX5_foresee_71 ⟨Nat.le_of_ble_eq_true rfl, Nat.le_of_ble_eq_true rfl⟩ (fun H locs hR hS hz71 => ?_)
            refine lv_astore (lv' := [(4, .ref (bd_ea E 9 1 b)), (0, .ref (bd_ea E 0 0 0)), (1, .int (nI b)), (2, .int (nI g)), (3, .int (nI q))]) hx hb dX5_foresee_74 hl (by decide) rfl (fun ls hl => ?_)
            refine lv_aload hx hb dX5_foresee_76 (lv_at hl 0 rfl) ?_
            refine lv_ifnonnull (tgt := 85) hx hb dX5_foresee_78 (by decide) ?_
            refine lv_aload hx hb dX5_foresee_85 (lv_at hl 0 rfl) ?_
            refine lv_iload_n hx hb dX5_foresee_87 rfl (lv_at hl 4 rfl) ?_
            refine bd_cV1 [.int (nI q)] [] C (k_X0_outlook l E (kx_fo (kx_scopy xm 1 0 n nb z) n nb z t g) ym om 1 n nb z b (nI q) (by omega) (kx_fo_sh (kx_Sh_scopy1 hs hz) g) (by omega)) hR hS (bd_recv C.2 hR ⟨by decide, (by decide), show b < 6 by omega⟩ rfl rfl) qm_X5_164 qi_X0_outlook qs_X0_outlook qz_X0 qc_X0_outlook qp_X0_outlook ⟨Nat.le_of_ble_eq_true rfl, Nat.le_of_ble_eq_true rfl⟩ hl.1 (Nat.le_of_ble_eq_true rfl) dX5_foresee_88 ⟨Nat.le_of_ble_eq_true rfl, Nat.le_of_ble_eq_true rfl⟩ (fun H locs hR hS hz88 => ?_)
            exact bd_ri C hr hlk (hR.eq rfl rfl) hS (Nat.zero_le _) (Nat.zero_le _) dX5_foresee_91 rfl
          · skip
            have nc49 : ¬ g ≤ j := fun q9 => c49 ((nI_leI (a := g) (b := j) (by omega) (by omega)).mpr q9)
            refine lv_aload_n hx hb dX5_foresee_52 rfl (lv_at hl 1 rfl) ?_
            refine bd_g_X5_trialContest C hR  qf_X5_21 dX5_foresee_53 ?_
            refine bd_cV1 [] [] C (k_X2_hold l E (kx_fo (kx_scopy xm 1 0 n nb z) n nb z t j) ym om 1 n nb z (t + j) (by omega) (kx_fo_sh (kx_Sh_scopy1 hs hz) j) (kx_fo_32 ht3 j) (by omega) (by omega)) hR hS (bd_recv C.2 hR ⟨by decide, (by decide), (by decide)⟩ rfl rfl) qm_X5_142 qi_X2_hold qs_X2_hold qz_X2 qc_X2_hold qp_X2_hold ⟨Nat.le_of_ble_eq_true rfl, Nat.le_of_ble_eq_true rfl⟩ hl.1 (Nat.le_of_ble_eq_true rfl) dX5_foresee_56 ⟨Nat.le_of_ble_eq_true rfl, Nat.le_of_ble_eq_true rfl⟩ (fun H locs hR hS hz56 => ?_)
            refine lv_pop hx hb dX5_foresee_59 rfl ?_
            refine lv_iinc (v := nI (j + 1)) (lv' := [(4, .int (nI (j + 1))), (0, .ref (bd_ea E 0 0 0)), (1, .int (nI b)), (2, .int (nI g)), (3, .int (nI q))]) hx hb dX5_foresee_60 hl (k := 0) rfl (nI_1 j) (by decide) rfl (fun ls hl => ?_)
            refine lv_goto (tgt := 46) hx hb dX5_foresee_63 (by decide) ?_
            exact ih1 (j + 1) (by omega) (by omega) _ _ (hR.eq (by first | (simp (config := { decide := true }) only [kx_fo, eq_false c13, eq_false nc13, eq_true c19, eq_true nc19, eq_false c49, eq_false nc49, ↓reduceIte, not_true_eq_false, not_false_eq_true, and_self, and_true, true_and, and_false, false_and]; done) | rfl) rfl) hS _ (lv_sub hl [0, 1, 2, 3, 4] rfl)
      exact lp1 (g + 1) 0 (by omega) (by omega) _ _ (hR.eq rfl rfl) hS _ (by rw [show (nI 0 : Int32) = 0 from by rfl]; exact lv_sub hl [0, 1, 2, 3, 4] rfl)
    · exact absurd ((nI_leI (a := g) (b := 20) (by omega) (by decide)).mpr (by omega)) c19
set_option maxHeartbeats 4000000 in
set_option maxRecDepth 100000 in
theorem k_X5_advise (l : Launch) (E : bd_E) (xm ym : bd_M) (om : Nat → Int64) (n : Nat) (nb : Nat) (z : (Nat→Nat)) (t : Nat) (b : Nat) (hs : kx_Sh xm 0 n nb z) (ht : xm 32 0 0 = nI t) (ht2 : t < 1073741824) (hz : ∀ b, nb ≤ b → b < 6 → xm 20 1 b = nI (z b)) (hb : b < nb) : bd_Ct l yX5_advise cX5_advise 2 (some .int) 7 143 0 0 E [.ref (bd_ea E 0 0 0), .int (nI b)] xm ym om ((kx_bo (kx_pl (kx_fd (kx_scopy xm 1 0 n nb z) 1 n) 1 n nb z t (kx_ti t nb b nb 0)) 1 n b (z b) (z b)).1) ym om (some (.int ((kx_bo (kx_pl (kx_fd (kx_scopy xm 1 0 n nb z) 1 n) 1 n nb z t (kx_ti t nb b nb 0)) 1 n b (z b) (z b)).2.2))) := by
  refine bd_open RX5 rfl (by decide) (Nat.le_of_ble_eq_true rfl) ?_
  intro p e s m args below meth c ls C hr hlk hS hR hl
  have hx := C.1.1
  have hb := C.1.2.1
  have hs24 := hs.2.1
  have hs6 := hs.2.2.2.1
  have ht3 : kx_scopy xm 1 0 n nb z 32 1 0 = nI t := kx_scopy_32.trans ht
  have hl : lv_has ls 2 [(0, .ref (bd_ea E 0 0 0)), (1, .int (nI b))] := hl
  refine lv_aload_n hx hb dX5_advise_0 rfl (lv_at hl 0 rfl) ?_
  refine lv_iload_n hx hb dX5_advise_1 rfl (lv_at hl 1 rfl) ?_
  refine bd_cV1 [.int (nI b)] [] C (k_X5_needBand l E xm ym om n nb z b hs (by omega)) hR hS (bd_recv C.2 hR ⟨by decide, (by decide), (by decide)⟩ rfl rfl) qm_X5_101 qi_X5_needBand qs_X5_needBand qz_X5 qc_X5_needBand qp_X5_needBand ⟨Nat.le_of_ble_eq_true rfl, Nat.le_of_ble_eq_true rfl⟩ hl.1 (Nat.le_of_ble_eq_true rfl) dX5_advise_2 ⟨Nat.le_of_ble_eq_true rfl, Nat.le_of_ble_eq_true rfl⟩ (fun H locs hR hS hz2 => ?_)
  refine lv_pop hx hb dX5_advise_5 rfl ?_
  refine lv_aload_n hx hb dX5_advise_6 rfl (lv_at hl 0 rfl) ?_
  refine bd_g_X5_trial C hR  qf_X5_24 dX5_advise_7 ?_
  refine lv_aload_n hx hb dX5_advise_10 rfl (lv_at hl 0 rfl) ?_
  refine bd_g_X5_season C hR  qf_X5_20 dX5_advise_11 ?_
  refine bd_cV0 [.ref (bd_ea E 1 0 0)] [] C (k_X4_copyFrom l E xm ym om 1 0 n nb z (by omega) (by omega) (by decide) hs) hR hS (bd_recv C.2 hR ⟨by decide, (by decide), (by decide)⟩ rfl rfl) qm_X5_157 qi_X4_copyFrom qs_X4_copyFrom qz_X4 qc_X4_copyFrom qp_X4_copyFrom ⟨Nat.le_of_ble_eq_true rfl, Nat.le_of_ble_eq_true rfl⟩ hl.1 (Nat.le_of_ble_eq_true rfl) dX5_advise_14 ⟨Nat.le_of_ble_eq_true rfl, Nat.le_of_ble_eq_true rfl⟩ (fun H locs hR hS hz14 => ?_)
  refine lv_aload_n hx hb dX5_advise_17 rfl (lv_at hl 0 rfl) ?_
  refine bd_g_X5_trialContest C hR  qf_X5_21 dX5_advise_18 ?_
  refine lv_iload_n hx hb dX5_advise_21 rfl (lv_at hl 1 rfl) ?_
  refine bd_cV0 [.int (nI b)] [] C (k_X2_playAllAheadOf l E (kx_scopy xm 1 0 n nb z) ym om 1 n nb z t b (by omega) (kx_Sh_scopy1 hs hz) (by assumption) (by omega) (by omega) (by omega)) hR hS (bd_recv C.2 hR ⟨by decide, (by decide), (by decide)⟩ rfl rfl) qm_X5_167 qi_X2_playAllAheadOf qs_X2_playAllAheadOf qz_X2 qc_X2_playAllAheadOf qp_X2_playAllAheadOf ⟨Nat.le_of_ble_eq_true rfl, Nat.le_of_ble_eq_true rfl⟩ hl.1 (Nat.le_of_ble_eq_true rfl) dX5_advise_22 ⟨Nat.le_of_ble_eq_true rfl, Nat.le_of_ble_eq_true rfl⟩ (fun H locs hR hS hz22 => ?_)
  refine lv_aload_n hx hb dX5_advise_25 rfl (lv_at hl 0 rfl) ?_
  refine bd_g_X5_trialContest C hR  qf_X5_21 dX5_advise_26 ?_
  refine lv_iload_n hx hb dX5_advise_29 rfl (lv_at hl 1 rfl) ?_
  refine bd_cV1 [.int (nI b)] [] C (k_X2_bestChange l E (kx_pl (kx_fd (kx_scopy xm 1 0 n nb z) 1 n) 1 n nb z t (kx_ti t nb b nb 0)) ym om 1 n nb z b (by omega) (kx_pl_sh (kx_fd_sh (kx_Sh_scopy1 hs hz) n) _) (by omega)) hR hS (bd_recv C.2 hR ⟨by decide, (by decide), (by decide)⟩ rfl rfl) qm_X5_170 qi_X2_bestChange qs_X2_bestChange qz_X2 qc_X2_bestChange qp_X2_bestChange ⟨Nat.le_of_ble_eq_true rfl, Nat.le_of_ble_eq_true rfl⟩ hl.1 (Nat.le_of_ble_eq_true rfl) dX5_advise_30 ⟨Nat.le_of_ble_eq_true rfl, Nat.le_of_ble_eq_true rfl⟩ (fun H locs hR hS hz30 => ?_)
  exact bd_ri C hr hlk (hR.eq rfl rfl) hS (Nat.zero_le _) (Nat.zero_le _) dX5_advise_33 rfl
set_option maxHeartbeats 4000000 in
set_option maxRecDepth 100000 in
theorem k_X5_free (l : Launch) (E : bd_E) (xm ym : bd_M) (om : Nat → Int64) (n : Nat) (nb : Nat) (z : (Nat→Nat)) (k : Nat) (hs : kx_Sh xm 0 n nb z) (hk : k < 4) : bd_Ct l yX5_free cX5_free 2 (some .int) 7 116 0 0 E [.ref (bd_ea E 0 0 0), .int (nI k)] xm ym om xm ym om (some (.int ((kx_bf xm 0 (nI k) n).1))) := by
  refine bd_open RX5 rfl (by decide) (Nat.le_of_ble_eq_true rfl) ?_
  intro p e s m args below meth c ls C hr hlk hS hR hl
  have hx := C.1.1
  have hb := C.1.2.1
  have hs24 := hs.2.1
  have hs6 := hs.2.2.2.1
  have hl : lv_has ls 2 [(0, .ref (bd_ea E 0 0 0)), (1, .int (nI k))] := hl
  refine lv_iload_n hx hb dX5_free_0 rfl (lv_at hl 1 rfl) ?_
  refine bd_cS0 [.int (nI k)] [] C (k_X5_needInstrument l E xm ym om k (by omega)) hR hS qm_X5_117 qt_X5_needInstrument qz_X5 qc_X5_needInstrument qp_X5_needInstrument.2 ⟨Nat.le_of_ble_eq_true rfl, Nat.le_of_ble_eq_true rfl⟩ hl.1 (Nat.le_of_ble_eq_true rfl) dX5_free_1 ⟨Nat.le_of_ble_eq_true rfl, Nat.le_of_ble_eq_true rfl⟩ (fun H locs hR hS hz1 => ?_)
  refine lv_aload_n hx hb dX5_free_4 rfl (lv_at hl 0 rfl) ?_
  refine bd_g_X5_season C hR  qf_X5_20 dX5_free_5 ?_
  refine lv_iload_n hx hb dX5_free_8 rfl (lv_at hl 1 rfl) ?_
  refine bd_cV1 [.int (nI k)] [] C (k_X4_bestFree l E xm ym om 0 n nb z (nI k) (by omega) hs) hR hS (bd_recv C.2 hR ⟨by decide, (by decide), (by decide)⟩ rfl rfl) qm_X5_173 qi_X4_bestFree qs_X4_bestFree qz_X4 qc_X4_bestFree qp_X4_bestFree ⟨Nat.le_of_ble_eq_true rfl, Nat.le_of_ble_eq_true rfl⟩ hl.1 (Nat.le_of_ble_eq_true rfl) dX5_free_9 ⟨Nat.le_of_ble_eq_true rfl, Nat.le_of_ble_eq_true rfl⟩ (fun H locs hR hS hz9 => ?_)
  exact bd_ri C hr hlk (hR.eq rfl rfl) hS (Nat.zero_le _) (Nat.zero_le _) dX5_free_12 rfl
set_option maxHeartbeats 4000000 in
set_option maxRecDepth 100000 in
theorem k_X5_digest (l : Launch) (E : bd_E) (xm ym : bd_M) (om : Nat → Int64) (n : Nat) (nb : Nat) (z : (Nat→Nat)) (hs : kx_Sh xm 0 n nb z) : bd_Ct l yX5_digest cX5_digest 1 (some .long) 4 94 0 0 E [.ref (bd_ea E 0 0 0)] xm ym om xm ym om (some (.long (kx_sum xm 0 n nb z))) := by
  refine bd_open RX5 rfl (by decide) (Nat.le_of_ble_eq_true rfl) ?_
  intro p e s m args below meth c ls C hr hlk hS hR hl
  have hx := C.1.1
  have hb := C.1.2.1
  have hs24 := hs.2.1
  have hs6 := hs.2.2.2.1
  have hl : lv_has ls 1 [(0, .ref (bd_ea E 0 0 0))] := hl
  refine lv_aload_n hx hb dX5_digest_0 rfl (lv_at hl 0 rfl) ?_
  refine bd_g_X5_season C hR  qf_X5_20 dX5_digest_1 ?_
  refine bd_cV1 [] [] C (k_X4_checksum l E xm ym om 0 n nb z (by omega) hs) hR hS (bd_recv C.2 hR ⟨by decide, (by decide), (by decide)⟩ rfl rfl) qm_X5_180 qi_X4_checksum qs_X4_checksum qz_X4 qc_X4_checksum qp_X4_checksum ⟨Nat.le_of_ble_eq_true rfl, Nat.le_of_ble_eq_true rfl⟩ hl.1 (Nat.le_of_ble_eq_true rfl) dX5_digest_4 ⟨Nat.le_of_ble_eq_true rfl, Nat.le_of_ble_eq_true rfl⟩ (fun H locs hR hS hz4 => ?_)
  exact bd_rl C hr hlk (hR.eq rfl rfl) hS (Nat.zero_le _) (Nat.zero_le _) dX5_digest_7 rfl
