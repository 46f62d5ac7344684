/-! THE REFERENCE'S METHODS, last -/
set_option maxHeartbeats 4000000 in
set_option maxRecDepth 100000 in
theorem k_X7_counted (l : Launch) (E : bd_E) (xm ym : bd_M) (om : Nat → Int64) (n : Nat) (nb : Nat) (z : (Nat→Nat)) (q : Nat) (hy : ry_Sh ym n nb z) (hq : q < 7) : bd_Ct l yX7_counted cX7_counted 5 (some .int) 1 23 1 7 E [.ref (bd_ea E 12 0 0), .int (nI q)] xm ym om xm ym om (some (.int (ry_ct ym n nb z q))) := by
  refine bd_open RX7 rfl (by decide) (Nat.le_of_ble_eq_true rfl) ?_
  intro p e s m args below meth c ls C hr hlk hS hR hl
  have hx := C.1.1
  have hb := C.1.2.1
  have hy24 := hy.2.1
  have hy6 := hy.2.2.2.1
  have hl : lv_has ls 5 [(0, .ref (bd_ea E 12 0 0)), (1, .int (nI q))] := hl
  refine lv_iconst (v := 0) hx hb dX7_counted_0 (by decide) ?_
  refine lv_istore_n (lv' := [(2, .int 0), (0, .ref (bd_ea E 12 0 0)), (1, .int (nI q))]) hx hb dX7_counted_1 rfl hl (by decide) rfl (fun ls hl => ?_)
  refine lv_iconst (v := 0) hx hb dX7_counted_2 (by decide) ?_
  refine lv_istore_n (lv' := [(3, .int 0), (2, .int 0), (0, .ref (bd_ea E 12 0 0)), (1, .int (nI q))]) hx hb dX7_counted_3 rfl hl (by decide) rfl (fun ls hl => ?_)
  refine lv_iconst (v := 0) hx hb dX7_counted_4 (by decide) ?_
  refine lv_istore (lv' := [(4, .int 0), (3, .int 0), (2, .int 0), (0, .ref (bd_ea E 12 0 0)), (1, .int (nI q))]) hx hb dX7_counted_5 hl (by decide) rfl (fun ls hl => ?_)
  have lp1 : ∀ (t1 j : Nat), j ≤ nb → nb - j < t1 → ∀ (H : Heap) (locs : List Loc), bd_Rep E xm ym om H → va_S (bd_A E) s.heap H locs → ∀ (ls : Array Slot), lv_has ls 5 [(4, .int (nI j)), (3, .int 0), (2, .int (ry_mm ym z j)), (0, .ref (bd_ea E 12 0 0)), (1, .int (nI q))] → W p l e { frames := 1, cells := 1, slots := 7, locals := 23 } s m args below meth c H locs 0 0 (MQ below (bd_Q E xm ym om (some (.int (ry_ct ym n nb z q)))) args s 1 7 (bd_A E)) (F0 m 7 ls []) := by
    intro t1
    induction t1 with
    | zero => intro j h1 h2; exact absurd h2 (Nat.not_lt_zero _)
    | succ t1 ih1 =>
      intro j hj1 hj2 H locs hR hS ls hl
      refine lv_iload hx hb dX7_counted_7 (lv_at hl 0 rfl) ?_
      refine lv_aload_n hx hb dX7_counted_9 rfl (lv_at hl 3 rfl) ?_
      refine bd_g_X7_bands C hR  qf_X7_48 dX7_counted_10 ?_
      rw [show ym 2 0 0 = nI nb from (show ry_Sh ym n nb z from hy).2.2.1]
      refine lv_icmp_ge (tgt := 34) hx hb dX7_counted_13 (by decide) (fun c13 => ?_) (fun c13 => ?_)
      · skip
        have nc13 : nb ≤ j := (nI_leI (a := nb) (b := j) (by omega) (by omega)).mp c13
        obtain rfl : nb = j := by omega
        refine lv_iconst (v := 0) hx hb dX7_counted_34 (by decide) ?_
        refine lv_istore (lv' := [(4, .int 0), (3, .int 0), (2, .int (ry_mm ym z nb)), (0, .ref (bd_ea E 12 0 0)), (1, .int (nI q))]) hx hb dX7_counted_35 hl (by decide) rfl (fun ls hl => ?_)
        have lp2 : ∀ (t2 j : Nat), j ≤ n → n - j < t2 → ∀ (H : Heap) (locs : List Loc), bd_Rep E xm ym om H → va_S (bd_A E) s.heap H locs → ∀ (ls : Array Slot), lv_has ls 5 [(4, .int (nI j)), (3, .int (ry_aw ym j)), (2, .int (ry_mm ym z nb)), (0, .ref (bd_ea E 12 0 0)), (1, .int (nI q))] → W p l e { frames := 1, cells := 1, slots := 7, locals := 23 } s m args below meth c H locs 0 0 (MQ below (bd_Q E xm ym om (some (.int (ry_ct ym n nb z q)))) args s 1 7 (bd_A E)) (F0 m 37 ls []) := by
          intro t2
          induction t2 with
          | zero => intro j h1 h2; exact absurd h2 (Nat.not_lt_zero _)
          | succ t2 ih2 =>
            intro j hj1 hj2 H locs hR hS ls hl
            refine lv_iload hx hb dX7_counted_37 (lv_at hl 0 rfl) ?_
            refine lv_aload_n hx hb dX7_counted_39 rfl (lv_at hl 3 rfl) ?_
            refine bd_g_X7_players C hR  qf_X7_41 dX7_counted_40 ?_
            rw [show ym 1 0 0 = nI n from (show ry_Sh ym n nb z from hy).1]
            refine lv_icmp_ge (tgt := 73) hx hb dX7_counted_43 (by decide) (fun c43 => ?_) (fun c43 => ?_)
            · skip
              have nc43 : n ≤ j := (nI_leI (a := n) (b := j) (by omega) (by omega)).mp c43
              obtain rfl : n = j := by omega
              refine lv_bipush (v := 7) hx hb dX7_counted_73 (by decide) ?_
              refine bd_tnew (n := 7) C hR hS (by omega) ⟨by show 0 + 1 ≤ 1; omega, by show 0 + 7 ≤ 7; omega⟩ dX7_counted_75 (fun q3 H hR hT hS => ?_)
              refine lv_dup hx hb dX7_counted_77 rfl ?_
              refine lv_iconst (v := 0) hx hb dX7_counted_78 (by decide) ?_
              refine lv_aload_n hx hb dX7_counted_79 rfl (lv_at hl 3 rfl) ?_
              refine bd_g_X7_s C hR  qf_X7_30 dX7_counted_80 ?_
              refine bd_gN_X6_contests C hR (by decide) (List.mem_of_getElem? (i := 5) rfl) dX7_counted_83 ?_
              refine bd_ti2 (j := 0) rfl ?_
              refine bd_tst (j := 0) C hR hT hS (by omega) (by omega) dX7_counted_86 (fun H locs hR hT hS => ?_)
              refine lv_dup hx hb dX7_counted_87 rfl ?_
              refine lv_iconst (v := 1) hx hb dX7_counted_88 (by decide) ?_
              refine lv_aload_n hx hb dX7_counted_89 rfl (lv_at hl 3 rfl) ?_
              refine bd_g_X7_players C hR  qf_X7_41 dX7_counted_90 ?_
              rw [show ym 1 0 0 = nI n from (show ry_Sh ym n nb z from hy).1]
              refine bd_ti2 (j := 1) rfl ?_
              refine bd_tst (j := 1) C hR hT hS (by omega) (by omega) dX7_counted_93 (fun H locs hR hT hS => ?_)
              refine lv_dup hx hb dX7_counted_94 rfl ?_
              refine lv_iconst (v := 2) hx hb dX7_counted_95 (by decide) ?_
              refine lv_aload_n hx hb dX7_counted_96 rfl (lv_at hl 3 rfl) ?_
              refine bd_g_X7_bands C hR  qf_X7_48 dX7_counted_97 ?_
              rw [show ym 2 0 0 = nI nb from (show ry_Sh ym n nb z from hy).2.2.1]
              refine bd_ti2 (j := 2) rfl ?_
              refine bd_tst (j := 2) C hR hT hS (by omega) (by omega) dX7_counted_100 (fun H locs hR hT hS => ?_)
              refine lv_dup hx hb dX7_counted_101 rfl ?_
              refine lv_iconst (v := 3) hx hb dX7_counted_102 (by decide) ?_
              refine lv_iload_n hx hb dX7_counted_103 rfl (lv_at hl 2 rfl) ?_
              refine bd_ti2 (j := 3) rfl ?_
              refine bd_tst (j := 3) C hR hT hS (by omega) (by omega) dX7_counted_104 (fun H locs hR hT hS => ?_)
              refine lv_dup hx hb dX7_counted_105 rfl ?_
              refine lv_iconst (v := 4) hx hb dX7_counted_106 (by decide) ?_
              refine lv_iload_n hx hb dX7_counted_107 rfl (lv_at hl 1 rfl) ?_
              refine bd_ti2 (j := 4) rfl ?_
              refine bd_tst (j := 4) C hR hT hS (by omega) (by omega) dX7_counted_108 (fun H locs hR hT hS => ?_)
              refine lv_dup hx hb dX7_counted_109 rfl ?_
              refine lv_iconst (v := 5) hx hb dX7_counted_110 (by decide) ?_
              refine lv_aload_n hx hb dX7_counted_111 rfl (lv_at hl 3 rfl) ?_
              refine bd_g_X7_s C hR  qf_X7_30 dX7_counted_112 ?_
              refine bd_gN_X6_deputies C hR (by decide) (List.mem_of_getElem? (i := 6) rfl) dX7_counted_115 ?_
              refine bd_ti2 (j := 5) rfl ?_
              refine bd_tst (j := 5) C hR hT hS (by omega) (by omega) dX7_counted_118 (fun H locs hR hT hS => ?_)
              refine lv_dup hx hb dX7_counted_119 rfl ?_
              refine lv_bipush (v := 6) hx hb dX7_counted_120 (by decide) ?_
              refine lv_aload_n hx hb dX7_counted_122 rfl (lv_at hl 3 rfl) ?_
              refine bd_g_X7_s C hR  qf_X7_30 dX7_counted_123 ?_
              refine bd_gN_X6_empties C hR (by decide) (List.mem_of_getElem? (i := 7) rfl) dX7_counted_126 ?_
              refine bd_ti2 (j := 6) rfl ?_
              refine bd_tst (j := 6) C hR hT hS (by omega) (by omega) dX7_counted_129 (fun H locs hR hT hS => ?_)
              refine lv_astore (lv' := [(4, .ref q3), (3, .int (ry_aw ym n)), (2, .int (ry_mm ym z nb)), (0, .ref (bd_ea E 12 0 0)), (1, .int (nI q))]) hx hb dX7_counted_130 hl (by decide) rfl (fun ls hl => ?_)
              refine lv_aload hx hb dX7_counted_132 (lv_at hl 0 rfl) ?_
              refine lv_iload_n hx hb dX7_counted_134 rfl (lv_at hl 4 rfl) ?_
              refine bd_tld (j := q) C hT (by omega) (by omega) dX7_counted_135 ?_
              exact bd_ri C hr hlk (hR.eq rfl rfl) hS (by show (0 + 1) ≤ 1; omega) (by show (0 + 7) ≤ 7; omega) dX7_counted_136 (by first | rfl | (rfl))
            · skip
              have nc43 : ¬ n ≤ j := fun q9 => c43 ((nI_leI (a := n) (b := j) (by omega) (by omega)).mpr q9)
              refine lv_iload_n hx hb dX7_counted_46 rfl (lv_at hl 1 rfl) ?_
              refine lv_aload_n hx hb dX7_counted_47 rfl (lv_at hl 3 rfl) ?_
              refine bd_g_X7_s C hR  qf_X7_30 dX7_counted_48 ?_
              refine bd_gN_X6_absent C hR (by decide) (List.mem_of_getElem? (i := 11) rfl) dX7_counted_51 ?_
              refine lv_iload hx hb dX7_counted_54 (lv_at hl 0 rfl) ?_
              refine bd_ld_20 C hR (by decide) (j := j) (by omega) dX7_counted_56 ?_
              refine lv_if_le (tgt := 64) hx hb dX7_counted_57 (by decide) (fun c57 => ?_) (fun c57 => ?_)
              · skip
                refine lv_iconst (v := 0) hx hb dX7_counted_64 (by decide) ?_
                refine lv_iadd hx hb dX7_counted_65 ?_
                refine lv_istore_n (lv' := [(3, .int ((ry_aw ym j) + 0)), (4, .int (nI j)), (2, .int (ry_mm ym z nb)), (0, .ref (bd_ea E 12 0 0)), (1, .int (nI q))]) hx hb dX7_counted_66 rfl hl (by decide) rfl (fun ls hl => ?_)
                refine lv_iinc (v := nI (j + 1)) (lv' := [(4, .int (nI (j + 1))), (3, .int ((ry_aw ym j) + 0)), (2, .int (ry_mm ym z nb)), (0, .ref (bd_ea E 12 0 0)), (1, .int (nI q))]) hx hb dX7_counted_67 hl (k := 1) rfl (nI_1 j) (by decide) rfl (fun ls hl => ?_)
                refine lv_goto (tgt := 37) hx hb dX7_counted_70 (by decide) ?_
                exact ih2 (j + 1) (by omega) (by omega) _ _ (hR.eq rfl rfl) hS _ (by rw [show (ry_aw ym (j + 1) : Int32) = (ry_aw ym j) + 0 from (by first | (simp (config := { decide := true }) only [ry_aw, eq_true c13, eq_true nc13, eq_false c43, eq_false nc43, eq_true c57, ↓reduceIte, not_true_eq_false, not_false_eq_true, and_self, and_true, true_and, and_false, false_and]; done) | rfl)]; exact lv_sub hl [0, 1, 2, 3, 4] rfl)
              · skip
                refine lv_iconst (v := 1) hx hb dX7_counted_60 (by decide) ?_
                refine lv_goto (tgt := 65) hx hb dX7_counted_61 (by decide) ?_
                refine lv_iadd hx hb dX7_counted_65 ?_
                refine lv_istore_n (lv' := [(3, .int ((ry_aw ym j) + 1)), (4, .int (nI j)), (2, .int (ry_mm ym z nb)), (0, .ref (bd_ea E 12 0 0)), (1, .int (nI q))]) hx hb dX7_counted_66 rfl hl (by decide) rfl (fun ls hl => ?_)
                refine lv_iinc (v := nI (j + 1)) (lv' := [(4, .int (nI (j + 1))), (3, .int ((ry_aw ym j) + 1)), (2, .int (ry_mm ym z nb)), (0, .ref (bd_ea E 12 0 0)), (1, .int (nI q))]) hx hb dX7_counted_67 hl (k := 1) rfl (nI_1 j) (by decide) rfl (fun ls hl => ?_)
                refine lv_goto (tgt := 37) hx hb dX7_counted_70 (by decide) ?_
                exact ih2 (j + 1) (by omega) (by omega) _ _ (hR.eq rfl rfl) hS _ (by rw [show (ry_aw ym (j + 1) : Int32) = (ry_aw ym j) + 1 from (by first | (simp (config := { decide := true }) only [ry_aw, eq_true c13, eq_true nc13, eq_false c43, eq_false nc43, eq_false c57, ↓reduceIte, not_true_eq_false, not_false_eq_true, and_self, and_true, true_and, and_false, false_and]; done) | rfl)]; exact lv_sub hl [0, 1, 2, 3, 4] rfl)
        exact lp2 (n + 1) 0 (by omega) (by omega) _ _ (hR.eq rfl rfl) hS _ (by first | exact lv_sub hl [0, 1, 2, 3, 4] rfl | (rw [show (nI 0 : Int32) = 0 from by first | rfl | decide | simp [nI_0]]; rw [show (ry_aw ym 0 : Int32) = 0 from by first | rfl | decide | simp [nI_0]]; exact lv_sub hl [0, 1, 2, 3, 4] rfl))
      · skip
        have nc13 : ¬ nb ≤ j := fun q9 => c13 ((nI_leI (a := nb) (b := j) (by omega) (by omega)).mpr q9)
        refine lv_iload_n hx hb dX7_counted_16 rfl (lv_at hl 2 rfl) ?_
        refine lv_aload_n hx hb dX7_counted_17 rfl (lv_at hl 3 rfl) ?_
        refine bd_g_X7_s C hR  qf_X7_30 dX7_counted_18 ?_
        refine lv_iload hx hb dX7_counted_21 (lv_at hl 0 rfl) ?_
        refine bd_cV1 [.int (nI j)] [.int (ry_mm ym z j)] C (k_X6_members l E xm ym om 0 n nb z j (by omega) hy (by omega)) hR hS (bd_recv C.2 hR ⟨by decide, (by decide), (by decide)⟩ rfl rfl) qm_X7_113 qi_X6_members qs_X6_members qz_X6 qc_X6_members qp_X6_members ⟨Nat.le_of_ble_eq_true rfl, Nat.le_of_ble_eq_true rfl⟩ hl.1 (Nat.le_of_ble_eq_true rfl) dX7_counted_23 ⟨by show 0 + 0 ≤ 1; omega, by show 0 + 0 ≤ 7; omega⟩ (fun H locs hR hS hz23 => ?_)
        refine lv_iadd hx hb dX7_counted_26 ?_
        refine lv_istore_n (lv' := [(2, .int ((ry_mm ym z j) + (ry_me ym 0 j (z j)))), (4, .int (nI j)), (3, .int 0), (0, .ref (bd_ea E 12 0 0)), (1, .int (nI q))]) hx hb dX7_counted_27 rfl hl (by decide) rfl (fun ls hl => ?_)
        refine lv_iinc (v := nI (j + 1)) (lv' := [(4, .int (nI (j + 1))), (2, .int ((ry_mm ym z j) + (ry_me ym 0 j (z j)))), (3, .int 0), (0, .ref (bd_ea E 12 0 0)), (1, .int (nI q))]) hx hb dX7_counted_28 hl (k := 1) rfl (nI_1 j) (by decide) rfl (fun ls hl => ?_)
        refine lv_goto (tgt := 7) hx hb dX7_counted_31 (by decide) ?_
        exact ih1 (j + 1) (by omega) (by omega) _ _ (hR.eq rfl rfl) hS _ (by rw [show (ry_mm ym z (j + 1) : Int32) = (ry_mm ym z j) + (ry_me ym 0 j (z j)) from (by first | (simp (config := { decide := true }) only [ry_mm, eq_false c13, eq_false nc13, ↓reduceIte, not_true_eq_false, not_false_eq_true, and_self, and_true, true_and, and_false, false_and]; done) | rfl)]; exact lv_sub hl [0, 2, 1, 3, 4] rfl)
  exact lp1 (nb + 1) 0 (by omega) (by omega) _ _ (hR.eq rfl rfl) hS _ (by first | exact lv_sub hl [0, 1, 2, 3, 4] rfl | (rw [show (nI 0 : Int32) = 0 from by first | rfl | decide | simp [nI_0]]; rw [show (ry_mm ym z 0 : Int32) = 0 from by first | rfl | decide | simp [nI_0]]; exact lv_sub hl [0, 1, 2, 3, 4] rfl))
set_option maxHeartbeats 4000000 in
set_option maxRecDepth 100000 in
theorem k_X7_count_ok (l : Launch) (E : bd_E) (xm ym : bd_M) (om : Nat → Int64) (n : Nat) (nb : Nat) (z : (Nat→Nat)) (q : Nat) (hy : ry_Sh ym n nb z) (hq : q < 7) : bd_Ct l yX7_count cX7_count 2 (some .int) 2 47 1 7 E [.ref (bd_ea E 12 0 0), .int (nI q)] xm ym om xm (ry_t0 ym) om (some (.int (ry_ct (ry_t0 ym) n nb z q))) := by
  refine bd_open RX7 rfl (by decide) (Nat.le_of_ble_eq_true rfl) ?_
  intro p e s m args below meth c ls C hr hlk hS hR hl
  have hx := C.1.1
  have hb := C.1.2.1
  have hy24 := hy.2.1
  have hy6 := hy.2.2.2.1
  have kq := bd_kL (k := q) (n := 6) (by omega) (by decide)
  have hl : lv_has ls 2 [(0, .ref (bd_ea E 12 0 0)), (1, .int (nI q))] := hl
  refine lv_aload_n hx hb dX7_count_0 rfl (lv_at hl 0 rfl) ?_
  refine lv_iconst (v := 0) hx hb dX7_count_1 (by decide) ?_
  refine bd_p_X7_thrown C hR hS  qf_X7_37 dX7_count_2 (fun H locs hR hS => ?_)
  refine lv_iload_n hx hb dX7_count_5 rfl (lv_at hl 1 rfl) ?_
  refine lv_iconst (v := 0) hx hb dX7_count_6 (by decide) ?_
  refine lv_bipush (v := 6) hx hb dX7_count_7 (by decide) ?_
  refine bd_cS1 [.int (nI q), .int 0, .int 6] [] C (k_X7_isIn l E xm (bd_up ym 0 0 0 0) om (nI q) 0 6 ) hR hS qm_X7_44 qt_X7_isIn qz_X7 qc_X7_isIn qp_X7_isIn.2 ⟨Nat.le_of_ble_eq_true rfl, Nat.le_of_ble_eq_true rfl⟩ hl.1 (Nat.le_of_ble_eq_true rfl) dX7_count_9 ⟨by show 0 + 0 ≤ 1; omega, by show 0 + 0 ≤ 7; omega⟩ (fun H locs hR hS hz9 => ?_)
  refine bd_ifeq (P := ¬ (nI q) < 0 ∧ ¬ 6 < (nI q)) (tgt := 23) C dX7_count_12 (by decide) (fun q9 => absurd kq q9) (fun q9 => ?_)
  refine lv_aload_n hx hb dX7_count_15 rfl (lv_at hl 0 rfl) ?_
  refine lv_iload_n hx hb dX7_count_16 rfl (lv_at hl 1 rfl) ?_
  refine bd_cV1 [.int (nI q)] [] C (k_X7_counted l E xm (bd_up ym 0 0 0 0) om n nb z q (ry_Sh_up hy (by decide)) (by omega)) hR hS (bd_recv C.2 hR ⟨by decide, (by decide), (by decide)⟩ rfl rfl) qm_X7_141 qi_X7_counted qs_X7_counted qz_X7 qc_X7_counted qp_X7_counted ⟨Nat.le_of_ble_eq_true rfl, Nat.le_of_ble_eq_true rfl⟩ hl.1 (Nat.le_of_ble_eq_true rfl) dX7_count_17 ⟨by show 0 + 1 ≤ 1; omega, by show 0 + 7 ≤ 7; omega⟩ (fun H locs hR hS hz17 => ?_)
  refine lv_goto (tgt := 28) hx hb dX7_count_20 (by decide) ?_
  exact bd_ri C hr hlk (hR.eq rfl (by first | (simp (config := { decide := true }) only [↓reduceIte, not_true_eq_false, not_false_eq_true, and_self, and_true, true_and, and_false, false_and]; done) | rfl)) hS (by show (0 + 1) ≤ 1; omega) (by show (0 + 7) ≤ 7; omega) dX7_count_28 (by first | (simp (config := { decide := true }) only [↓reduceIte, not_true_eq_false, not_false_eq_true, and_self, and_true, true_and, and_false, false_and]; done) | rfl)
set_option maxHeartbeats 4000000 in
set_option maxRecDepth 100000 in
theorem k_X7_count_1 (l : Launch) (E : bd_E) (xm ym : bd_M) (om : Nat → Int64) (n : Nat) (nb : Nat) (z : (Nat→Nat)) (u : Int32) (hy : ry_Sh ym n nb z) (h1 : ¬ (¬ u < 0 ∧ ¬ 6 < u)) : bd_Ct l yX7_count cX7_count 2 (some .int) 2 47 1 7 E [.ref (bd_ea E 12 0 0), .int u] xm ym om xm (bd_up (ry_t0 ym) 0 0 0 1) om (some (.int 0)) := by
  refine bd_open RX7 rfl (by decide) (Nat.le_of_ble_eq_true rfl) ?_
  intro p e s m args below meth c ls C hr hlk hS hR hl
  have hx := C.1.1
  have hb := C.1.2.1
  have hy24 := hy.2.1
  have hy6 := hy.2.2.2.1
  have hl : lv_has ls 2 [(0, .ref (bd_ea E 12 0 0)), (1, .int u)] := hl
  refine lv_aload_n hx hb dX7_count_0 rfl (lv_at hl 0 rfl) ?_
  refine lv_iconst (v := 0) hx hb dX7_count_1 (by decide) ?_
  refine bd_p_X7_thrown C hR hS  qf_X7_37 dX7_count_2 (fun H locs hR hS => ?_)
  refine lv_iload_n hx hb dX7_count_5 rfl (lv_at hl 1 rfl) ?_
  refine lv_iconst (v := 0) hx hb dX7_count_6 (by decide) ?_
  refine lv_bipush (v := 6) hx hb dX7_count_7 (by decide) ?_
  refine bd_cS1 [.int u, .int 0, .int 6] [] C (k_X7_isIn l E xm (bd_up ym 0 0 0 0) om u 0 6 ) hR hS qm_X7_44 qt_X7_isIn qz_X7 qc_X7_isIn qp_X7_isIn.2 ⟨Nat.le_of_ble_eq_true rfl, Nat.le_of_ble_eq_true rfl⟩ hl.1 (Nat.le_of_ble_eq_true rfl) dX7_count_9 ⟨by show 0 + 0 ≤ 1; omega, by show 0 + 0 ≤ 7; omega⟩ (fun H locs hR hS hz9 => ?_)
  refine bd_ifeq (P := ¬ u < 0 ∧ ¬ 6 < u) (tgt := 23) C dX7_count_12 (by decide) (fun q9 => ?_) (fun q9 => absurd q9 h1)
  refine lv_aload_n hx hb dX7_count_23 rfl (lv_at hl 0 rfl) ?_
  refine lv_iconst (v := 1) hx hb dX7_count_24 (by decide) ?_
  refine bd_cV1 [.int 1] [] C (k_X7_no l E xm (bd_up ym 0 0 0 0) om 1 ) hR hS (bd_recv C.2 hR ⟨by decide, (by decide), (by decide)⟩ rfl rfl) qm_X7_55 qi_X7_no qs_X7_no qz_X7 qc_X7_no qp_X7_no ⟨Nat.le_of_ble_eq_true rfl, Nat.le_of_ble_eq_true rfl⟩ hl.1 (Nat.le_of_ble_eq_true rfl) dX7_count_25 ⟨by show 0 + 0 ≤ 1; omega, by show 0 + 0 ≤ 7; omega⟩ (fun H locs hR hS hz25 => ?_)
  exact bd_ri C hr hlk (hR.eq rfl (by first | (simp (config := { decide := true }) only [↓reduceIte, not_true_eq_false, not_false_eq_true, and_self, and_true, true_and, and_false, false_and]; done) | rfl)) hS (by show 0 ≤ 1; omega) (by show 0 ≤ 7; omega) dX7_count_28 rfl
set_option maxHeartbeats 4000000 in
set_option maxRecDepth 100000 in
theorem k_X7_foresee_ok (l : Launch) (E : bd_E) (xm ym : bd_M) (om : Nat → Int64) (n : Nat) (nb : Nat) (z : (Nat→Nat)) (t : Nat) (b : Nat) (g : Nat) (q : Nat) (hy : ry_Sh ym n nb z) (hm : ry_Mb ym 0 n nb z) (ht : ym 10 0 0 = nI t) (ht2 : t < 1073741800) (hb : b < nb) (hg : 1 ≤ g) (hg2 : g ≤ 20) (hq : q < 4) : bd_Ct l yX7_foresee cX7_foresee 5 (some .int) 4 108 120 480 E [.ref (bd_ea E 12 0 0), .int (nI b), .int (nI g), .int (nI q)] xm ym om xm (ry_fs (ry_bec (ry_t0 ym) 1 0) n nb z t g) om (some (.int (ry_fe (ry_fs (ry_bec (ry_t0 ym) 1 0) n nb z t g) b q))) := by
  refine bd_open RX7 rfl (by decide) (Nat.le_of_ble_eq_true rfl) ?_
  intro p e s m args below meth c ls C hr hlk hS hR hl
  have hx := C.1.1
  have hb := C.1.2.1
  have hy24 := hy.2.1
  have hy6 := hy.2.2.2.1
  have kb := bd_kP (by omega : b < nb) (by omega)
  have kq := bd_kL (k := q) (n := 3) (by omega) (by decide)
  have kg : ¬ nI g < 1 ∧ ¬ 20 < nI g := ⟨fun q9 => absurd ((nI_ltI (a := g) (b := 1) (by omega) (by decide)).mp q9) (by omega), fun q9 => absurd ((nI_ltI (a := 20) (b := g) (by decide) (by omega)).mp q9) (by omega)⟩
  have hyO := hy
  have hmT : ry_Mb (ry_t0 ym) 0 n nb z := ry_Mb_of hm (fun q9 => bd_up_f (by decide))
  have hmB := ry_Mb_bec hmT hy6 (fun b9 h9 => (hy.2.2.2.2.1 b9 h9).2)
  have htB : ry_bec (ry_t0 ym) 1 0 10 1 0 = nI t := by rw [ry_bec_10, ry_t0, bd_up_f (by decide)]; exact ht
  have hl : lv_has ls 5 [(0, .ref (bd_ea E 12 0 0)), (1, .int (nI b)), (2, .int (nI g)), (3, .int (nI q))] := hl
  refine lv_aload_n hx hb dX7_foresee_0 rfl (lv_at hl 0 rfl) ?_
  refine lv_iconst (v := 0) hx hb dX7_foresee_1 (by decide) ?_
  refine bd_p_X7_thrown C hR hS  qf_X7_37 dX7_foresee_2 (fun H locs hR hS => ?_)
  refine lv_aload_n hx hb dX7_foresee_5 rfl (lv_at hl 0 rfl) ?_
  refine lv_iload_n hx hb dX7_foresee_6 rfl (lv_at hl 1 rfl) ?_
  refine bd_cV1 [.int (nI b)] [] C (k_X7_isBand l E xm (bd_up ym 0 0 0 0) om n nb z (nI b) (ry_Sh_up hy (by decide))) hR hS (bd_recv C.2 hR ⟨by decide, (by decide), (by decide)⟩ rfl rfl) qm_X7_51 qi_X7_isBand qs_X7_isBand qz_X7 qc_X7_isBand qp_X7_isBand ⟨Nat.le_of_ble_eq_true rfl, Nat.le_of_ble_eq_true rfl⟩ hl.1 (Nat.le_of_ble_eq_true rfl) dX7_foresee_7 ⟨by show 0 + 0 ≤ 120; omega, by show 0 + 0 ≤ 480; omega⟩ (fun H locs hR hS hz7 => ?_)
  refine bd_ifeq (P := ¬ (nI b) < 0 ∧ (nI b) < nI nb) (tgt := 22) C dX7_foresee_10 (by decide) (fun q9 => absurd kb q9) (fun q9 => ?_)
  refine lv_iload_n hx hb dX7_foresee_13 rfl (lv_at hl 3 rfl) ?_
  refine lv_iconst (v := 0) hx hb dX7_foresee_14 (by decide) ?_
  refine lv_iconst (v := 3) hx hb dX7_foresee_15 (by decide) ?_
  refine bd_cS1 [.int (nI q), .int 0, .int 3] [] C (k_X7_isIn l E xm (bd_up ym 0 0 0 0) om (nI q) 0 3 ) hR hS qm_X7_44 qt_X7_isIn qz_X7 qc_X7_isIn qp_X7_isIn.2 ⟨Nat.le_of_ble_eq_true rfl, Nat.le_of_ble_eq_true rfl⟩ hl.1 (Nat.le_of_ble_eq_true rfl) dX7_foresee_16 ⟨by show 0 + 0 ≤ 120; omega, by show 0 + 0 ≤ 480; omega⟩ (fun H locs hR hS hz16 => ?_)
  refine bd_ifne (P := ¬ (nI q) < 0 ∧ ¬ 3 < (nI q)) (tgt := 28) C dX7_foresee_19 (by decide) (fun q9 => ?_) (fun q9 => absurd kq q9)
  refine lv_iload_n hx hb dX7_foresee_28 rfl (lv_at hl 2 rfl) ?_
  refine lv_iconst (v := 1) hx hb dX7_foresee_29 (by decide) ?_
  refine lv_bipush (v := 20) hx hb dX7_foresee_30 (by decide) ?_
  refine bd_cS1 [.int (nI g), .int 1, .int 20] [] C (k_X7_isIn l E xm (bd_up ym 0 0 0 0) om (nI g) 1 20 ) hR hS qm_X7_44 qt_X7_isIn qz_X7 qc_X7_isIn qp_X7_isIn.2 ⟨Nat.le_of_ble_eq_true rfl, Nat.le_of_ble_eq_true rfl⟩ hl.1 (Nat.le_of_ble_eq_true rfl) dX7_foresee_32 ⟨by show 0 + 0 ≤ 120; omega, by show 0 + 0 ≤ 480; omega⟩ (fun H locs hR hS hz32 => ?_)
  refine bd_ifne (P := ¬ (nI g) < 1 ∧ ¬ 20 < (nI g)) (tgt := 44) C dX7_foresee_35 (by decide) (fun q9 => ?_) (fun q9 => absurd kg q9)
  refine lv_aload_n hx hb dX7_foresee_44 rfl (lv_at hl 0 rfl) ?_
  refine bd_g_X7_ahead C hR  qf_X7_34 dX7_foresee_45 ?_
  refine lv_aload_n hx hb dX7_foresee_48 rfl (lv_at hl 0 rfl) ?_
  refine bd_g_X7_s C hR  qf_X7_30 dX7_foresee_49 ?_
  refine bd_cV0 [.ref (bd_ea E 18 0 0)] [] C (k_X6_become l E xm (bd_up ym 0 0 0 0) om 1 0 n nb z (by omega) (by omega) (ry_Sh_up hy (by decide))) hR hS (bd_recv C.2 hR ⟨by decide, (by decide), (by decide)⟩ rfl rfl) qm_X7_144 qi_X6_become qs_X6_become qz_X6 qc_X6_become qp_X6_become ⟨Nat.le_of_ble_eq_true rfl, Nat.le_of_ble_eq_true rfl⟩ hl.1 (Nat.le_of_ble_eq_true rfl) dX7_foresee_52 ⟨by show 0 + 0 ≤ 120; omega, by show 0 + 0 ≤ 480; omega⟩ (fun H locs hR hS hz52 => ?_)
  refine lv_iconst (v := 0) hx hb dX7_foresee_55 (by decide) ?_
  refine lv_istore (lv' := [(4, .int 0), (0, .ref (bd_ea E 12 0 0)), (1, .int (nI b)), (2, .int (nI g)), (3, .int (nI q))]) hx hb dX7_foresee_56 hl (by decide) rfl (fun ls hl => ?_)
  have lp1 : ∀ (t1 j : Nat), j ≤ g → g - j < t1 → ∀ (H : Heap) (locs : List Loc), bd_Rep E xm (ry_fs (ry_bec (ry_t0 ym) 1 0) n nb z t j) om H → va_S (bd_A E) s.heap H locs → ∀ (ls : Array Slot), lv_has ls 5 [(4, .int (nI j)), (0, .ref (bd_ea E 12 0 0)), (1, .int (nI b)), (2, .int (nI g)), (3, .int (nI q))] → W p l e { frames := 4, cells := 120, slots := 480, locals := 108 } s m args below meth c H locs (6 * j) (24 * j) (MQ below (bd_Q E xm (ry_fs (ry_bec (ry_t0 ym) 1 0) n nb z t g) om (some (.int (ry_fe (ry_fs (ry_bec (ry_t0 ym) 1 0) n nb z t g) b q)))) args s 120 480 (bd_A E)) (F0 m 58 ls []) := by
    intro t1
    induction t1 with
    | zero => intro j h1 h2; exact absurd h2 (Nat.not_lt_zero _)
    | succ t1 ih1 =>
      intro j hj1 hj2 H locs hR hS ls hl
      refine lv_iload hx hb dX7_foresee_58 (lv_at hl 0 rfl) ?_
      refine lv_iload_n hx hb dX7_foresee_60 rfl (lv_at hl 3 rfl) ?_
      refine lv_icmp_ge (tgt := 78) hx hb dX7_foresee_61 (by decide) (fun c61 => ?_) (fun c61 => ?_)
      · skip
        have nc61 : g ≤ j := (nI_leI (a := g) (b := j) (by omega) (by omega)).mp c61
        obtain rfl : g = j := by omega
        refine lv_iload_n hx hb dX7_foresee_78 rfl (lv_at hl 4 rfl) ?_
        refine lv_iconst (v := 3) hx hb dX7_foresee_79 (by decide) ?_
        refine lv_icmp_ge (tgt := 99) hx hb dX7_foresee_80 (by decide) (fun c80 => ?_) (fun c80 => ?_)
        · skip
          have nc80 : 3 ≤ q := (nI_leI (a := 3) (b := q) (by omega) (by omega)).mp c80
          refine lv_aload_n hx hb dX7_foresee_99 rfl (lv_at hl 1 rfl) ?_
          refine bd_g_X7_ahead C hR  qf_X7_34 dX7_foresee_100 ?_
          refine bd_gN_X6_points C hR (by decide) (List.mem_of_getElem? (i := 3) rfl) dX7_foresee_103 ?_
          refine lv_iload_n hx hb dX7_foresee_106 rfl (lv_at hl 2 rfl) ?_
          refine bd_ld_26 C hR (by decide) (j := b) (by omega) dX7_foresee_107 ?_
          exact bd_ri C hr hlk (hR.eq rfl rfl) hS (by show 6 * g ≤ 120; omega) (by show 24 * g ≤ 480; omega) dX7_foresee_108 (by first | rfl | (rw [ry_fe, if_pos nc80]))
        · skip
          have nc80 : ¬ 3 ≤ q := fun q9 => c80 ((nI_leI (a := 3) (b := q) (by omega) (by omega)).mpr q9)
          refine lv_aload_n hx hb dX7_foresee_83 rfl (lv_at hl 1 rfl) ?_
          refine bd_g_X7_ahead C hR  qf_X7_34 dX7_foresee_84 ?_
          refine bd_gN_X6_latest C hR (by decide) (List.mem_of_getElem? (i := 10) rfl) dX7_foresee_87 ?_
          refine lv_iconst (v := 4) hx hb dX7_foresee_90 (by decide) ?_
          refine lv_iload_n hx hb dX7_foresee_91 rfl (lv_at hl 2 rfl) ?_
          refine lv_imul hx hb dX7_foresee_92 ?_
          refine bd_ti (j := 4 * b) (pk_mul 4 b) ?_
          refine lv_iload_n hx hb dX7_foresee_93 rfl (lv_at hl 4 rfl) ?_
          refine lv_iadd hx hb dX7_foresee_94 ?_
          refine bd_ti (j := (4 * b) + q) (nI_add (4 * b) q) ?_
          refine bd_ld_28 C hR (by decide) (j := ((4 * b) + q)) (by omega) dX7_foresee_95 ?_
          refine lv_goto (tgt := 108) hx hb dX7_foresee_96 (by decide) ?_
          exact bd_ri C hr hlk (hR.eq rfl rfl) hS (by show 6 * g ≤ 120; omega) (by show 24 * g ≤ 480; omega) dX7_foresee_108 (by first | rfl | (rw [ry_fe, if_neg nc80]))
      · skip
        have nc61 : ¬ g ≤ j := fun q9 => c61 ((nI_leI (a := g) (b := j) (by omega) (by omega)).mpr q9)
        refine lv_aload_n hx hb dX7_foresee_64 rfl (lv_at hl 1 rfl) ?_
        refine bd_g_X7_ahead C hR  qf_X7_34 dX7_foresee_65 ?_
        refine bd_cV1 [] [] C (k_X6_contest l E xm (ry_fs (ry_bec (ry_t0 ym) 1 0) n nb z t j) om 1 n nb z (t + j) (by omega) (ry_fs_sh (ry_bec_sh (ry_Sh_up hyO (by decide))) j) (ry_Mb_of hmB (fun q9 => ry_fs_23 j)) (ry_fs_10 htB j) (by omega) (by omega)) hR hS (bd_recv C.2 hR ⟨by decide, (by decide), (by decide)⟩ rfl rfl) qm_X7_128 qi_X6_contest qs_X6_contest qz_X6 qc_X6_contest qp_X6_contest ⟨Nat.le_of_ble_eq_true rfl, Nat.le_of_ble_eq_true rfl⟩ hl.1 (Nat.le_of_ble_eq_true rfl) dX7_foresee_68 ⟨by show 6 * j + 6 ≤ 120; omega, by show 24 * j + 24 ≤ 480; omega⟩ (fun H locs hR hS hz68 => ?_)
        refine lv_pop hx hb dX7_foresee_71 rfl ?_
        refine lv_iinc (v := nI (j + 1)) (lv' := [(4, .int (nI (j + 1))), (0, .ref (bd_ea E 12 0 0)), (1, .int (nI b)), (2, .int (nI g)), (3, .int (nI q))]) hx hb dX7_foresee_72 hl (k := 0) rfl (nI_1 j) (by decide) rfl (fun ls hl => ?_)
        refine lv_goto (tgt := 58) hx hb dX7_foresee_75 (by decide) ?_
        refine W.widen (k := 6 * (j + 1)) (n := 24 * (j + 1)) (by show (6 * j + 6) ≤ 6 * (j + 1); omega) (by show (24 * j + 24) ≤ 24 * (j + 1); omega) ?_
        exact ih1 (j + 1) (by omega) (by omega) _ _ (hR.eq rfl (by first | (simp (config := { decide := true }) only [ry_fs, eq_false c61, eq_false nc61, ↓reduceIte, not_true_eq_false, not_false_eq_true, and_self, and_true, true_and, and_false, false_and]; done) | rfl)) hS _ (lv_sub hl [0, 1, 2, 3, 4] rfl)
  refine W.widen (k := 6 * 0) (n := 24 * 0) (by show 0 ≤ 6 * 0; omega) (by show 0 ≤ 24 * 0; omega) ?_
  exact lp1 (g + 1) 0 (by omega) (by omega) _ _ (hR.eq rfl rfl) hS _ (by first | exact lv_sub hl [0, 1, 2, 3, 4] rfl | (rw [show (nI 0 : Int32) = 0 from by first | rfl | decide | simp [nI_0]]; exact lv_sub hl [0, 1, 2, 3, 4] rfl))
set_option maxHeartbeats 4000000 in
set_option maxRecDepth 100000 in
theorem k_X7_foresee_1 (l : Launch) (E : bd_E) (xm ym : bd_M) (om : Nat → Int64) (n : Nat) (nb : Nat) (z : (Nat→Nat)) (u : Int32) (v : Int32) (g : Int32) (hy : ry_Sh ym n nb z) (h1 : ¬ ((¬ u < 0 ∧ u < nI nb) ∧ ¬ g < 0 ∧ ¬ 3 < g)) : bd_Ct l yX7_foresee cX7_foresee 5 (some .int) 4 108 120 480 E [.ref (bd_ea E 12 0 0), .int u, .int v, .int g] xm ym om xm (bd_up (ry_t0 ym) 0 0 0 1) om (some (.int 0)) := by
  refine bd_open RX7 rfl (by decide) (Nat.le_of_ble_eq_true rfl) ?_
  intro p e s m args below meth c ls C hr hlk hS hR hl
  have hx := C.1.1
  have hb := C.1.2.1
  have hy24 := hy.2.1
  have hy6 := hy.2.2.2.1
  have hl : lv_has ls 5 [(0, .ref (bd_ea E 12 0 0)), (1, .int u), (2, .int v), (3, .int g)] := hl
  refine lv_aload_n hx hb dX7_foresee_0 rfl (lv_at hl 0 rfl) ?_
  refine lv_iconst (v := 0) hx hb dX7_foresee_1 (by decide) ?_
  refine bd_p_X7_thrown C hR hS  qf_X7_37 dX7_foresee_2 (fun H locs hR hS => ?_)
  refine lv_aload_n hx hb dX7_foresee_5 rfl (lv_at hl 0 rfl) ?_
  refine lv_iload_n hx hb dX7_foresee_6 rfl (lv_at hl 1 rfl) ?_
  refine bd_cV1 [.int u] [] C (k_X7_isBand l E xm (bd_up ym 0 0 0 0) om n nb z u (ry_Sh_up hy (by decide))) hR hS (bd_recv C.2 hR ⟨by decide, (by decide), (by decide)⟩ rfl rfl) qm_X7_51 qi_X7_isBand qs_X7_isBand qz_X7 qc_X7_isBand qp_X7_isBand ⟨Nat.le_of_ble_eq_true rfl, Nat.le_of_ble_eq_true rfl⟩ hl.1 (Nat.le_of_ble_eq_true rfl) dX7_foresee_7 ⟨by show 0 + 0 ≤ 120; omega, by show 0 + 0 ≤ 480; omega⟩ (fun H locs hR hS hz7 => ?_)
  refine bd_ifeq (P := ¬ u < 0 ∧ u < nI nb) (tgt := 22) C dX7_foresee_10 (by decide) (fun c10 => ?_) (fun c10 => ?_)
  · skip
    refine lv_aload_n hx hb dX7_foresee_22 rfl (lv_at hl 0 rfl) ?_
    refine lv_iconst (v := 1) hx hb dX7_foresee_23 (by decide) ?_
    refine bd_cV1 [.int 1] [] C (k_X7_no l E xm (bd_up ym 0 0 0 0) om 1 ) hR hS (bd_recv C.2 hR ⟨by decide, (by decide), (by decide)⟩ rfl rfl) qm_X7_55 qi_X7_no qs_X7_no qz_X7 qc_X7_no qp_X7_no ⟨Nat.le_of_ble_eq_true rfl, Nat.le_of_ble_eq_true rfl⟩ hl.1 (Nat.le_of_ble_eq_true rfl) dX7_foresee_24 ⟨by show 0 + 0 ≤ 120; omega, by show 0 + 0 ≤ 480; omega⟩ (fun H locs hR hS hz24 => ?_)
    exact bd_ri C hr hlk (hR.eq rfl (by first | (simp (config := { decide := true }) only [eq_false c10, ↓reduceIte, not_true_eq_false, not_false_eq_true, and_self, and_true, true_and, and_false, false_and]; done) | rfl)) hS (by show 0 ≤ 120; omega) (by show 0 ≤ 480; omega) dX7_foresee_27 rfl
  · skip
    refine lv_iload_n hx hb dX7_foresee_13 rfl (lv_at hl 3 rfl) ?_
    refine lv_iconst (v := 0) hx hb dX7_foresee_14 (by decide) ?_
    refine lv_iconst (v := 3) hx hb dX7_foresee_15 (by decide) ?_
    refine bd_cS1 [.int g, .int 0, .int 3] [] C (k_X7_isIn l E xm (bd_up ym 0 0 0 0) om g 0 3 ) hR hS qm_X7_44 qt_X7_isIn qz_X7 qc_X7_isIn qp_X7_isIn.2 ⟨Nat.le_of_ble_eq_true rfl, Nat.le_of_ble_eq_true rfl⟩ hl.1 (Nat.le_of_ble_eq_true rfl) dX7_foresee_16 ⟨by show 0 + 0 ≤ 120; omega, by show 0 + 0 ≤ 480; omega⟩ (fun H locs hR hS hz16 => ?_)
    refine bd_ifne (P := ¬ g < 0 ∧ ¬ 3 < g) (tgt := 28) C dX7_foresee_19 (by decide) (fun c19 => ?_) (fun c19 => ?_)
    · exact absurd ⟨c10, c19⟩ h1
    · skip
      refine lv_aload_n hx hb dX7_foresee_22 rfl (lv_at hl 0 rfl) ?_
      refine lv_iconst (v := 1) hx hb dX7_foresee_23 (by decide) ?_
      refine bd_cV1 [.int 1] [] C (k_X7_no l E xm (bd_up ym 0 0 0 0) om 1 ) hR hS (bd_recv C.2 hR ⟨by decide, (by decide), (by decide)⟩ rfl rfl) qm_X7_55 qi_X7_no qs_X7_no qz_X7 qc_X7_no qp_X7_no ⟨Nat.le_of_ble_eq_true rfl, Nat.le_of_ble_eq_true rfl⟩ hl.1 (Nat.le_of_ble_eq_true rfl) dX7_foresee_24 ⟨by show 0 + 0 ≤ 120; omega, by show 0 + 0 ≤ 480; omega⟩ (fun H locs hR hS hz24 => ?_)
      exact bd_ri C hr hlk (hR.eq rfl (by first | (simp (config := { decide := true }) only [eq_true c10, eq_false c19, ↓reduceIte, not_true_eq_false, not_false_eq_true, and_self, and_true, true_and, and_false, false_and]; done) | rfl)) hS (by show 0 ≤ 120; omega) (by show 0 ≤ 480; omega) dX7_foresee_27 rfl
set_option maxHeartbeats 4000000 in
set_option maxRecDepth 100000 in
theorem k_X7_foresee_2 (l : Launch) (E : bd_E) (xm ym : bd_M) (om : Nat → Int64) (n : Nat) (nb : Nat) (z : (Nat→Nat)) (u : Int32) (v : Int32) (g : Int32) (hy : ry_Sh ym n nb z) (h1 : ((¬ u < 0 ∧ u < nI nb) ∧ ¬ g < 0 ∧ ¬ 3 < g)) (h2 : ¬ (¬ v < 1 ∧ ¬ 20 < v)) : bd_Ct l yX7_foresee cX7_foresee 5 (some .int) 4 108 120 480 E [.ref (bd_ea E 12 0 0), .int u, .int v, .int g] xm ym om xm (bd_up (ry_t0 ym) 0 0 0 2) om (some (.int 0)) := by
  refine bd_open RX7 rfl (by decide) (Nat.le_of_ble_eq_true rfl) ?_
  intro p e s m args below meth c ls C hr hlk hS hR hl
  have hx := C.1.1
  have hb := C.1.2.1
  have hy24 := hy.2.1
  have hy6 := hy.2.2.2.1
  have k1 := h1.1
  have k2 := h1.2
  have hl : lv_has ls 5 [(0, .ref (bd_ea E 12 0 0)), (1, .int u), (2, .int v), (3, .int g)] := hl
  refine lv_aload_n hx hb dX7_foresee_0 rfl (lv_at hl 0 rfl) ?_
  refine lv_iconst (v := 0) hx hb dX7_foresee_1 (by decide) ?_
  refine bd_p_X7_thrown C hR hS  qf_X7_37 dX7_foresee_2 (fun H locs hR hS => ?_)
  refine lv_aload_n hx hb dX7_foresee_5 rfl (lv_at hl 0 rfl) ?_
  refine lv_iload_n hx hb dX7_foresee_6 rfl (lv_at hl 1 rfl) ?_
  refine bd_cV1 [.int u] [] C (k_X7_isBand l E xm (bd_up ym 0 0 0 0) om n nb z u (ry_Sh_up hy (by decide))) hR hS (bd_recv C.2 hR ⟨by decide, (by decide), (by decide)⟩ rfl rfl) qm_X7_51 qi_X7_isBand qs_X7_isBand qz_X7 qc_X7_isBand qp_X7_isBand ⟨Nat.le_of_ble_eq_true rfl, Nat.le_of_ble_eq_true rfl⟩ hl.1 (Nat.le_of_ble_eq_true rfl) dX7_foresee_7 ⟨by show 0 + 0 ≤ 120; omega, by show 0 + 0 ≤ 480; omega⟩ (fun H locs hR hS hz7 => ?_)
  refine bd_ifeq (P := ¬ u < 0 ∧ u < nI nb) (tgt := 22) C dX7_foresee_10 (by decide) (fun q9 => absurd k1 q9) (fun q9 => ?_)
  refine lv_iload_n hx hb dX7_foresee_13 rfl (lv_at hl 3 rfl) ?_
  refine lv_iconst (v := 0) hx hb dX7_foresee_14 (by decide) ?_
  refine lv_iconst (v := 3) hx hb dX7_foresee_15 (by decide) ?_
  refine bd_cS1 [.int g, .int 0, .int 3] [] C (k_X7_isIn l E xm (bd_up ym 0 0 0 0) om g 0 3 ) hR hS qm_X7_44 qt_X7_isIn qz_X7 qc_X7_isIn qp_X7_isIn.2 ⟨Nat.le_of_ble_eq_true rfl, Nat.le_of_ble_eq_true rfl⟩ hl.1 (Nat.le_of_ble_eq_true rfl) dX7_foresee_16 ⟨by show 0 + 0 ≤ 120; omega, by show 0 + 0 ≤ 480; omega⟩ (fun H locs hR hS hz16 => ?_)
  refine bd_ifne (P := ¬ g < 0 ∧ ¬ 3 < g) (tgt := 28) C dX7_foresee_19 (by decide) (fun q9 => ?_) (fun q9 => absurd k2 q9)
  refine lv_iload_n hx hb dX7_foresee_28 rfl (lv_at hl 2 rfl) ?_
  refine lv_iconst (v := 1) hx hb dX7_foresee_29 (by decide) ?_
  refine lv_bipush (v := 20) hx hb dX7_foresee_30 (by decide) ?_
  refine bd_cS1 [.int v, .int 1, .int 20] [] C (k_X7_isIn l E xm (bd_up ym 0 0 0 0) om v 1 20 ) hR hS qm_X7_44 qt_X7_isIn qz_X7 qc_X7_isIn qp_X7_isIn.2 ⟨Nat.le_of_ble_eq_true rfl, Nat.le_of_ble_eq_true rfl⟩ hl.1 (Nat.le_of_ble_eq_true rfl) dX7_foresee_32 ⟨by show 0 + 0 ≤ 120; omega, by show 0 + 0 ≤ 480; omega⟩ (fun H locs hR hS hz32 => ?_)
  refine bd_ifne (P := ¬ v < 1 ∧ ¬ 20 < v) (tgt := 44) C dX7_foresee_35 (by decide) (fun q9 => absurd q9 h2) (fun q9 => ?_)
  refine lv_aload_n hx hb dX7_foresee_38 rfl (lv_at hl 0 rfl) ?_
  refine lv_iconst (v := 2) hx hb dX7_foresee_39 (by decide) ?_
  refine bd_cV1 [.int 2] [] C (k_X7_no l E xm (bd_up ym 0 0 0 0) om 2 ) hR hS (bd_recv C.2 hR ⟨by decide, (by decide), (by decide)⟩ rfl rfl) qm_X7_55 qi_X7_no qs_X7_no qz_X7 qc_X7_no qp_X7_no ⟨Nat.le_of_ble_eq_true rfl, Nat.le_of_ble_eq_true rfl⟩ hl.1 (Nat.le_of_ble_eq_true rfl) dX7_foresee_40 ⟨by show 0 + 0 ≤ 120; omega, by show 0 + 0 ≤ 480; omega⟩ (fun H locs hR hS hz40 => ?_)
  exact bd_ri C hr hlk (hR.eq rfl (by first | (simp (config := { decide := true }) only [↓reduceIte, not_true_eq_false, not_false_eq_true, and_self, and_true, true_and, and_false, false_and]; done) | rfl)) hS (by show 0 ≤ 120; omega) (by show 0 ≤ 480; omega) dX7_foresee_43 rfl
set_option maxHeartbeats 4000000 in
set_option maxRecDepth 100000 in
theorem k_X7_advise_ok (l : Launch) (E : bd_E) (xm ym : bd_M) (om : Nat → Int64) (n : Nat) (nb : Nat) (z : (Nat→Nat)) (t : Nat) (b : Nat) (hy : ry_Sh ym n nb z) (hm : ry_Mb ym 0 n nb z) (ht : ym 10 0 0 = nI t) (ht2 : t < 1073741800) (hb : b < nb) : bd_Ct l yX7_advise cX7_advise 6 (some .int) 4 108 390 1560 E [.ref (bd_ea E 12 0 0), .int (nI b)] xm ym om xm ((ry_ao (ry_t0 ym) n nb z t b (z b)).1) om (some (.int ((ry_ao (ry_t0 ym) n nb z t b (z b)).2.2))) := by
  refine bd_open RX7 rfl (by decide) (Nat.le_of_ble_eq_true rfl) ?_
  intro p e s m args below meth c ls C hr hlk hS hR hl
  have hx := C.1.1
  have hb := C.1.2.1
  have hy24 := hy.2.1
  have hy6 := hy.2.2.2.1
  have kb := bd_kP (by omega : b < nb) (by omega)
  have z8 := (hy.2.2.2.2.1 b (by omega)).2
  have hyO := hy
  have hmT : ry_Mb (ry_t0 ym) 0 n nb z := ry_Mb_of hm (fun q9 => bd_up_f (by decide))
  have htT : ry_t0 ym 10 0 0 = nI t := by rw [ry_t0, bd_up_f (by decide)]; exact ht
  have hl : lv_has ls 6 [(0, .ref (bd_ea E 12 0 0)), (1, .int (nI b))] := hl
  refine lv_aload_n hx hb dX7_advise_0 rfl (lv_at hl 0 rfl) ?_
  refine lv_iconst (v := 0) hx hb dX7_advise_1 (by decide) ?_
  refine bd_p_X7_thrown C hR hS  qf_X7_37 dX7_advise_2 (fun H locs hR hS => ?_)
  refine lv_aload_n hx hb dX7_advise_5 rfl (lv_at hl 0 rfl) ?_
  refine lv_iload_n hx hb dX7_advise_6 rfl (lv_at hl 1 rfl) ?_
  refine bd_cV1 [.int (nI b)] [] C (k_X7_isBand l E xm (bd_up ym 0 0 0 0) om n nb z (nI b) (ry_Sh_up hy (by decide))) hR hS (bd_recv C.2 hR ⟨by decide, (by decide), (by decide)⟩ rfl rfl) qm_X7_51 qi_X7_isBand qs_X7_isBand qz_X7 qc_X7_isBand qp_X7_isBand ⟨Nat.le_of_ble_eq_true rfl, Nat.le_of_ble_eq_true rfl⟩ hl.1 (Nat.le_of_ble_eq_true rfl) dX7_advise_7 ⟨by show 0 + 0 ≤ 390; omega, by show 0 + 0 ≤ 1560; omega⟩ (fun H locs hR hS hz7 => ?_)
  refine bd_ifne (P := ¬ (nI b) < 0 ∧ (nI b) < nI nb) (tgt := 19) C dX7_advise_10 (by decide) (fun q9 => ?_) (fun q9 => absurd kb q9)
  refine lv_aload_n hx hb dX7_advise_19 rfl (lv_at hl 0 rfl) ?_
  refine bd_g_X7_ahead C hR  qf_X7_34 dX7_advise_20 ?_
  refine lv_aload_n hx hb dX7_advise_23 rfl (lv_at hl 0 rfl) ?_
  refine bd_g_X7_s C hR  qf_X7_30 dX7_advise_24 ?_
  refine bd_cV0 [.ref (bd_ea E 18 0 0)] [] C (k_X6_become l E xm (bd_up ym 0 0 0 0) om 1 0 n nb z (by omega) (by omega) (ry_Sh_up hy (by decide))) hR hS (bd_recv C.2 hR ⟨by decide, (by decide), (by decide)⟩ rfl rfl) qm_X7_144 qi_X6_become qs_X6_become qz_X6 qc_X6_become qp_X6_become ⟨Nat.le_of_ble_eq_true rfl, Nat.le_of_ble_eq_true rfl⟩ hl.1 (Nat.le_of_ble_eq_true rfl) dX7_advise_27 ⟨by show 0 + 0 ≤ 390; omega, by show 0 + 0 ≤ 1560; omega⟩ (fun H locs hR hS hz27 => ?_)
  refine lv_aload_n hx hb dX7_advise_30 rfl (lv_at hl 0 rfl) ?_
  refine bd_g_X7_ahead C hR  qf_X7_34 dX7_advise_31 ?_
  refine bd_cV1 [] [] C (k_X6_contest l E xm (ry_bec (bd_up ym 0 0 0 0) 1 0) om 1 n nb z t (by omega) (ry_bec_sh (ry_Sh_up hy (by decide))) (ry_Mb_bec hmT hy6 (fun b9 h9 => (hy.2.2.2.2.1 b9 h9).2)) (by rw [ry_bec_10]; exact htT) (by omega) (by omega)) hR hS (bd_recv C.2 hR ⟨by decide, (by decide), (by decide)⟩ rfl rfl) qm_X7_128 qi_X6_contest qs_X6_contest qz_X6 qc_X6_contest qp_X6_contest ⟨Nat.le_of_ble_eq_true rfl, Nat.le_of_ble_eq_true rfl⟩ hl.1 (Nat.le_of_ble_eq_true rfl) dX7_advise_34 ⟨by show 0 + 6 ≤ 390; omega, by show 0 + 24 ≤ 1560; omega⟩ (fun H locs hR hS hz34 => ?_)
  refine lv_pop hx hb dX7_advise_37 rfl ?_
  refine lv_aload_n hx hb dX7_advise_38 rfl (lv_at hl 0 rfl) ?_
  refine bd_g_X7_ahead C hR  qf_X7_34 dX7_advise_39 ?_
  refine bd_gN_X6_latest C hR (by decide) (List.mem_of_getElem? (i := 10) rfl) dX7_advise_42 ?_
  refine lv_iconst (v := 4) hx hb dX7_advise_45 (by decide) ?_
  refine lv_iload_n hx hb dX7_advise_46 rfl (lv_at hl 1 rfl) ?_
  refine lv_imul hx hb dX7_advise_47 ?_
  refine bd_ti (j := 4 * b) (pk_mul 4 b) ?_
  refine bd_ld_28 C hR (by decide) (j := (4 * b)) (by omega) dX7_advise_48 ?_
  refine lv_istore_n (lv' := [(2, .int ((ry_con (ry_bec (bd_up ym 0 0 0 0) 1 0) 1 n nb z t) 28 1 (4 * b))), (0, .ref (bd_ea E 12 0 0)), (1, .int (nI b))]) hx hb dX7_advise_49 rfl hl (by decide) rfl (fun ls hl => ?_)
  refine lv_iconst (v := (-1)) hx hb dX7_advise_50 (by decide) ?_
  refine lv_istore_n (lv' := [(3, .int (-1)), (2, .int ((ry_con (ry_bec (bd_up ym 0 0 0 0) 1 0) 1 n nb z t) 28 1 (4 * b))), (0, .ref (bd_ea E 12 0 0)), (1, .int (nI b))]) hx hb dX7_advise_51 rfl hl (by decide) rfl (fun ls hl => ?_)
  refine lv_iconst (v := 0) hx hb dX7_advise_52 (by decide) ?_
  refine lv_istore (lv' := [(4, .int 0), (3, .int (-1)), (2, .int ((ry_con (ry_bec (bd_up ym 0 0 0 0) 1 0) 1 n nb z t) 28 1 (4 * b))), (0, .ref (bd_ea E 12 0 0)), (1, .int (nI b))]) hx hb dX7_advise_53 hl (by decide) rfl (fun ls hl => ?_)
  have lp1 : ∀ (t1 j : Nat), j ≤ z b → (z b) - j < t1 → ∀ (H : Heap) (locs : List Loc), bd_Rep E xm ((ry_ao (ry_t0 ym) n nb z t b j).1) om H → va_S (bd_A E) s.heap H locs → ∀ (ls : Array Slot), lv_has ls 6 [(4, .int (nI j)), (3, .int ((ry_ao (ry_t0 ym) n nb z t b j).2.2)), (2, .int ((ry_ao (ry_t0 ym) n nb z t b j).2.1)), (0, .ref (bd_ea E 12 0 0)), (1, .int (nI b))] → W p l e { frames := 4, cells := 390, slots := 1560, locals := 108 } s m args below meth c H locs (6 + 48 * j) (24 + 192 * j) (MQ below (bd_Q E xm ((ry_ao (ry_t0 ym) n nb z t b (z b)).1) om (some (.int ((ry_ao (ry_t0 ym) n nb z t b (z b)).2.2)))) args s 390 1560 (bd_A E)) (F0 m 55 ls []) := by
    intro t1
    induction t1 with
    | zero => intro j h1 h2; exact absurd h2 (Nat.not_lt_zero _)
    | succ t1 ih1 =>
      intro j hj1 hj2 H locs hR hS ls hl
      refine lv_iload hx hb dX7_advise_55 (lv_at hl 0 rfl) ?_
      refine lv_aload_n hx hb dX7_advise_57 rfl (lv_at hl 3 rfl) ?_
      refine bd_g_X7_seats C hR  qf_X7_13 dX7_advise_58 ?_
      refine lv_iload_n hx hb dX7_advise_61 rfl (lv_at hl 4 rfl) ?_
      refine bd_ld_14 C hR  (j := b) (by omega) dX7_advise_62 ?_
      have zz62 := ((show ry_Sh ((ry_ao (ry_t0 ym) n nb z t b j).1) n nb z from (ry_ao_sh (ry_Sh_up hyO (by decide)) j)).2.2.2.2.1 b (by omega)).2
      rw [show ((ry_ao (ry_t0 ym) n nb z t b j).1) 14 0 b = nI (z b) from ((show ry_Sh ((ry_ao (ry_t0 ym) n nb z t b j).1) n nb z from (ry_ao_sh (ry_Sh_up hyO (by decide)) j)).2.2.2.2.1 b (by omega)).1]
      refine lv_icmp_ge (tgt := 174) hx hb dX7_advise_63 (by decide) (fun c63 => ?_) (fun c63 => ?_)
      · skip
        have nc63 : (z b) ≤ j := (nI_leI (a := (z b)) (b := j) (by omega) (by omega)).mp c63
        obtain rfl : z b = j := by omega
        refine lv_iload_n hx hb dX7_advise_174 rfl (lv_at hl 1 rfl) ?_
        exact bd_ri C hr hlk (hR.eq rfl rfl) hS (by show 6 + 48 * (z b) ≤ 390; omega) (by show 24 + 192 * (z b) ≤ 1560; omega) dX7_advise_175 rfl
      · skip
        have nc63 : ¬ (z b) ≤ j := fun q9 => c63 ((nI_leI (a := (z b)) (b := j) (by omega) (by omega)).mpr q9)
        refine lv_iload hx hb dX7_advise_66 (lv_at hl 0 rfl) ?_
        refine lv_iconst (v := 1) hx hb dX7_advise_68 (by decide) ?_
        refine lv_iadd hx hb dX7_advise_69 ?_
        refine bd_ti (j := j + 1) (nI_add j 1) ?_
        refine lv_istore (lv' := [(5, .int (nI (j + 1))), (4, .int (nI j)), (3, .int ((ry_ao (ry_t0 ym) n nb z t b j).2.2)), (2, .int ((ry_ao (ry_t0 ym) n nb z t b j).2.1)), (0, .ref (bd_ea E 12 0 0)), (1, .int (nI b))]) hx hb dX7_advise_70 hl (by decide) rfl (fun ls hl => ?_)
        have lp2 : ∀ (t2 j2 : Nat), j + 1 ≤ j2 → j2 ≤ z b → (z b) - j2 < t2 → ∀ (H : Heap) (locs : List Loc), bd_Rep E xm ((ry_ad (ry_ao (ry_t0 ym) n nb z t b j) n nb z t b j j2).1) om H → va_S (bd_A E) s.heap H locs → ∀ (ls : Array Slot), lv_has ls 6 [(5, .int (nI j2)), (4, .int (nI j)), (3, .int ((ry_ad (ry_ao (ry_t0 ym) n nb z t b j) n nb z t b j j2).2.2)), (2, .int ((ry_ad (ry_ao (ry_t0 ym) n nb z t b j) n nb z t b j j2).2.1)), (0, .ref (bd_ea E 12 0 0)), (1, .int (nI b))] → W p l e { frames := 4, cells := 390, slots := 1560, locals := 108 } s m args below meth c H locs (6 + 48 * j + 6 * j2) (24 + 192 * j + 24 * j2) (MQ below (bd_Q E xm ((ry_ao (ry_t0 ym) n nb z t b (z b)).1) om (some (.int ((ry_ao (ry_t0 ym) n nb z t b (z b)).2.2)))) args s 390 1560 (bd_A E)) (F0 m 72 ls []) := by
          intro t2
          induction t2 with
          | zero => intro j2 h0 h1 h2; exact absurd h2 (Nat.not_lt_zero _)
          | succ t2 ih2 =>
            intro j2 hj20 hj21 hj22 H locs hR hS ls hl
            have hnj : ¬ j2 ≤ j := by omega
            refine lv_iload hx hb dX7_advise_72 (lv_at hl 0 rfl) ?_
            refine lv_aload_n hx hb dX7_advise_74 rfl (lv_at hl 4 rfl) ?_
            refine bd_g_X7_seats C hR  qf_X7_13 dX7_advise_75 ?_
            refine lv_iload_n hx hb dX7_advise_78 rfl (lv_at hl 5 rfl) ?_
            refine bd_ld_14 C hR  (j := b) (by omega) dX7_advise_79 ?_
            have zz79 := ((show ry_Sh ((ry_ad (ry_ao (ry_t0 ym) n nb z t b j) n nb z t b j j2).1) n nb z from (ry_ad_sh (ry_ao_sh (ry_Sh_up hyO (by decide)) j) j2)).2.2.2.2.1 b (by omega)).2
            rw [show ((ry_ad (ry_ao (ry_t0 ym) n nb z t b j) n nb z t b j j2).1) 14 0 b = nI (z b) from ((show ry_Sh ((ry_ad (ry_ao (ry_t0 ym) n nb z t b j) n nb z t b j j2).1) n nb z from (ry_ad_sh (ry_ao_sh (ry_Sh_up hyO (by decide)) j) j2)).2.2.2.2.1 b (by omega)).1]
            refine lv_icmp_ge (tgt := 168) hx hb dX7_advise_80 (by decide) (fun c80 => ?_) (fun c80 => ?_)
            · skip
              have nc80 : (z b) ≤ j2 := (nI_leI (a := (z b)) (b := j2) (by omega) (by omega)).mp c80
              obtain rfl : z b = j2 := by omega
              refine lv_iinc (v := nI (j + 1)) (lv' := [(4, .int (nI (j + 1))), (5, .int (nI (z b))), (3, .int ((ry_ad (ry_ao (ry_t0 ym) n nb z t b j) n nb z t b j (z b)).2.2)), (2, .int ((ry_ad (ry_ao (ry_t0 ym) n nb z t b j) n nb z t b j (z b)).2.1)), (0, .ref (bd_ea E 12 0 0)), (1, .int (nI b))]) hx hb dX7_advise_168 hl (k := 1) rfl (nI_1 j) (by decide) rfl (fun ls hl => ?_)
              refine lv_goto (tgt := 55) hx hb dX7_advise_171 (by decide) ?_
              refine W.widen (k := 6 + 48 * (j + 1)) (n := 24 + 192 * (j + 1)) (by show 6 + 48 * j + 6 * (z b) ≤ 6 + 48 * (j + 1); omega) (by show 24 + 192 * j + 24 * (z b) ≤ 24 + 192 * (j + 1); omega) ?_
              exact ih1 (j + 1) (by omega) (by omega) _ _ (hR.eq rfl (by first | (simp (config := { decide := true }) only [ry_ao, eq_false c63, eq_false nc63, eq_false hnj, eq_true c80, eq_true nc80, ↓reduceIte, not_true_eq_false, not_false_eq_true, and_self, and_true, true_and, and_false, false_and]; done) | rfl)) hS _ (by rw [show ((ry_ao (ry_t0 ym) n nb z t b (j + 1)).2.2 : Int32) = (ry_ad (ry_ao (ry_t0 ym) n nb z t b j) n nb z t b j (z b)).2.2 from (by first | (simp (config := { decide := true }) only [ry_ao, eq_false c63, eq_false nc63, eq_false hnj, eq_true c80, eq_true nc80, ↓reduceIte, not_true_eq_false, not_false_eq_true, and_self, and_true, true_and, and_false, false_and]; done) | rfl)]; rw [show ((ry_ao (ry_t0 ym) n nb z t b (j + 1)).2.1 : Int32) = (ry_ad (ry_ao (ry_t0 ym) n nb z t b j) n nb z t b j (z b)).2.1 from (by first | (simp (config := { decide := true }) only [ry_ao, eq_false c63, eq_false nc63, eq_false hnj, eq_true c80, eq_true nc80, ↓reduceIte, not_true_eq_false, not_false_eq_true, and_self, and_true, true_and, and_false, false_and]; done) | rfl)]; exact lv_sub hl [0, 2, 3, 4, 5] rfl)
            · skip
              have nc80 : ¬ (z b) ≤ j2 := fun q9 => c80 ((nI_leI (a := (z b)) (b := j2) (by omega) (by omega)).mpr q9)
              refine lv_aload_n hx hb dX7_advise_83 rfl (lv_at hl 4 rfl) ?_
              refine bd_g_X7_ahead C hR  qf_X7_34 dX7_advise_84 ?_
              refine lv_aload_n hx hb dX7_advise_87 rfl (lv_at hl 4 rfl) ?_
              refine bd_g_X7_s C hR  qf_X7_30 dX7_advise_88 ?_
              refine bd_cV0 [.ref (bd_ea E 18 0 0)] [] C (k_X6_become l E xm ((ry_ad (ry_ao (ry_t0 ym) n nb z t b j) n nb z t b j j2).1) om 1 0 n nb z (by omega) (by omega) (ry_ad_sh (ry_ao_sh (ry_Sh_up hyO (by decide)) j) j2)) hR hS (bd_recv C.2 hR ⟨by decide, (by decide), (by decide)⟩ rfl rfl) qm_X7_144 qi_X6_become qs_X6_become qz_X6 qc_X6_become qp_X6_become ⟨Nat.le_of_ble_eq_true rfl, Nat.le_of_ble_eq_true rfl⟩ hl.1 (Nat.le_of_ble_eq_true rfl) dX7_advise_91 ⟨by show 6 + 48 * j + 6 * j2 + 0 ≤ 390; omega, by show 24 + 192 * j + 24 * j2 + 0 ≤ 1560; omega⟩ (fun H locs hR hS hz91 => ?_)
              refine lv_aload_n hx hb dX7_advise_94 rfl (lv_at hl 4 rfl) ?_
              refine bd_g_X7_ahead C hR  qf_X7_34 dX7_advise_95 ?_
              refine lv_bipush (v := 8) hx hb dX7_advise_98 (by decide) ?_
              refine lv_iload_n hx hb dX7_advise_100 rfl (lv_at hl 5 rfl) ?_
              refine lv_imul hx hb dX7_advise_101 ?_
              refine bd_ti (j := 8 * b) (pk_mul 8 b) ?_
              refine lv_iload hx hb dX7_advise_102 (lv_at hl 1 rfl) ?_
              refine lv_iadd hx hb dX7_advise_104 ?_
              refine bd_ti (j := (8 * b) + j) (nI_add (8 * b) j) ?_
              refine lv_bipush (v := 8) hx hb dX7_advise_105 (by decide) ?_
              refine lv_iload_n hx hb dX7_advise_107 rfl (lv_at hl 5 rfl) ?_
              refine lv_imul hx hb dX7_advise_108 ?_
              refine bd_ti (j := 8 * b) (pk_mul 8 b) ?_
              refine lv_iload hx hb dX7_advise_109 (lv_at hl 0 rfl) ?_
              refine lv_iadd hx hb dX7_advise_111 ?_
              refine bd_ti (j := (8 * b) + j2) (nI_add (8 * b) j2) ?_
              refine bd_cS0 [.ref (bd_ea E 18 1 0), .int (nI ((8 * b) + j)), .int (nI ((8 * b) + j2))] [] C (k_X7_swap l E xm (ry_bec ((ry_ad (ry_ao (ry_t0 ym) n nb z t b j) n nb z t b j j2).1) 1 0) om 1 (8 * b + j) (8 * b + j2) (by omega) (by omega) (by omega)) hR hS qm_X7_85 qt_X7_swap qz_X7 qc_X7_swap qp_X7_swap.2 ⟨Nat.le_of_ble_eq_true rfl, Nat.le_of_ble_eq_true rfl⟩ hl.1 (Nat.le_of_ble_eq_true rfl) dX7_advise_112 ⟨by show 6 + 48 * j + 6 * j2 + 0 ≤ 390; omega, by show 24 + 192 * j + 24 * j2 + 0 ≤ 1560; omega⟩ (fun H locs hR hS hz112 => ?_)
              refine lv_aload_n hx hb dX7_advise_115 rfl (lv_at hl 4 rfl) ?_
              refine bd_g_X7_ahead C hR  qf_X7_34 dX7_advise_116 ?_
              refine bd_cV1 [] [] C (k_X6_contest l E xm (ry_sw (ry_bec ((ry_ad (ry_ao (ry_t0 ym) n nb z t b j) n nb z t b j j2).1) 1 0) 1 (8 * b + j) (8 * b + j2)) om 1 n nb z t (by omega) (ry_sw_sh (ry_bec_sh (ry_ad_sh (ry_ao_sh (ry_Sh_up hyO (by decide)) j) j2))) (ry_Mb_sw (ry_Mb_bec (ry_Mb_of hmT (fun q9 => (ry_ad_o j2).trans (ry_ao_o j))) hy6 (fun b9 h9 => (hy.2.2.2.2.1 b9 h9).2)) (by omega) (by omega) (by omega) (fun b9 h9 => (hy.2.2.2.2.1 b9 h9).2) hy6) (by rw [ry_sw_f (by decide), ry_bec_10, ry_ad_o, ry_ao_o]; exact htT) (by omega) (by omega)) hR hS (bd_recv C.2 hR ⟨by decide, (by decide), (by decide)⟩ rfl rfl) qm_X7_128 qi_X6_contest qs_X6_contest qz_X6 qc_X6_contest qp_X6_contest ⟨Nat.le_of_ble_eq_true rfl, Nat.le_of_ble_eq_true rfl⟩ hl.1 (Nat.le_of_ble_eq_true rfl) dX7_advise_119 ⟨by show 6 + 48 * j + 6 * j2 + 6 ≤ 390; omega, by show 24 + 192 * j + 24 * j2 + 24 ≤ 1560; omega⟩ (fun H locs hR hS hz119 => ?_)
              have hR : bd_Rep E xm (ry_tr (ry_ad (ry_ao (ry_t0 ym) n nb z t b j) n nb z t b j j2).1 n nb z t b j j2) om H := hR
              refine lv_pop hx hb dX7_advise_122 rfl ?_
              refine lv_aload_n hx hb dX7_advise_123 rfl (lv_at hl 4 rfl) ?_
              refine bd_g_X7_ahead C hR  qf_X7_34 dX7_advise_124 ?_
              refine bd_gN_X6_latest C hR (by decide) (List.mem_of_getElem? (i := 10) rfl) dX7_advise_127 ?_
              refine lv_iconst (v := 4) hx hb dX7_advise_130 (by decide) ?_
              refine lv_iload_n hx hb dX7_advise_131 rfl (lv_at hl 5 rfl) ?_
              refine lv_imul hx hb dX7_advise_132 ?_
              refine bd_ti (j := 4 * b) (pk_mul 4 b) ?_
              refine bd_ld_28 C hR (by decide) (j := (4 * b)) (by omega) dX7_advise_133 ?_
              refine lv_iload_n hx hb dX7_advise_134 rfl (lv_at hl 3 rfl) ?_
              refine lv_icmp_gt (tgt := 141) hx hb dX7_advise_135 (by decide) (fun c135 => ?_) (fun c135 => ?_)
              · skip
                refine lv_bipush (v := 8) hx hb dX7_advise_141 (by decide) ?_
                refine lv_iload hx hb dX7_advise_143 (lv_at hl 1 rfl) ?_
                refine lv_imul hx hb dX7_advise_145 ?_
                refine bd_ti (j := 8 * j) (pk_mul 8 j) ?_
                refine lv_iload hx hb dX7_advise_146 (lv_at hl 0 rfl) ?_
                refine lv_iadd hx hb dX7_advise_148 ?_
                refine bd_ti (j := (8 * j) + j2) (nI_add (8 * j) j2) ?_
                refine lv_istore_n (lv' := [(3, .int (nI ((8 * j) + j2))), (5, .int (nI j2)), (4, .int (nI j)), (2, .int ((ry_ad (ry_ao (ry_t0 ym) n nb z t b j) n nb z t b j j2).2.1)), (0, .ref (bd_ea E 12 0 0)), (1, .int (nI b))]) hx hb dX7_advise_149 rfl hl (by decide) rfl (fun ls hl => ?_)
                refine lv_aload_n hx hb dX7_advise_150 rfl (lv_at hl 4 rfl) ?_
                refine bd_g_X7_ahead C hR  qf_X7_34 dX7_advise_151 ?_
                refine bd_gN_X6_latest C hR (by decide) (List.mem_of_getElem? (i := 10) rfl) dX7_advise_154 ?_
                refine lv_iconst (v := 4) hx hb dX7_advise_157 (by decide) ?_
                refine lv_iload_n hx hb dX7_advise_158 rfl (lv_at hl 5 rfl) ?_
                refine lv_imul hx hb dX7_advise_159 ?_
                refine bd_ti (j := 4 * b) (pk_mul 4 b) ?_
                refine bd_ld_28 C hR (by decide) (j := (4 * b)) (by omega) dX7_advise_160 ?_
                refine lv_istore_n (lv' := [(2, .int ((ry_tr (ry_ad (ry_ao (ry_t0 ym) n nb z t b j) n nb z t b j j2).1 n nb z t b j j2) 28 1 (4 * b))), (3, .int (nI ((8 * j) + j2))), (5, .int (nI j2)), (4, .int (nI j)), (0, .ref (bd_ea E 12 0 0)), (1, .int (nI b))]) hx hb dX7_advise_161 rfl hl (by decide) rfl (fun ls hl => ?_)
                refine lv_iinc (v := nI (j2 + 1)) (lv' := [(5, .int (nI (j2 + 1))), (2, .int ((ry_tr (ry_ad (ry_ao (ry_t0 ym) n nb z t b j) n nb z t b j j2).1 n nb z t b j j2) 28 1 (4 * b))), (3, .int (nI ((8 * j) + j2))), (4, .int (nI j)), (0, .ref (bd_ea E 12 0 0)), (1, .int (nI b))]) hx hb dX7_advise_162 hl (k := 2) rfl (nI_1 j2) (by decide) rfl (fun ls hl => ?_)
                refine lv_goto (tgt := 72) hx hb dX7_advise_165 (by decide) ?_
                refine W.widen (k := 6 + 48 * j + 6 * (j2 + 1)) (n := 24 + 192 * j + 24 * (j2 + 1)) (by show (6 + 48 * j + 6 * j2 + 6) ≤ 6 + 48 * j + 6 * (j2 + 1); omega) (by show (24 + 192 * j + 24 * j2 + 24) ≤ 24 + 192 * j + 24 * (j2 + 1); omega) ?_
                exact ih2 (j2 + 1) (by omega) (by omega) (by omega) _ _ (hR.eq rfl (by first | (simp (config := { decide := true }) only [ry_ad, ry_ad1, eq_false c63, eq_false nc63, eq_false hnj, eq_false c80, eq_false nc80, eq_true c135, ↓reduceIte, not_true_eq_false, not_false_eq_true, and_self, and_true, true_and, and_false, false_and]; done) | rfl)) hS _ (by rw [show ((ry_ad (ry_ao (ry_t0 ym) n nb z t b j) n nb z t b j (j2 + 1)).2.2 : Int32) = nI ((8 * j) + j2) from (by first | (simp (config := { decide := true }) only [ry_ad, ry_ad1, eq_false c63, eq_false nc63, eq_false hnj, eq_false c80, eq_false nc80, eq_true c135, ↓reduceIte, not_true_eq_false, not_false_eq_true, and_self, and_true, true_and, and_false, false_and]; done) | rfl)]; rw [show ((ry_ad (ry_ao (ry_t0 ym) n nb z t b j) n nb z t b j (j2 + 1)).2.1 : Int32) = (ry_tr (ry_ad (ry_ao (ry_t0 ym) n nb z t b j) n nb z t b j j2).1 n nb z t b j j2) 28 1 (4 * b) from (by first | (simp (config := { decide := true }) only [ry_ad, ry_ad1, eq_false c63, eq_false nc63, eq_false hnj, eq_false c80, eq_false nc80, eq_true c135, ↓reduceIte, not_true_eq_false, not_false_eq_true, and_self, and_true, true_and, and_false, false_and]; done) | rfl)]; exact lv_sub hl [0, 3, 2, 1, 4, 5] rfl)
              · skip
                refine lv_goto (tgt := 162) hx hb dX7_advise_138 (by decide) ?_
                refine lv_iinc (v := nI (j2 + 1)) (lv' := [(5, .int (nI (j2 + 1))), (4, .int (nI j)), (3, .int ((ry_ad (ry_ao (ry_t0 ym) n nb z t b j) n nb z t b j j2).2.2)), (2, .int ((ry_ad (ry_ao (ry_t0 ym) n nb z t b j) n nb z t b j j2).2.1)), (0, .ref (bd_ea E 12 0 0)), (1, .int (nI b))]) hx hb dX7_advise_162 hl (k := 0) rfl (nI_1 j2) (by decide) rfl (fun ls hl => ?_)
                refine lv_goto (tgt := 72) hx hb dX7_advise_165 (by decide) ?_
                refine W.widen (k := 6 + 48 * j + 6 * (j2 + 1)) (n := 24 + 192 * j + 24 * (j2 + 1)) (by show (6 + 48 * j + 6 * j2 + 6) ≤ 6 + 48 * j + 6 * (j2 + 1); omega) (by show (24 + 192 * j + 24 * j2 + 24) ≤ 24 + 192 * j + 24 * (j2 + 1); omega) ?_
                exact ih2 (j2 + 1) (by omega) (by omega) (by omega) _ _ (hR.eq rfl (by first | (simp (config := { decide := true }) only [ry_ad, ry_ad1, eq_false c63, eq_false nc63, eq_false hnj, eq_false c80, eq_false nc80, eq_false c135, ↓reduceIte, not_true_eq_false, not_false_eq_true, and_self, and_true, true_and, and_false, false_and]; done) | rfl)) hS _ (by rw [show ((ry_ad (ry_ao (ry_t0 ym) n nb z t b j) n nb z t b j (j2 + 1)).2.2 : Int32) = (ry_ad (ry_ao (ry_t0 ym) n nb z t b j) n nb z t b j j2).2.2 from (by first | (simp (config := { decide := true }) only [ry_ad, ry_ad1, eq_false c63, eq_false nc63, eq_false hnj, eq_false c80, eq_false nc80, eq_false c135, ↓reduceIte, not_true_eq_false, not_false_eq_true, and_self, and_true, true_and, and_false, false_and]; done) | rfl)]; rw [show ((ry_ad (ry_ao (ry_t0 ym) n nb z t b j) n nb z t b j (j2 + 1)).2.1 : Int32) = (ry_ad (ry_ao (ry_t0 ym) n nb z t b j) n nb z t b j j2).2.1 from (by first | (simp (config := { decide := true }) only [ry_ad, ry_ad1, eq_false c63, eq_false nc63, eq_false hnj, eq_false c80, eq_false nc80, eq_false c135, ↓reduceIte, not_true_eq_false, not_false_eq_true, and_self, and_true, true_and, and_false, false_and]; done) | rfl)]; exact lv_sub hl [0, 1, 2, 3, 4, 5] rfl)
        refine W.widen (k := 6 + 48 * j + 6 * (j + 1)) (n := 24 + 192 * j + 24 * (j + 1)) (by show 6 + 48 * j ≤ 6 + 48 * j + 6 * (j + 1); omega) (by show 24 + 192 * j ≤ 24 + 192 * j + 24 * (j + 1); omega) ?_
        exact lp2 ((z b) + 1) (j + 1) (Nat.le_refl _) (by omega) (by omega) _ _ (hR.eq rfl (by rw [ry_ad_0 (j + 1) (Nat.le_refl _)])) hS _ (by rw [show ((ry_ad (ry_ao (ry_t0 ym) n nb z t b j) n nb z t b j (j + 1)).2.2 : Int32) = (ry_ao (ry_t0 ym) n nb z t b j).2.2 from by rw [ry_ad_0 (j + 1) (Nat.le_refl _)]]; rw [show ((ry_ad (ry_ao (ry_t0 ym) n nb z t b j) n nb z t b j (j + 1)).2.1 : Int32) = (ry_ao (ry_t0 ym) n nb z t b j).2.1 from by rw [ry_ad_0 (j + 1) (Nat.le_refl _)]]; exact lv_sub hl [0, 1, 2, 3, 4, 5] rfl)
  refine W.widen (k := 6 + 48 * 0) (n := 24 + 192 * 0) (by show (0 + 6) ≤ 6 + 48 * 0; omega) (by show (0 + 24) ≤ 24 + 192 * 0; omega) ?_
  exact lp1 ((z b) + 1) 0 (by omega) (by omega) _ _ (hR.eq rfl (by rfl)) hS _ (by rw [show (nI 0 : Int32) = 0 from by rfl]; rw [show ((ry_ao (ry_t0 ym) n nb z t b 0).2.2 : Int32) = (-1) from by rfl]; rw [show ((ry_ao (ry_t0 ym) n nb z t b 0).2.1 : Int32) = (ry_con (ry_bec (bd_up ym 0 0 0 0) 1 0) 1 n nb z t) 28 1 (4 * b) from by rfl]; exact lv_sub hl [0, 1, 2, 3, 4] rfl)
set_option maxHeartbeats 4000000 in
set_option maxRecDepth 100000 in
theorem k_X7_advise_1 (l : Launch) (E : bd_E) (xm ym : bd_M) (om : Nat → Int64) (n : Nat) (nb : Nat) (z : (Nat→Nat)) (u : Int32) (hy : ry_Sh ym n nb z) (h1 : ¬ (¬ u < 0 ∧ u < nI nb)) : bd_Ct l yX7_advise cX7_advise 6 (some .int) 4 108 390 1560 E [.ref (bd_ea E 12 0 0), .int u] xm ym om xm (bd_up (ry_t0 ym) 0 0 0 1) om (some (.int 0)) := by
  refine bd_open RX7 rfl (by decide) (Nat.le_of_ble_eq_true rfl) ?_
  intro p e s m args below meth c ls C hr hlk hS hR hl
  have hx := C.1.1
  have hb := C.1.2.1
  have hy24 := hy.2.1
  have hy6 := hy.2.2.2.1
  have hl : lv_has ls 6 [(0, .ref (bd_ea E 12 0 0)), (1, .int u)] := hl
  refine lv_aload_n hx hb dX7_advise_0 rfl (lv_at hl 0 rfl) ?_
  refine lv_iconst (v := 0) hx hb dX7_advise_1 (by decide) ?_
  refine bd_p_X7_thrown C hR hS  qf_X7_37 dX7_advise_2 (fun H locs hR hS => ?_)
  refine lv_aload_n hx hb dX7_advise_5 rfl (lv_at hl 0 rfl) ?_
  refine lv_iload_n hx hb dX7_advise_6 rfl (lv_at hl 1 rfl) ?_
  refine bd_cV1 [.int u] [] C (k_X7_isBand l E xm (bd_up ym 0 0 0 0) om n nb z u (ry_Sh_up hy (by decide))) hR hS (bd_recv C.2 hR ⟨by decide, (by decide), (by decide)⟩ rfl rfl) qm_X7_51 qi_X7_isBand qs_X7_isBand qz_X7 qc_X7_isBand qp_X7_isBand ⟨Nat.le_of_ble_eq_true rfl, Nat.le_of_ble_eq_true rfl⟩ hl.1 (Nat.le_of_ble_eq_true rfl) dX7_advise_7 ⟨by show 0 + 0 ≤ 390; omega, by show 0 + 0 ≤ 1560; omega⟩ (fun H locs hR hS hz7 => ?_)
  refine bd_ifne (P := ¬ u < 0 ∧ u < nI nb) (tgt := 19) C dX7_advise_10 (by decide) (fun q9 => absurd q9 h1) (fun q9 => ?_)
  refine lv_aload_n hx hb dX7_advise_13 rfl (lv_at hl 0 rfl) ?_
  refine lv_iconst (v := 1) hx hb dX7_advise_14 (by decide) ?_
  refine bd_cV1 [.int 1] [] C (k_X7_no l E xm (bd_up ym 0 0 0 0) om 1 ) hR hS (bd_recv C.2 hR ⟨by decide, (by decide), (by decide)⟩ rfl rfl) qm_X7_55 qi_X7_no qs_X7_no qz_X7 qc_X7_no qp_X7_no ⟨Nat.le_of_ble_eq_true rfl, Nat.le_of_ble_eq_true rfl⟩ hl.1 (Nat.le_of_ble_eq_true rfl) dX7_advise_15 ⟨by show 0 + 0 ≤ 390; omega, by show 0 + 0 ≤ 1560; omega⟩ (fun H locs hR hS hz15 => ?_)
  exact bd_ri C hr hlk (hR.eq rfl (by first | (simp (config := { decide := true }) only [↓reduceIte, not_true_eq_false, not_false_eq_true, and_self, and_true, true_and, and_false, false_and]; done) | rfl)) hS (by show 0 ≤ 390; omega) (by show 0 ≤ 1560; omega) dX7_advise_18 rfl
set_option maxHeartbeats 4000000 in
set_option maxRecDepth 100000 in
theorem k_X7_free_ok (l : Launch) (E : bd_E) (xm ym : bd_M) (om : Nat → Int64) (n : Nat) (nb : Nat) (z : (Nat→Nat)) (g : Nat) (hy : ry_Sh ym n nb z) (hg : g < 4) : bd_Ct l yX7_free cX7_free 4 (some .int) 1 22 0 0 E [.ref (bd_ea E 12 0 0), .int (nI g)] xm ym om xm (ry_t0 ym) om (some (.int (ry_fr1 (ry_t0 ym) nb z g n))) := by
  refine bd_open RX7 rfl (by decide) (Nat.le_of_ble_eq_true rfl) ?_
  intro p e s m args below meth c ls C hr hlk hS hR hl
  have hx := C.1.1
  have hb := C.1.2.1
  have hy24 := hy.2.1
  have hy6 := hy.2.2.2.1
  have kg := bd_kL (k := g) (n := 3) (by omega) (by decide)
  have hl : lv_has ls 4 [(0, .ref (bd_ea E 12 0 0)), (1, .int (nI g))] := hl
  refine lv_aload_n hx hb dX7_free_0 rfl (lv_at hl 0 rfl) ?_
  refine lv_iconst (v := 0) hx hb dX7_free_1 (by decide) ?_
  refine bd_p_X7_thrown C hR hS  qf_X7_37 dX7_free_2 (fun H locs hR hS => ?_)
  refine lv_iload_n hx hb dX7_free_5 rfl (lv_at hl 1 rfl) ?_
  refine lv_iconst (v := 0) hx hb dX7_free_6 (by decide) ?_
  refine lv_iconst (v := 3) hx hb dX7_free_7 (by decide) ?_
  refine bd_cS1 [.int (nI g), .int 0, .int 3] [] C (k_X7_isIn l E xm (bd_up ym 0 0 0 0) om (nI g) 0 3 ) hR hS qm_X7_44 qt_X7_isIn qz_X7 qc_X7_isIn qp_X7_isIn.2 ⟨Nat.le_of_ble_eq_true rfl, Nat.le_of_ble_eq_true rfl⟩ hl.1 (Nat.le_of_ble_eq_true rfl) dX7_free_8 ⟨Nat.le_of_ble_eq_true rfl, Nat.le_of_ble_eq_true rfl⟩ (fun H locs hR hS hz8 => ?_)
  refine bd_ifne (P := ¬ (nI g) < 0 ∧ ¬ 3 < (nI g)) (tgt := 20) C dX7_free_11 (by decide) (fun q9 => ?_) (fun q9 => absurd kg q9)
  refine lv_iconst (v := (-1)) hx hb dX7_free_20 (by decide) ?_
  refine lv_istore_n (lv' := [(2, .int (-1)), (0, .ref (bd_ea E 12 0 0)), (1, .int (nI g))]) hx hb dX7_free_21 rfl hl (by decide) rfl (fun ls hl => ?_)
  refine lv_iconst (v := 0) hx hb dX7_free_22 (by decide) ?_
  refine lv_istore_n (lv' := [(3, .int 0), (2, .int (-1)), (0, .ref (bd_ea E 12 0 0)), (1, .int (nI g))]) hx hb dX7_free_23 rfl hl (by decide) rfl (fun ls hl => ?_)
  have lp1 : ∀ (t1 j : Nat), j ≤ n → n - j < t1 → ∀ (H : Heap) (locs : List Loc), bd_Rep E xm (bd_up ym 0 0 0 0) om H → va_S (bd_A E) s.heap H locs → ∀ (ls : Array Slot), lv_has ls 4 [(3, .int (nI j)), (2, .int (ry_fr1 (ry_t0 ym) nb z g j)), (0, .ref (bd_ea E 12 0 0)), (1, .int (nI g))] → W p l e { frames := 1, cells := 0, slots := 0, locals := 22 } s m args below meth c H locs 0 0 (MQ below (bd_Q E xm (ry_t0 ym) om (some (.int (ry_fr1 (ry_t0 ym) nb z g n)))) args s 0 0 (bd_A E)) (F0 m 24 ls []) := by
    intro t1
    induction t1 with
    | zero => intro j h1 h2; exact absurd h2 (Nat.not_lt_zero _)
    | succ t1 ih1 =>
      intro j hj1 hj2 H locs hR hS ls hl
      refine lv_iload_n hx hb dX7_free_24 rfl (lv_at hl 0 rfl) ?_
      refine lv_aload_n hx hb dX7_free_25 rfl (lv_at hl 2 rfl) ?_
      refine bd_g_X7_players C hR  qf_X7_41 dX7_free_26 ?_
      rw [show (bd_up ym 0 0 0 0) 1 0 0 = nI n from (show ry_Sh (bd_up ym 0 0 0 0) n nb z from (ry_Sh_up hy (by decide))).1]
      refine lv_icmp_ge (tgt := 95) hx hb dX7_free_29 (by decide) (fun c29 => ?_) (fun c29 => ?_)
      · skip
        have nc29 : n ≤ j := (nI_leI (a := n) (b := j) (by omega) (by omega)).mp c29
        obtain rfl : n = j := by omega
        refine lv_iload_n hx hb dX7_free_95 rfl (lv_at hl 1 rfl) ?_
        exact bd_ri C hr hlk (hR.eq rfl (by first | (simp (config := { decide := true }) only [eq_true c29, eq_true nc29, ↓reduceIte, not_true_eq_false, not_false_eq_true, and_self, and_true, true_and, and_false, false_and]; done) | rfl)) hS (Nat.zero_le _) (Nat.zero_le _) dX7_free_96 rfl
      · skip
        have nc29 : ¬ n ≤ j := fun q9 => c29 ((nI_leI (a := n) (b := j) (by omega) (by omega)).mpr q9)
        refine lv_aload_n hx hb dX7_free_32 rfl (lv_at hl 2 rfl) ?_
        refine bd_g_X7_s C hR  qf_X7_30 dX7_free_33 ?_
        refine bd_gN_X6_absent C hR (by decide) (List.mem_of_getElem? (i := 11) rfl) dX7_free_36 ?_
        refine lv_iload_n hx hb dX7_free_39 rfl (lv_at hl 0 rfl) ?_
        refine bd_ld_20 C hR (by decide) (j := j) (by omega) dX7_free_40 ?_
        refine lv_if_gt (tgt := 89) hx hb dX7_free_41 (by decide) (fun c41 => ?_) (fun c41 => ?_)
        · skip
          refine lv_iinc (v := nI (j + 1)) (lv' := [(3, .int (nI (j + 1))), (2, .int (ry_fr1 (ry_t0 ym) nb z g j)), (0, .ref (bd_ea E 12 0 0)), (1, .int (nI g))]) hx hb dX7_free_89 hl (k := 0) rfl (nI_1 j) (by decide) rfl (fun ls hl => ?_)
          refine lv_goto (tgt := 24) hx hb dX7_free_92 (by decide) ?_
          exact ih1 (j + 1) (by omega) (by omega) _ _ (hR.eq rfl rfl) hS _ (by rw [show (ry_fr1 (ry_t0 ym) nb z g (j + 1) : Int32) = ry_fr1 (ry_t0 ym) nb z g j from (by first | (simp (config := { decide := true }) only [ry_fr1, eq_false c29, eq_false nc29, eq_true c41, ↓reduceIte, not_true_eq_false, not_false_eq_true, and_self, and_true, true_and, and_false, false_and]; done) | rfl)]; exact lv_sub hl [0, 1, 2, 3] rfl)
        · skip
          refine lv_aload_n hx hb dX7_free_44 rfl (lv_at hl 2 rfl) ?_
          refine bd_g_X7_s C hR  qf_X7_30 dX7_free_45 ?_
          refine lv_iload_n hx hb dX7_free_48 rfl (lv_at hl 0 rfl) ?_
          refine bd_cV1 [.int (nI j)] [] C (k_X6_seatOf l E xm (bd_up ym 0 0 0 0) om 0 n nb z (nI j) (by omega) (ry_Sh_up hy (by decide))) hR hS (bd_recv C.2 hR ⟨by decide, (by decide), (by decide)⟩ rfl rfl) qm_X7_82 qi_X6_seatOf qs_X6_seatOf qz_X6 qc_X6_seatOf qp_X6_seatOf ⟨Nat.le_of_ble_eq_true rfl, Nat.le_of_ble_eq_true rfl⟩ hl.1 (Nat.le_of_ble_eq_true rfl) dX7_free_49 ⟨Nat.le_of_ble_eq_true rfl, Nat.le_of_ble_eq_true rfl⟩ (fun H locs hR hS hz49 => ?_)
          refine lv_iconst (v := (-1)) hx hb dX7_free_52 (by decide) ?_
          refine lv_icmp_eq (tgt := 59) hx hb dX7_free_53 (by decide) (fun c53 => ?_) (fun c53 => ?_)
          · skip
            refine lv_iload_n hx hb dX7_free_59 rfl (lv_at hl 1 rfl) ?_
            refine lv_iconst (v := (-1)) hx hb dX7_free_60 (by decide) ?_
            refine lv_icmp_eq (tgt := 87) hx hb dX7_free_61 (by decide) (fun c61 => ?_) (fun c61 => ?_)
            · skip
              refine lv_iload_n hx hb dX7_free_87 rfl (lv_at hl 0 rfl) ?_
              refine lv_istore_n (lv' := [(2, .int (nI j)), (3, .int (nI j)), (0, .ref (bd_ea E 12 0 0)), (1, .int (nI g))]) hx hb dX7_free_88 rfl hl (by decide) rfl (fun ls hl => ?_)
              refine lv_iinc (v := nI (j + 1)) (lv' := [(3, .int (nI (j + 1))), (2, .int (nI j)), (0, .ref (bd_ea E 12 0 0)), (1, .int (nI g))]) hx hb dX7_free_89 hl (k := 1) rfl (nI_1 j) (by decide) rfl (fun ls hl => ?_)
              refine lv_goto (tgt := 24) hx hb dX7_free_92 (by decide) ?_
              exact ih1 (j + 1) (by omega) (by omega) _ _ (hR.eq rfl rfl) hS _ (by rw [show (ry_fr1 (ry_t0 ym) nb z g (j + 1) : Int32) = nI j from (by first | (simp (config := { decide := true }) only [ry_fr1, eq_false c29, eq_false nc29, eq_false c41, eq_true c53, eq_true c61, ↓reduceIte, not_true_eq_false, not_false_eq_true, and_self, and_true, true_and, and_false, false_and]; done) | rfl)]; exact lv_sub hl [0, 1, 2, 3] rfl)
            · skip
              obtain ⟨hB1, hB2⟩ := (ry_fr1_mv (y := ry_t0 ym) (nb := nb) (v := g) (z := z) hy24 j (by omega)).resolve_left c61
              refine lv_aload_n hx hb dX7_free_64 rfl (lv_at hl 2 rfl) ?_
              refine bd_g_X7_skill C hR  qf_X7_9 dX7_free_65 ?_
              refine lv_iconst (v := 4) hx hb dX7_free_68 (by decide) ?_
              refine lv_iload_n hx hb dX7_free_69 rfl (lv_at hl 0 rfl) ?_
              refine lv_imul hx hb dX7_free_70 ?_
              refine bd_ti (j := 4 * j) (pk_mul 4 j) ?_
              refine lv_iload_n hx hb dX7_free_71 rfl (lv_at hl 3 rfl) ?_
              refine lv_iadd hx hb dX7_free_72 ?_
              refine bd_ti (j := (4 * j) + g) (nI_add (4 * j) g) ?_
              refine bd_ld_13 C hR  (j := ((4 * j) + g)) (by omega) dX7_free_73 ?_
              refine lv_aload_n hx hb dX7_free_74 rfl (lv_at hl 2 rfl) ?_
              refine bd_g_X7_skill C hR  qf_X7_9 dX7_free_75 ?_
              refine lv_iconst (v := 4) hx hb dX7_free_78 (by decide) ?_
              refine lv_iload_n hx hb dX7_free_79 rfl (lv_at hl 1 rfl) ?_
              refine lv_imul hx hb dX7_free_80 ?_
              refine lv_iload_n hx hb dX7_free_81 rfl (lv_at hl 3 rfl) ?_
              refine lv_iadd hx hb dX7_free_82 ?_
              refine bd_ti (j := 4 * (ry_fr1 (ry_t0 ym) nb z g j).toNatClampNeg + g) (bd_ix4n hB1) ?_
              refine bd_ld_13 C hR  (j := (4 * (ry_fr1 (ry_t0 ym) nb z g j).toNatClampNeg + g)) (by omega) dX7_free_83 ?_
              refine lv_icmp_le (tgt := 89) hx hb dX7_free_84 (by decide) (fun c84 => ?_) (fun c84 => ?_)
              · skip
                refine lv_iinc (v := nI (j + 1)) (lv' := [(3, .int (nI (j + 1))), (2, .int (ry_fr1 (ry_t0 ym) nb z g j)), (0, .ref (bd_ea E 12 0 0)), (1, .int (nI g))]) hx hb dX7_free_89 hl (k := 0) rfl (nI_1 j) (by decide) rfl (fun ls hl => ?_)
                refine lv_goto (tgt := 24) hx hb dX7_free_92 (by decide) ?_
                exact ih1 (j + 1) (by omega) (by omega) _ _ (hR.eq rfl rfl) hS _ (by rw [show (ry_fr1 (ry_t0 ym) nb z g (j + 1) : Int32) = ry_fr1 (ry_t0 ym) nb z g j from (by first | (simp (config := { decide := true }) only [ry_fr1, eq_false c29, eq_false nc29, eq_false c41, eq_true c53, eq_false c61, eq_true c84, ↓reduceIte, not_true_eq_false, not_false_eq_true, and_self, and_true, true_and, and_false, false_and]; done) | rfl)]; exact lv_sub hl [0, 1, 2, 3] rfl)
              · skip
                refine lv_iload_n hx hb dX7_free_87 rfl (lv_at hl 0 rfl) ?_
                refine lv_istore_n (lv' := [(2, .int (nI j)), (3, .int (nI j)), (0, .ref (bd_ea E 12 0 0)), (1, .int (nI g))]) hx hb dX7_free_88 rfl hl (by decide) rfl (fun ls hl => ?_)
                refine lv_iinc (v := nI (j + 1)) (lv' := [(3, .int (nI (j + 1))), (2, .int (nI j)), (0, .ref (bd_ea E 12 0 0)), (1, .int (nI g))]) hx hb dX7_free_89 hl (k := 1) rfl (nI_1 j) (by decide) rfl (fun ls hl => ?_)
                refine lv_goto (tgt := 24) hx hb dX7_free_92 (by decide) ?_
                exact ih1 (j + 1) (by omega) (by omega) _ _ (hR.eq rfl rfl) hS _ (by rw [show (ry_fr1 (ry_t0 ym) nb z g (j + 1) : Int32) = nI j from (by first | (simp (config := { decide := true }) only [ry_fr1, eq_false c29, eq_false nc29, eq_false c41, eq_true c53, eq_false c61, eq_false c84, ↓reduceIte, not_true_eq_false, not_false_eq_true, and_self, and_true, true_and, and_false, false_and]; done) | rfl)]; exact lv_sub hl [0, 1, 2, 3] rfl)
          · skip
            refine lv_goto (tgt := 89) hx hb dX7_free_56 (by decide) ?_
            refine lv_iinc (v := nI (j + 1)) (lv' := [(3, .int (nI (j + 1))), (2, .int (ry_fr1 (ry_t0 ym) nb z g j)), (0, .ref (bd_ea E 12 0 0)), (1, .int (nI g))]) hx hb dX7_free_89 hl (k := 0) rfl (nI_1 j) (by decide) rfl (fun ls hl => ?_)
            refine lv_goto (tgt := 24) hx hb dX7_free_92 (by decide) ?_
            exact ih1 (j + 1) (by omega) (by omega) _ _ (hR.eq rfl rfl) hS _ (by rw [show (ry_fr1 (ry_t0 ym) nb z g (j + 1) : Int32) = ry_fr1 (ry_t0 ym) nb z g j from (by first | (simp (config := { decide := true }) only [ry_fr1, eq_false c29, eq_false nc29, eq_false c41, eq_false c53, ↓reduceIte, not_true_eq_false, not_false_eq_true, and_self, and_true, true_and, and_false, false_and]; done) | rfl)]; exact lv_sub hl [0, 1, 2, 3] rfl)
  exact lp1 (n + 1) 0 (by omega) (by omega) _ _ (hR.eq rfl rfl) hS _ (by first | exact lv_sub hl [0, 1, 2, 3] rfl | (rw [show (nI 0 : Int32) = 0 from by first | rfl | decide | simp [nI_0]]; rw [show (ry_fr1 (ry_t0 ym) nb z g 0 : Int32) = (-1) from by first | rfl | decide | simp [nI_0]]; exact lv_sub hl [0, 1, 2, 3] rfl))
set_option maxHeartbeats 4000000 in
set_option maxRecDepth 100000 in
theorem k_X7_free_1 (l : Launch) (E : bd_E) (xm ym : bd_M) (om : Nat → Int64) (n : Nat) (nb : Nat) (z : (Nat→Nat)) (u : Int32) (hy : ry_Sh ym n nb z) (h1 : ¬ (¬ u < 0 ∧ ¬ 3 < u)) : bd_Ct l yX7_free cX7_free 4 (some .int) 1 22 0 0 E [.ref (bd_ea E 12 0 0), .int u] xm ym om xm (bd_up (ry_t0 ym) 0 0 0 1) om (some (.int 0)) := by
  refine bd_open RX7 rfl (by decide) (Nat.le_of_ble_eq_true rfl) ?_
  intro p e s m args below meth c ls C hr hlk hS hR hl
  have hx := C.1.1
  have hb := C.1.2.1
  have hy24 := hy.2.1
  have hy6 := hy.2.2.2.1
  have hl : lv_has ls 4 [(0, .ref (bd_ea E 12 0 0)), (1, .int u)] := hl
  refine lv_aload_n hx hb dX7_free_0 rfl (lv_at hl 0 rfl) ?_
  refine lv_iconst (v := 0) hx hb dX7_free_1 (by decide) ?_
  refine bd_p_X7_thrown C hR hS  qf_X7_37 dX7_free_2 (fun H locs hR hS => ?_)
  refine lv_iload_n hx hb dX7_free_5 rfl (lv_at hl 1 rfl) ?_
  refine lv_iconst (v := 0) hx hb dX7_free_6 (by decide) ?_
  refine lv_iconst (v := 3) hx hb dX7_free_7 (by decide) ?_
  refine bd_cS1 [.int u, .int 0, .int 3] [] C (k_X7_isIn l E xm (bd_up ym 0 0 0 0) om u 0 3 ) hR hS qm_X7_44 qt_X7_isIn qz_X7 qc_X7_isIn qp_X7_isIn.2 ⟨Nat.le_of_ble_eq_true rfl, Nat.le_of_ble_eq_true rfl⟩ hl.1 (Nat.le_of_ble_eq_true rfl) dX7_free_8 ⟨Nat.le_of_ble_eq_true rfl, Nat.le_of_ble_eq_true rfl⟩ (fun H locs hR hS hz8 => ?_)
  refine bd_ifne (P := ¬ u < 0 ∧ ¬ 3 < u) (tgt := 20) C dX7_free_11 (by decide) (fun q9 => absurd q9 h1) (fun q9 => ?_)
  refine lv_aload_n hx hb dX7_free_14 rfl (lv_at hl 0 rfl) ?_
  refine lv_iconst (v := 1) hx hb dX7_free_15 (by decide) ?_
  refine bd_cV1 [.int 1] [] C (k_X7_no l E xm (bd_up ym 0 0 0 0) om 1 ) hR hS (bd_recv C.2 hR ⟨by decide, (by decide), (by decide)⟩ rfl rfl) qm_X7_55 qi_X7_no qs_X7_no qz_X7 qc_X7_no qp_X7_no ⟨Nat.le_of_ble_eq_true rfl, Nat.le_of_ble_eq_true rfl⟩ hl.1 (Nat.le_of_ble_eq_true rfl) dX7_free_16 ⟨Nat.le_of_ble_eq_true rfl, Nat.le_of_ble_eq_true rfl⟩ (fun H locs hR hS hz16 => ?_)
  exact bd_ri C hr hlk (hR.eq rfl (by first | (simp (config := { decide := true }) only [↓reduceIte, not_true_eq_false, not_false_eq_true, and_self, and_true, true_and, and_false, false_and]; done) | rfl)) hS (Nat.zero_le _) (Nat.zero_le _) dX7_free_19 rfl
set_option maxHeartbeats 4000000 in
set_option maxRecDepth 100000 in
theorem k_X7_digest (l : Launch) (E : bd_E) (xm ym : bd_M) (om : Nat → Int64) (n : Nat) (nb : Nat) (z : (Nat→Nat)) (hy : ry_Sh ym n nb z) : bd_Ct l yX7_digest cX7_digest 6 (some .long) 2 47 61 535 E [.ref (bd_ea E 12 0 0)] xm ym om xm (ry_t0 ym) om (some (.long (ry_sum (ry_t0 ym) n nb z))) := by
  refine bd_open RX7 rfl (by decide) (Nat.le_of_ble_eq_true rfl) ?_
  intro p e s m args below meth c ls C hr hlk hS hR hl
  have hx := C.1.1
  have hb := C.1.2.1
  have hy24 := hy.2.1
  have hy6 := hy.2.2.2.1
  have hl : lv_has ls 6 [(0, .ref (bd_ea E 12 0 0))] := hl
  refine lv_aload_n hx hb dX7_digest_0 rfl (lv_at hl 0 rfl) ?_
  refine lv_iconst (v := 0) hx hb dX7_digest_1 (by decide) ?_
  refine bd_p_X7_thrown C hR hS  qf_X7_37 dX7_digest_2 (fun H locs hR hS => ?_)
  refine lv_ldc2 (v := 613) hx hb C.1.2.2.2.1 (C.1.2.2.2.2 _ qd_X7_148) dX7_digest_5 ?_
  refine lv_lstore_n (lv' := [(1, .long 613), (0, .ref (bd_ea E 12 0 0))]) hx hb dX7_digest_8 rfl hl (by decide) rfl (fun ls hl => ?_)
  refine lv_iconst (v := 0) hx hb dX7_digest_9 (by decide) ?_
  refine lv_istore_n (lv' := [(3, .int 0), (1, .long 613), (0, .ref (bd_ea E 12 0 0))]) hx hb dX7_digest_10 rfl hl (by decide) rfl (fun ls hl => ?_)
  have lp1 : ∀ (t1 j : Nat), j ≤ 7 → 7 - j < t1 → ∀ (H : Heap) (locs : List Loc), bd_Rep E xm (bd_up ym 0 0 0 0) om H → va_S (bd_A E) s.heap H locs → ∀ (ls : Array Slot), lv_has ls 6 [(3, .int (nI j)), (1, .long (ry_d1 (ry_t0 ym) n nb z j)), (0, .ref (bd_ea E 12 0 0))] → W p l e { frames := 2, cells := 61, slots := 535, locals := 47 } s m args below meth c H locs j (7 * j) (MQ below (bd_Q E xm (ry_t0 ym) om (some (.long (ry_sum (ry_t0 ym) n nb z)))) args s 61 535 (bd_A E)) (F0 m 11 ls []) := by
    intro t1
    induction t1 with
    | zero => intro j h1 h2; exact absurd h2 (Nat.not_lt_zero _)
    | succ t1 ih1 =>
      intro j hj1 hj2 H locs hR hS ls hl
      refine lv_iload_n hx hb dX7_digest_11 rfl (lv_at hl 0 rfl) ?_
      refine lv_bipush (v := 7) hx hb dX7_digest_12 (by decide) ?_
      refine lv_icmp_ge (tgt := 36) hx hb dX7_digest_14 (by decide) (fun c14 => ?_) (fun c14 => ?_)
      · skip
        have nc14 : 7 ≤ j := (nI_leI (a := 7) (b := j) (by omega) (by omega)).mp c14
        obtain rfl : 7 = j := by omega
        refine lv_iconst (v := 0) hx hb dX7_digest_36 (by decide) ?_
        refine lv_istore_n (lv' := [(3, .int 0), (1, .long (ry_d1 (ry_t0 ym) n nb z 7)), (0, .ref (bd_ea E 12 0 0))]) hx hb dX7_digest_37 rfl hl (by decide) rfl (fun ls hl => ?_)
        have lp2 : ∀ (t2 j : Nat), j ≤ 4 → 4 - j < t2 → ∀ (H : Heap) (locs : List Loc), bd_Rep E xm (bd_up ym 0 0 0 0) om H → va_S (bd_A E) s.heap H locs → ∀ (ls : Array Slot), lv_has ls 6 [(3, .int (nI j)), (1, .long (ry_d2 (ry_d1 (ry_t0 ym) n nb z 7) (ry_t0 ym) j)), (0, .ref (bd_ea E 12 0 0))] → W p l e { frames := 2, cells := 61, slots := 535, locals := 47 } s m args below meth c H locs 7 (7 * 7) (MQ below (bd_Q E xm (ry_t0 ym) om (some (.long (ry_sum (ry_t0 ym) n nb z)))) args s 61 535 (bd_A E)) (F0 m 38 ls []) := by
          intro t2
          induction t2 with
          | zero => intro j h1 h2; exact absurd h2 (Nat.not_lt_zero _)
          | succ t2 ih2 =>
            intro j hj1 hj2 H locs hR hS ls hl
            refine lv_iload_n hx hb dX7_digest_38 rfl (lv_at hl 0 rfl) ?_
            refine lv_iconst (v := 4) hx hb dX7_digest_39 (by decide) ?_
            refine lv_icmp_ge (tgt := 75) hx hb dX7_digest_40 (by decide) (fun c40 => ?_) (fun c40 => ?_)
            · skip
              have nc40 : 4 ≤ j := (nI_leI (a := 4) (b := j) (by omega) (by omega)).mp c40
              obtain rfl : 4 = j := by omega
              refine lv_iconst (v := 0) hx hb dX7_digest_75 (by decide) ?_
              refine lv_istore_n (lv' := [(3, .int 0), (1, .long (ry_d2 (ry_d1 (ry_t0 ym) n nb z 7) (ry_t0 ym) 4)), (0, .ref (bd_ea E 12 0 0))]) hx hb dX7_digest_76 rfl hl (by decide) rfl (fun ls hl => ?_)
              have lp3 : ∀ (t3 j : Nat), j ≤ n → n - j < t3 → ∀ (H : Heap) (locs : List Loc), bd_Rep E xm (bd_up ym 0 0 0 0) om H → va_S (bd_A E) s.heap H locs → ∀ (ls : Array Slot), lv_has ls 6 [(3, .int (nI j)), (1, .long (ry_d3 (ry_d2 (ry_d1 (ry_t0 ym) n nb z 7) (ry_t0 ym) 4) (ry_t0 ym) nb z j)), (0, .ref (bd_ea E 12 0 0))] → W p l e { frames := 2, cells := 61, slots := 535, locals := 47 } s m args below meth c H locs 7 (7 * 7) (MQ below (bd_Q E xm (ry_t0 ym) om (some (.long (ry_sum (ry_t0 ym) n nb z)))) args s 61 535 (bd_A E)) (F0 m 77 ls []) := by
                intro t3
                induction t3 with
                | zero => intro j h1 h2; exact absurd h2 (Nat.not_lt_zero _)
                | succ t3 ih3 =>
                  intro j hj1 hj2 H locs hR hS ls hl
                  refine lv_iload_n hx hb dX7_digest_77 rfl (lv_at hl 0 rfl) ?_
                  refine lv_aload_n hx hb dX7_digest_78 rfl (lv_at hl 2 rfl) ?_
                  refine bd_g_X7_players C hR  qf_X7_41 dX7_digest_79 ?_
                  rw [show (bd_up ym 0 0 0 0) 1 0 0 = nI n from (show ry_Sh (bd_up ym 0 0 0 0) n nb z from (ry_Sh_up hy (by decide))).1]
                  refine lv_icmp_ge (tgt := 122) hx hb dX7_digest_82 (by decide) (fun c82 => ?_) (fun c82 => ?_)
                  · skip
                    have nc82 : n ≤ j := (nI_leI (a := n) (b := j) (by omega) (by omega)).mp c82
                    obtain rfl : n = j := by omega
                    refine lv_iconst (v := 0) hx hb dX7_digest_122 (by decide) ?_
                    refine lv_istore_n (lv' := [(3, .int 0), (1, .long (ry_d3 (ry_d2 (ry_d1 (ry_t0 ym) n nb z 7) (ry_t0 ym) 4) (ry_t0 ym) nb z n)), (0, .ref (bd_ea E 12 0 0))]) hx hb dX7_digest_123 rfl hl (by decide) rfl (fun ls hl => ?_)
                    have lp4 : ∀ (t4 j : Nat), j ≤ nb → nb - j < t4 → ∀ (H : Heap) (locs : List Loc), bd_Rep E xm (bd_up ym 0 0 0 0) om H → va_S (bd_A E) s.heap H locs → ∀ (ls : Array Slot), lv_has ls 6 [(3, .int (nI j)), (1, .long (ry_d4 (ry_d3 (ry_d2 (ry_d1 (ry_t0 ym) n nb z 7) (ry_t0 ym) 4) (ry_t0 ym) nb z n) (ry_t0 ym) z j)), (0, .ref (bd_ea E 12 0 0))] → W p l e { frames := 2, cells := 61, slots := 535, locals := 47 } s m args below meth c H locs (7 + 9 * j) (49 + 81 * j) (MQ below (bd_Q E xm (ry_t0 ym) om (some (.long (ry_sum (ry_t0 ym) n nb z)))) args s 61 535 (bd_A E)) (F0 m 124 ls []) := by
                      intro t4
                      induction t4 with
                      | zero => intro j h1 h2; exact absurd h2 (Nat.not_lt_zero _)
                      | succ t4 ih4 =>
                        intro j hj1 hj2 H locs hR hS ls hl
                        refine lv_iload_n hx hb dX7_digest_124 rfl (lv_at hl 0 rfl) ?_
                        refine lv_aload_n hx hb dX7_digest_125 rfl (lv_at hl 2 rfl) ?_
                        refine bd_g_X7_bands C hR  qf_X7_48 dX7_digest_126 ?_
                        rw [show (bd_up ym 0 0 0 0) 2 0 0 = nI nb from (show ry_Sh (bd_up ym 0 0 0 0) n nb z from (ry_Sh_up hy (by decide))).2.2.1]
                        refine lv_icmp_ge (tgt := 225) hx hb dX7_digest_129 (by decide) (fun c129 => ?_) (fun c129 => ?_)
                        · skip
                          have nc129 : nb ≤ j := (nI_leI (a := nb) (b := j) (by omega) (by omega)).mp c129
                          obtain rfl : nb = j := by omega
                          refine lv_lload_n hx hb dX7_digest_225 rfl (lv_at hl 1 rfl) ?_
                          exact bd_rl C hr hlk (hR.eq rfl (by first | (simp (config := { decide := true }) only [ry_sum, eq_true c14, eq_true nc14, eq_true c40, eq_true nc40, eq_true c82, eq_true nc82, eq_true c129, eq_true nc129, ↓reduceIte, not_true_eq_false, not_false_eq_true, and_self, and_true, true_and, and_false, false_and]; done) | rfl)) hS (by show 7 + 9 * nb ≤ 61; omega) (by show 49 + 81 * nb ≤ 535; omega) dX7_digest_226 (by first | (simp (config := { decide := true }) only [ry_sum, eq_true c14, eq_true nc14, eq_true c40, eq_true nc40, eq_true c82, eq_true nc82, eq_true c129, eq_true nc129, ↓reduceIte, not_true_eq_false, not_false_eq_true, and_self, and_true, true_and, and_false, false_and]; done) | rfl)
                        · skip
                          have nc129 : ¬ nb ≤ j := fun q9 => c129 ((nI_leI (a := nb) (b := j) (by omega) (by omega)).mpr q9)
                          refine lv_iconst (v := 0) hx hb dX7_digest_132 (by decide) ?_
                          refine lv_istore (lv' := [(4, .int 0), (3, .int (nI j)), (1, .long (ry_d4 (ry_d3 (ry_d2 (ry_d1 (ry_t0 ym) n nb z 7) (ry_t0 ym) 4) (ry_t0 ym) nb z n) (ry_t0 ym) z j)), (0, .ref (bd_ea E 12 0 0))]) hx hb dX7_digest_133 hl (by decide) rfl (fun ls hl => ?_)
                          have lp5 : ∀ (t5 j2 : Nat), j2 ≤ 9 → 9 - j2 < t5 → ∀ (H : Heap) (locs : List Loc), bd_Rep E xm (bd_up ym 0 0 0 0) om H → va_S (bd_A E) s.heap H locs → ∀ (ls : Array Slot), lv_has ls 6 [(4, .int (nI j2)), (3, .int (nI j)), (1, .long (ry_w1 (ry_d4 (ry_d3 (ry_d2 (ry_d1 (ry_t0 ym) n nb z 7) (ry_t0 ym) 4) (ry_t0 ym) nb z n) (ry_t0 ym) z j) (ry_t0 ym) j (z j) j2)), (0, .ref (bd_ea E 12 0 0))] → W p l e { frames := 2, cells := 61, slots := 535, locals := 47 } s m args below meth c H locs (7 + 9 * j + j2) (49 + 81 * j + 9 * j2) (MQ below (bd_Q E xm (ry_t0 ym) om (some (.long (ry_sum (ry_t0 ym) n nb z)))) args s 61 535 (bd_A E)) (F0 m 135 ls []) := by
                            intro t5
                            induction t5 with
                            | zero => intro j2 h1 h2; exact absurd h2 (Nat.not_lt_zero _)
                            | succ t5 ih5 =>
                              intro j2 hj21 hj22 H locs hR hS ls hl
                              refine lv_iload hx hb dX7_digest_135 (lv_at hl 0 rfl) ?_
                              refine lv_bipush (v := 9) hx hb dX7_digest_137 (by decide) ?_
                              refine lv_icmp_ge (tgt := 163) hx hb dX7_digest_139 (by decide) (fun c139 => ?_) (fun c139 => ?_)
                              · skip
                                have nc139 : 9 ≤ j2 := (nI_leI (a := 9) (b := j2) (by omega) (by omega)).mp c139
                                obtain rfl : 9 = j2 := by omega
                                refine lv_iconst (v := 0) hx hb dX7_digest_163 (by decide) ?_
                                refine lv_istore (lv' := [(4, .int 0), (3, .int (nI j)), (1, .long (ry_w1 (ry_d4 (ry_d3 (ry_d2 (ry_d1 (ry_t0 ym) n nb z 7) (ry_t0 ym) 4) (ry_t0 ym) nb z n) (ry_t0 ym) z j) (ry_t0 ym) j (z j) 9)), (0, .ref (bd_ea E 12 0 0))]) hx hb dX7_digest_164 hl (by decide) rfl (fun ls hl => ?_)
                                have lp6 : ∀ (t6 j2 : Nat), j2 ≤ z j → (z j) - j2 < t6 → ∀ (H : Heap) (locs : List Loc), bd_Rep E xm (bd_up ym 0 0 0 0) om H → va_S (bd_A E) s.heap H locs → ∀ (ls : Array Slot), lv_has ls 6 [(4, .int (nI j2)), (3, .int (nI j)), (1, .long (ry_w2 (ry_w1 (ry_d4 (ry_d3 (ry_d2 (ry_d1 (ry_t0 ym) n nb z 7) (ry_t0 ym) 4) (ry_t0 ym) nb z n) (ry_t0 ym) z j) (ry_t0 ym) j (z j) 9) (ry_t0 ym) j j2)), (0, .ref (bd_ea E 12 0 0))] → W p l e { frames := 2, cells := 61, slots := 535, locals := 47 } s m args below meth c H locs (7 + 9 * j + 9) (49 + 81 * j + 9 * 9) (MQ below (bd_Q E xm (ry_t0 ym) om (some (.long (ry_sum (ry_t0 ym) n nb z)))) args s 61 535 (bd_A E)) (F0 m 166 ls []) := by
                                  intro t6
                                  induction t6 with
                                  | zero => intro j2 h1 h2; exact absurd h2 (Nat.not_lt_zero _)
                                  | succ t6 ih6 =>
                                    intro j2 hj21 hj22 H locs hR hS ls hl
                                    refine lv_iload hx hb dX7_digest_166 (lv_at hl 0 rfl) ?_
                                    refine lv_aload_n hx hb dX7_digest_168 rfl (lv_at hl 3 rfl) ?_
                                    refine bd_g_X7_seats C hR  qf_X7_13 dX7_digest_169 ?_
                                    refine lv_iload_n hx hb dX7_digest_172 rfl (lv_at hl 1 rfl) ?_
                                    refine bd_ld_14 C hR  (j := j) (by omega) dX7_digest_173 ?_
                                    have zz173 := ((show ry_Sh (bd_up ym 0 0 0 0) n nb z from (ry_Sh_up hy (by decide))).2.2.2.2.1 j (by omega)).2
                                    rw [show (bd_up ym 0 0 0 0) 14 0 j = nI (z j) from ((show ry_Sh (bd_up ym 0 0 0 0) n nb z from (ry_Sh_up hy (by decide))).2.2.2.2.1 j (by omega)).1]
                                    refine lv_icmp_ge (tgt := 219) hx hb dX7_digest_174 (by decide) (fun c174 => ?_) (fun c174 => ?_)
                                    · skip
                                      have nc174 : (z j) ≤ j2 := (nI_leI (a := (z j)) (b := j2) (by omega) (by omega)).mp c174
                                      obtain rfl : z j = j2 := by omega
                                      refine lv_iinc (v := nI (j + 1)) (lv' := [(3, .int (nI (j + 1))), (4, .int (nI (z j))), (1, .long (ry_w2 (ry_w1 (ry_d4 (ry_d3 (ry_d2 (ry_d1 (ry_t0 ym) n nb z 7) (ry_t0 ym) 4) (ry_t0 ym) nb z n) (ry_t0 ym) z j) (ry_t0 ym) j (z j) 9) (ry_t0 ym) j (z j))), (0, .ref (bd_ea E 12 0 0))]) hx hb dX7_digest_219 hl (k := 1) rfl (nI_1 j) (by decide) rfl (fun ls hl => ?_)
                                      refine lv_goto (tgt := 124) hx hb dX7_digest_222 (by decide) ?_
                                      refine W.widen (k := 7 + 9 * (j + 1)) (n := 49 + 81 * (j + 1)) (by show 7 + 9 * j + 9 ≤ 7 + 9 * (j + 1); omega) (by show 49 + 81 * j + 9 * 9 ≤ 49 + 81 * (j + 1); omega) ?_
                                      exact ih4 (j + 1) (by omega) (by omega) _ _ (hR.eq rfl rfl) hS _ (by rw [show (ry_d4 (ry_d3 (ry_d2 (ry_d1 (ry_t0 ym) n nb z 7) (ry_t0 ym) 4) (ry_t0 ym) nb z n) (ry_t0 ym) z (j + 1) : Int64) = ry_w2 (ry_w1 (ry_d4 (ry_d3 (ry_d2 (ry_d1 (ry_t0 ym) n nb z 7) (ry_t0 ym) 4) (ry_t0 ym) nb z n) (ry_t0 ym) z j) (ry_t0 ym) j (z j) 9) (ry_t0 ym) j (z j) from (by first | (simp (config := { decide := true }) only [ry_d4, eq_true c14, eq_true nc14, eq_true c40, eq_true nc40, eq_true c82, eq_true nc82, eq_false c129, eq_false nc129, eq_true c139, eq_true nc139, eq_true c174, eq_true nc174, ↓reduceIte, not_true_eq_false, not_false_eq_true, and_self, and_true, true_and, and_false, false_and]; done) | rfl)]; exact lv_sub hl [0, 2, 3] rfl)
                                    · skip
                                      have nc174 : ¬ (z j) ≤ j2 := fun q9 => c174 ((nI_leI (a := (z j)) (b := j2) (by omega) (by omega)).mpr q9)
                                      refine lv_iconst (v := 0) hx hb dX7_digest_177 (by decide) ?_
                                      refine lv_istore (lv' := [(5, .int 0), (4, .int (nI j2)), (3, .int (nI j)), (1, .long (ry_w2 (ry_w1 (ry_d4 (ry_d3 (ry_d2 (ry_d1 (ry_t0 ym) n nb z 7) (ry_t0 ym) 4) (ry_t0 ym) nb z n) (ry_t0 ym) z j) (ry_t0 ym) j (z j) 9) (ry_t0 ym) j j2)), (0, .ref (bd_ea E 12 0 0))]) hx hb dX7_digest_178 hl (by decide) rfl (fun ls hl => ?_)
                                      have lp7 : ∀ (t7 j3 : Nat), j3 ≤ 3 → 3 - j3 < t7 → ∀ (H : Heap) (locs : List Loc), bd_Rep E xm (bd_up ym 0 0 0 0) om H → va_S (bd_A E) s.heap H locs → ∀ (ls : Array Slot), lv_has ls 6 [(5, .int (nI j3)), (4, .int (nI j2)), (3, .int (nI j)), (1, .long (ry_w2i (ry_w2 (ry_w1 (ry_d4 (ry_d3 (ry_d2 (ry_d1 (ry_t0 ym) n nb z 7) (ry_t0 ym) 4) (ry_t0 ym) nb z n) (ry_t0 ym) z j) (ry_t0 ym) j (z j) 9) (ry_t0 ym) j j2) (ry_t0 ym) (8 * j + j2) j3)), (0, .ref (bd_ea E 12 0 0))] → W p l e { frames := 2, cells := 61, slots := 535, locals := 47 } s m args below meth c H locs (7 + 9 * j + 9) (49 + 81 * j + 9 * 9) (MQ below (bd_Q E xm (ry_t0 ym) om (some (.long (ry_sum (ry_t0 ym) n nb z)))) args s 61 535 (bd_A E)) (F0 m 180 ls []) := by
                                        intro t7
                                        induction t7 with
                                        | zero => intro j3 h1 h2; exact absurd h2 (Nat.not_lt_zero _)
                                        | succ t7 ih7 =>
                                          intro j3 hj31 hj32 H locs hR hS ls hl
                                          refine lv_iload hx hb dX7_digest_180 (lv_at hl 0 rfl) ?_
                                          refine lv_iconst (v := 3) hx hb dX7_digest_182 (by decide) ?_
                                          refine lv_icmp_ge (tgt := 213) hx hb dX7_digest_183 (by decide) (fun c183 => ?_) (fun c183 => ?_)
                                          · skip
                                            have nc183 : 3 ≤ j3 := (nI_leI (a := 3) (b := j3) (by omega) (by omega)).mp c183
                                            obtain rfl : 3 = j3 := by omega
                                            refine lv_iinc (v := nI (j2 + 1)) (lv' := [(4, .int (nI (j2 + 1))), (5, .int (nI 3)), (3, .int (nI j)), (1, .long (ry_w2i (ry_w2 (ry_w1 (ry_d4 (ry_d3 (ry_d2 (ry_d1 (ry_t0 ym) n nb z 7) (ry_t0 ym) 4) (ry_t0 ym) nb z n) (ry_t0 ym) z j) (ry_t0 ym) j (z j) 9) (ry_t0 ym) j j2) (ry_t0 ym) (8 * j + j2) 3)), (0, .ref (bd_ea E 12 0 0))]) hx hb dX7_digest_213 hl (k := 1) rfl (nI_1 j2) (by decide) rfl (fun ls hl => ?_)
                                            refine lv_goto (tgt := 166) hx hb dX7_digest_216 (by decide) ?_
                                            exact ih6 (j2 + 1) (by omega) (by omega) _ _ (hR.eq rfl rfl) hS _ (by rw [show (ry_w2 (ry_w1 (ry_d4 (ry_d3 (ry_d2 (ry_d1 (ry_t0 ym) n nb z 7) (ry_t0 ym) 4) (ry_t0 ym) nb z n) (ry_t0 ym) z j) (ry_t0 ym) j (z j) 9) (ry_t0 ym) j (j2 + 1) : Int64) = ry_w2i (ry_w2 (ry_w1 (ry_d4 (ry_d3 (ry_d2 (ry_d1 (ry_t0 ym) n nb z 7) (ry_t0 ym) 4) (ry_t0 ym) nb z n) (ry_t0 ym) z j) (ry_t0 ym) j (z j) 9) (ry_t0 ym) j j2) (ry_t0 ym) (8 * j + j2) 3 from (by first | (simp (config := { decide := true }) only [ry_w2, eq_true c14, eq_true nc14, eq_true c40, eq_true nc40, eq_true c82, eq_true nc82, eq_false c129, eq_false nc129, eq_true c139, eq_true nc139, eq_false c174, eq_false nc174, eq_true c183, eq_true nc183, ↓reduceIte, not_true_eq_false, not_false_eq_true, and_self, and_true, true_and, and_false, false_and]; done) | rfl)]; exact lv_sub hl [0, 2, 3, 4] rfl)
                                          · skip
                                            have nc183 : ¬ 3 ≤ j3 := fun q9 => c183 ((nI_leI (a := 3) (b := j3) (by omega) (by omega)).mpr q9)
                                            refine lv_lload_n hx hb dX7_digest_186 rfl (lv_at hl 3 rfl) ?_
                                            refine lv_ldc2 (v := 31) hx hb C.1.2.2.2.1 (C.1.2.2.2.2 _ qd_X7_150) dX7_digest_187 ?_
                                            refine lv_lmul hx hb dX7_digest_190 ?_
                                            refine lv_aload_n hx hb dX7_digest_191 rfl (lv_at hl 4 rfl) ?_
                                            refine lv_bipush (v := 8) hx hb dX7_digest_192 (by decide) ?_
                                            refine lv_iload_n hx hb dX7_digest_194 rfl (lv_at hl 2 rfl) ?_
                                            refine lv_imul hx hb dX7_digest_195 ?_
                                            refine bd_ti (j := 8 * j) (pk_mul 8 j) ?_
                                            refine lv_iload hx hb dX7_digest_196 (lv_at hl 1 rfl) ?_
                                            refine lv_iadd hx hb dX7_digest_198 ?_
                                            refine bd_ti (j := (8 * j) + j2) (nI_add (8 * j) j2) ?_
                                            refine lv_iload hx hb dX7_digest_199 (lv_at hl 0 rfl) ?_
                                            refine bd_cV1 [.int (nI ((8 * j) + j2)), .int (nI j3)] [.long ((ry_w2i (ry_w2 (ry_w1 (ry_d4 (ry_d3 (ry_d2 (ry_d1 (ry_t0 ym) n nb z 7) (ry_t0 ym) 4) (ry_t0 ym) nb z n) (ry_t0 ym) z j) (ry_t0 ym) j (z j) 9) (ry_t0 ym) j j2) (ry_t0 ym) (8 * j + j2) j3) * 31)] C (k_X7_chairTold l E xm (bd_up ym 0 0 0 0) om n nb z ((8 * j) + j2) (nI j3) (ry_Sh_up hy (by decide)) (by omega)) hR hS (bd_recv C.2 hR ⟨by decide, (by decide), (by decide)⟩ rfl rfl) qm_X7_125 qi_X7_chairTold qs_X7_chairTold qz_X7 qc_X7_chairTold qp_X7_chairTold ⟨Nat.le_of_ble_eq_true rfl, Nat.le_of_ble_eq_true rfl⟩ hl.1 (Nat.le_of_ble_eq_true rfl) dX7_digest_201 ⟨by show 7 + 9 * j + 9 + 0 ≤ 61; omega, by show 49 + 81 * j + 9 * 9 + 0 ≤ 535; omega⟩ (fun H locs hR hS hz201 => ?_)
                                            refine lv_i2l hx hb dX7_digest_204 rfl ?_
                                            refine lv_ladd hx hb dX7_digest_205 ?_
                                            refine lv_lstore_n (lv' := [(1, .long (((ry_w2i (ry_w2 (ry_w1 (ry_d4 (ry_d3 (ry_d2 (ry_d1 (ry_t0 ym) n nb z 7) (ry_t0 ym) 4) (ry_t0 ym) nb z n) (ry_t0 ym) z j) (ry_t0 ym) j (z j) 9) (ry_t0 ym) j j2) (ry_t0 ym) (8 * j + j2) j3) * 31) + ((ry_ctell (bd_up ym 0 0 0 0) ((8 * j) + j2) (nI j3)).toInt64))), (5, .int (nI j3)), (4, .int (nI j2)), (3, .int (nI j)), (0, .ref (bd_ea E 12 0 0))]) hx hb dX7_digest_206 rfl hl (by decide) rfl (fun ls hl => ?_)
                                            refine lv_iinc (v := nI (j3 + 1)) (lv' := [(5, .int (nI (j3 + 1))), (1, .long (((ry_w2i (ry_w2 (ry_w1 (ry_d4 (ry_d3 (ry_d2 (ry_d1 (ry_t0 ym) n nb z 7) (ry_t0 ym) 4) (ry_t0 ym) nb z n) (ry_t0 ym) z j) (ry_t0 ym) j (z j) 9) (ry_t0 ym) j j2) (ry_t0 ym) (8 * j + j2) j3) * 31) + ((ry_ctell (bd_up ym 0 0 0 0) ((8 * j) + j2) (nI j3)).toInt64))), (4, .int (nI j2)), (3, .int (nI j)), (0, .ref (bd_ea E 12 0 0))]) hx hb dX7_digest_207 hl (k := 1) rfl (nI_1 j3) (by decide) rfl (fun ls hl => ?_)
                                            refine lv_goto (tgt := 180) hx hb dX7_digest_210 (by decide) ?_
                                            exact ih7 (j3 + 1) (by omega) (by omega) _ _ (hR.eq rfl rfl) hS _ (by rw [show (ry_w2i (ry_w2 (ry_w1 (ry_d4 (ry_d3 (ry_d2 (ry_d1 (ry_t0 ym) n nb z 7) (ry_t0 ym) 4) (ry_t0 ym) nb z n) (ry_t0 ym) z j) (ry_t0 ym) j (z j) 9) (ry_t0 ym) j j2) (ry_t0 ym) (8 * j + j2) (j3 + 1) : Int64) = ((ry_w2i (ry_w2 (ry_w1 (ry_d4 (ry_d3 (ry_d2 (ry_d1 (ry_t0 ym) n nb z 7) (ry_t0 ym) 4) (ry_t0 ym) nb z n) (ry_t0 ym) z j) (ry_t0 ym) j (z j) 9) (ry_t0 ym) j j2) (ry_t0 ym) (8 * j + j2) j3) * 31) + ((ry_ctell (bd_up ym 0 0 0 0) ((8 * j) + j2) (nI j3)).toInt64) from (by first | (simp (config := { decide := true }) only [ry_w2i, eq_true c14, eq_true nc14, eq_true c40, eq_true nc40, eq_true c82, eq_true nc82, eq_false c129, eq_false nc129, eq_true c139, eq_true nc139, eq_false c174, eq_false nc174, eq_false c183, eq_false nc183, ↓reduceIte, not_true_eq_false, not_false_eq_true, and_self, and_true, true_and, and_false, false_and]; done) | rfl)]; exact lv_sub hl [0, 2, 3, 1, 4] rfl)
                                      exact lp7 (3 + 1) 0 (by omega) (by omega) _ _ (hR.eq rfl rfl) hS _ (by rw [show (nI 0 : Int32) = 0 from by rfl]; rw [show (ry_w2i (ry_w2 (ry_w1 (ry_d4 (ry_d3 (ry_d2 (ry_d1 (ry_t0 ym) n nb z 7) (ry_t0 ym) 4) (ry_t0 ym) nb z n) (ry_t0 ym) z j) (ry_t0 ym) j (z j) 9) (ry_t0 ym) j j2) (ry_t0 ym) (8 * j + j2) 0 : Int64) = ry_w2 (ry_w1 (ry_d4 (ry_d3 (ry_d2 (ry_d1 (ry_t0 ym) n nb z 7) (ry_t0 ym) 4) (ry_t0 ym) nb z n) (ry_t0 ym) z j) (ry_t0 ym) j (z j) 9) (ry_t0 ym) j j2 from by rfl]; exact lv_sub hl [0, 1, 2, 3, 4] rfl)
                                exact lp6 ((z j) + 1) 0 (by omega) (by omega) _ _ (hR.eq rfl rfl) hS _ (by rw [show (nI 0 : Int32) = 0 from by rfl]; rw [show (ry_w2 (ry_w1 (ry_d4 (ry_d3 (ry_d2 (ry_d1 (ry_t0 ym) n nb z 7) (ry_t0 ym) 4) (ry_t0 ym) nb z n) (ry_t0 ym) z j) (ry_t0 ym) j (z j) 9) (ry_t0 ym) j 0 : Int64) = ry_w1 (ry_d4 (ry_d3 (ry_d2 (ry_d1 (ry_t0 ym) n nb z 7) (ry_t0 ym) 4) (ry_t0 ym) nb z n) (ry_t0 ym) z j) (ry_t0 ym) j (z j) 9 from by rfl]; exact lv_sub hl [0, 1, 2, 3] rfl)
                              · skip
                                have nc139 : ¬ 9 ≤ j2 := fun q9 => c139 ((nI_leI (a := 9) (b := j2) (by omega) (by omega)).mpr q9)
                                refine lv_lload_n hx hb dX7_digest_142 rfl (lv_at hl 2 rfl) ?_
                                refine lv_ldc2 (v := 31) hx hb C.1.2.2.2.1 (C.1.2.2.2.2 _ qd_X7_150) dX7_digest_143 ?_
                                refine lv_lmul hx hb dX7_digest_146 ?_
                                refine lv_aload_n hx hb dX7_digest_147 rfl (lv_at hl 3 rfl) ?_
                                refine lv_iload_n hx hb dX7_digest_148 rfl (lv_at hl 1 rfl) ?_
                                refine lv_iload hx hb dX7_digest_149 (lv_at hl 0 rfl) ?_
                                refine bd_cV1 [.int (nI j), .int (nI j2)] [.long ((ry_w1 (ry_d4 (ry_d3 (ry_d2 (ry_d1 (ry_t0 ym) n nb z 7) (ry_t0 ym) 4) (ry_t0 ym) nb z n) (ry_t0 ym) z j) (ry_t0 ym) j (z j) j2) * 31)] C (k_X7_bandTold l E xm (bd_up ym 0 0 0 0) om n nb z j j2 (ry_Sh_up hy (by decide)) (by omega) (by omega)) hR hS (bd_recv C.2 hR ⟨by decide, (by decide), (by decide)⟩ rfl rfl) qm_X7_122 qi_X7_bandTold qs_X7_bandTold qz_X7 qc_X7_bandTold qp_X7_bandTold ⟨Nat.le_of_ble_eq_true rfl, Nat.le_of_ble_eq_true rfl⟩ hl.1 (Nat.le_of_ble_eq_true rfl) dX7_digest_151 ⟨by show 7 + 9 * j + j2 + 1 ≤ 61; omega, by show 49 + 81 * j + 9 * j2 + 9 ≤ 535; omega⟩ (fun H locs hR hS hz151 => ?_)
                                refine lv_i2l hx hb dX7_digest_154 rfl ?_
                                refine lv_ladd hx hb dX7_digest_155 ?_
                                refine lv_lstore_n (lv' := [(1, .long (((ry_w1 (ry_d4 (ry_d3 (ry_d2 (ry_d1 (ry_t0 ym) n nb z 7) (ry_t0 ym) 4) (ry_t0 ym) nb z n) (ry_t0 ym) z j) (ry_t0 ym) j (z j) j2) * 31) + ((ry_bt (bd_up ym 0 0 0 0) j (z j) j2).toInt64))), (4, .int (nI j2)), (3, .int (nI j)), (0, .ref (bd_ea E 12 0 0))]) hx hb dX7_digest_156 rfl hl (by decide) rfl (fun ls hl => ?_)
                                refine lv_iinc (v := nI (j2 + 1)) (lv' := [(4, .int (nI (j2 + 1))), (1, .long (((ry_w1 (ry_d4 (ry_d3 (ry_d2 (ry_d1 (ry_t0 ym) n nb z 7) (ry_t0 ym) 4) (ry_t0 ym) nb z n) (ry_t0 ym) z j) (ry_t0 ym) j (z j) j2) * 31) + ((ry_bt (bd_up ym 0 0 0 0) j (z j) j2).toInt64))), (3, .int (nI j)), (0, .ref (bd_ea E 12 0 0))]) hx hb dX7_digest_157 hl (k := 1) rfl (nI_1 j2) (by decide) rfl (fun ls hl => ?_)
                                refine lv_goto (tgt := 135) hx hb dX7_digest_160 (by decide) ?_
                                refine W.widen (k := 7 + 9 * j + (j2 + 1)) (n := 49 + 81 * j + 9 * (j2 + 1)) (by show (7 + 9 * j + j2 + 1) ≤ 7 + 9 * j + (j2 + 1); omega) (by show (49 + 81 * j + 9 * j2 + 9) ≤ 49 + 81 * j + 9 * (j2 + 1); omega) ?_
                                exact ih5 (j2 + 1) (by omega) (by omega) _ _ (hR.eq rfl rfl) hS _ (by rw [show (ry_w1 (ry_d4 (ry_d3 (ry_d2 (ry_d1 (ry_t0 ym) n nb z 7) (ry_t0 ym) 4) (ry_t0 ym) nb z n) (ry_t0 ym) z j) (ry_t0 ym) j (z j) (j2 + 1) : Int64) = ((ry_w1 (ry_d4 (ry_d3 (ry_d2 (ry_d1 (ry_t0 ym) n nb z 7) (ry_t0 ym) 4) (ry_t0 ym) nb z n) (ry_t0 ym) z j) (ry_t0 ym) j (z j) j2) * 31) + ((ry_bt (bd_up ym 0 0 0 0) j (z j) j2).toInt64) from (by first | (simp (config := { decide := true }) only [ry_w1, eq_true c14, eq_true nc14, eq_true c40, eq_true nc40, eq_true c82, eq_true nc82, eq_false c129, eq_false nc129, eq_false c139, eq_false nc139, ↓reduceIte, not_true_eq_false, not_false_eq_true, and_self, and_true, true_and, and_false, false_and]; done) | rfl)]; exact lv_sub hl [0, 2, 1, 3] rfl)
                          refine W.widen (k := 7 + 9 * j + 0) (n := 49 + 81 * j + 9 * 0) (by show 7 + 9 * j ≤ 7 + 9 * j + 0; omega) (by show 49 + 81 * j ≤ 49 + 81 * j + 9 * 0; omega) ?_
                          exact lp5 (9 + 1) 0 (by omega) (by omega) _ _ (hR.eq rfl rfl) hS _ (by rw [show (nI 0 : Int32) = 0 from by rfl]; rw [show (ry_w1 (ry_d4 (ry_d3 (ry_d2 (ry_d1 (ry_t0 ym) n nb z 7) (ry_t0 ym) 4) (ry_t0 ym) nb z n) (ry_t0 ym) z j) (ry_t0 ym) j (z j) 0 : Int64) = ry_d4 (ry_d3 (ry_d2 (ry_d1 (ry_t0 ym) n nb z 7) (ry_t0 ym) 4) (ry_t0 ym) nb z n) (ry_t0 ym) z j from by rfl]; exact lv_sub hl [0, 1, 2, 3] rfl)
                    refine W.widen (k := 7 + 9 * 0) (n := 49 + 81 * 0) (by show 7 ≤ 7 + 9 * 0; omega) (by show 7 * 7 ≤ 49 + 81 * 0; omega) ?_
                    exact lp4 (nb + 1) 0 (by omega) (by omega) _ _ (hR.eq rfl rfl) hS _ (by first | exact lv_sub hl [0, 1, 2] rfl | (rw [show (nI 0 : Int32) = 0 from by first | rfl | decide | simp [nI_0]]; rw [show (ry_d4 (ry_d3 (ry_d2 (ry_d1 (ry_t0 ym) n nb z 7) (ry_t0 ym) 4) (ry_t0 ym) nb z n) (ry_t0 ym) z 0 : Int32) = ry_d3 (ry_d2 (ry_d1 (ry_t0 ym) n nb z 7) (ry_t0 ym) 4) (ry_t0 ym) nb z n from by first | rfl | decide | simp [nI_0]]; exact lv_sub hl [0, 1, 2] rfl))
                  · skip
                    have nc82 : ¬ n ≤ j := fun q9 => c82 ((nI_leI (a := n) (b := j) (by omega) (by omega)).mpr q9)
                    refine lv_iconst (v := 0) hx hb dX7_digest_85 (by decide) ?_
                    refine lv_istore (lv' := [(4, .int 0), (3, .int (nI j)), (1, .long (ry_d3 (ry_d2 (ry_d1 (ry_t0 ym) n nb z 7) (ry_t0 ym) 4) (ry_t0 ym) nb z j)), (0, .ref (bd_ea E 12 0 0))]) hx hb dX7_digest_86 hl (by decide) rfl (fun ls hl => ?_)
                    have lp8 : ∀ (t8 j2 : Nat), j2 ≤ 10 → 10 - j2 < t8 → ∀ (H : Heap) (locs : List Loc), bd_Rep E xm (bd_up ym 0 0 0 0) om H → va_S (bd_A E) s.heap H locs → ∀ (ls : Array Slot), lv_has ls 6 [(4, .int (nI j2)), (3, .int (nI j)), (1, .long (ry_d3i (ry_d3 (ry_d2 (ry_d1 (ry_t0 ym) n nb z 7) (ry_t0 ym) 4) (ry_t0 ym) nb z j) (ry_t0 ym) nb z j j2)), (0, .ref (bd_ea E 12 0 0))] → W p l e { frames := 2, cells := 61, slots := 535, locals := 47 } s m args below meth c H locs 7 (7 * 7) (MQ below (bd_Q E xm (ry_t0 ym) om (some (.long (ry_sum (ry_t0 ym) n nb z)))) args s 61 535 (bd_A E)) (F0 m 88 ls []) := by
                      intro t8
                      induction t8 with
                      | zero => intro j2 h1 h2; exact absurd h2 (Nat.not_lt_zero _)
                      | succ t8 ih8 =>
                        intro j2 hj21 hj22 H locs hR hS ls hl
                        refine lv_iload hx hb dX7_digest_88 (lv_at hl 0 rfl) ?_
                        refine lv_bipush (v := 10) hx hb dX7_digest_90 (by decide) ?_
                        refine lv_icmp_ge (tgt := 116) hx hb dX7_digest_92 (by decide) (fun c92 => ?_) (fun c92 => ?_)
                        · skip
                          have nc92 : 10 ≤ j2 := (nI_leI (a := 10) (b := j2) (by omega) (by omega)).mp c92
                          obtain rfl : 10 = j2 := by omega
                          refine lv_iinc (v := nI (j + 1)) (lv' := [(3, .int (nI (j + 1))), (4, .int (nI 10)), (1, .long (ry_d3i (ry_d3 (ry_d2 (ry_d1 (ry_t0 ym) n nb z 7) (ry_t0 ym) 4) (ry_t0 ym) nb z j) (ry_t0 ym) nb z j 10)), (0, .ref (bd_ea E 12 0 0))]) hx hb dX7_digest_116 hl (k := 1) rfl (nI_1 j) (by decide) rfl (fun ls hl => ?_)
                          refine lv_goto (tgt := 77) hx hb dX7_digest_119 (by decide) ?_
                          exact ih3 (j + 1) (by omega) (by omega) _ _ (hR.eq rfl rfl) hS _ (by rw [show (ry_d3 (ry_d2 (ry_d1 (ry_t0 ym) n nb z 7) (ry_t0 ym) 4) (ry_t0 ym) nb z (j + 1) : Int64) = ry_d3i (ry_d3 (ry_d2 (ry_d1 (ry_t0 ym) n nb z 7) (ry_t0 ym) 4) (ry_t0 ym) nb z j) (ry_t0 ym) nb z j 10 from (by first | (simp (config := { decide := true }) only [ry_d3, eq_true c14, eq_true nc14, eq_true c40, eq_true nc40, eq_false c82, eq_false nc82, eq_true c92, eq_true nc92, ↓reduceIte, not_true_eq_false, not_false_eq_true, and_self, and_true, true_and, and_false, false_and]; done) | rfl)]; exact lv_sub hl [0, 2, 3] rfl)
                        · skip
                          have nc92 : ¬ 10 ≤ j2 := fun q9 => c92 ((nI_leI (a := 10) (b := j2) (by omega) (by omega)).mpr q9)
                          refine lv_lload_n hx hb dX7_digest_95 rfl (lv_at hl 2 rfl) ?_
                          refine lv_ldc2 (v := 31) hx hb C.1.2.2.2.1 (C.1.2.2.2.2 _ qd_X7_150) dX7_digest_96 ?_
                          refine lv_lmul hx hb dX7_digest_99 ?_
                          refine lv_aload_n hx hb dX7_digest_100 rfl (lv_at hl 3 rfl) ?_
                          refine lv_iload_n hx hb dX7_digest_101 rfl (lv_at hl 1 rfl) ?_
                          refine lv_iload hx hb dX7_digest_102 (lv_at hl 0 rfl) ?_
                          refine bd_cV1 [.int (nI j), .int (nI j2)] [.long ((ry_d3i (ry_d3 (ry_d2 (ry_d1 (ry_t0 ym) n nb z 7) (ry_t0 ym) 4) (ry_t0 ym) nb z j) (ry_t0 ym) nb z j j2) * 31)] C (k_X7_playerTold l E xm (bd_up ym 0 0 0 0) om n nb z j j2 (ry_Sh_up hy (by decide)) (by omega) (by omega)) hR hS (bd_recv C.2 hR ⟨by decide, (by decide), (by decide)⟩ rfl rfl) qm_X7_110 qi_X7_playerTold qs_X7_playerTold qz_X7 qc_X7_playerTold qp_X7_playerTold ⟨Nat.le_of_ble_eq_true rfl, Nat.le_of_ble_eq_true rfl⟩ hl.1 (Nat.le_of_ble_eq_true rfl) dX7_digest_104 ⟨by show 7 + 0 ≤ 61; omega, by show 7 * 7 + 0 ≤ 535; omega⟩ (fun H locs hR hS hz104 => ?_)
                          refine lv_i2l hx hb dX7_digest_107 rfl ?_
                          refine lv_ladd hx hb dX7_digest_108 ?_
                          refine lv_lstore_n (lv' := [(1, .long (((ry_d3i (ry_d3 (ry_d2 (ry_d1 (ry_t0 ym) n nb z 7) (ry_t0 ym) 4) (ry_t0 ym) nb z j) (ry_t0 ym) nb z j j2) * 31) + ((ry_ptell (bd_up ym 0 0 0 0) nb z j j2).toInt64))), (4, .int (nI j2)), (3, .int (nI j)), (0, .ref (bd_ea E 12 0 0))]) hx hb dX7_digest_109 rfl hl (by decide) rfl (fun ls hl => ?_)
                          refine lv_iinc (v := nI (j2 + 1)) (lv' := [(4, .int (nI (j2 + 1))), (1, .long (((ry_d3i (ry_d3 (ry_d2 (ry_d1 (ry_t0 ym) n nb z 7) (ry_t0 ym) 4) (ry_t0 ym) nb z j) (ry_t0 ym) nb z j j2) * 31) + ((ry_ptell (bd_up ym 0 0 0 0) nb z j j2).toInt64))), (3, .int (nI j)), (0, .ref (bd_ea E 12 0 0))]) hx hb dX7_digest_110 hl (k := 1) rfl (nI_1 j2) (by decide) rfl (fun ls hl => ?_)
                          refine lv_goto (tgt := 88) hx hb dX7_digest_113 (by decide) ?_
                          exact ih8 (j2 + 1) (by omega) (by omega) _ _ (hR.eq rfl rfl) hS _ (by rw [show (ry_d3i (ry_d3 (ry_d2 (ry_d1 (ry_t0 ym) n nb z 7) (ry_t0 ym) 4) (ry_t0 ym) nb z j) (ry_t0 ym) nb z j (j2 + 1) : Int64) = ((ry_d3i (ry_d3 (ry_d2 (ry_d1 (ry_t0 ym) n nb z 7) (ry_t0 ym) 4) (ry_t0 ym) nb z j) (ry_t0 ym) nb z j j2) * 31) + ((ry_ptell (bd_up ym 0 0 0 0) nb z j j2).toInt64) from (by first | (simp (config := { decide := true }) only [ry_d3i, eq_true c14, eq_true nc14, eq_true c40, eq_true nc40, eq_false c82, eq_false nc82, eq_false c92, eq_false nc92, ↓reduceIte, not_true_eq_false, not_false_eq_true, and_self, and_true, true_and, and_false, false_and]; done) | rfl)]; exact lv_sub hl [0, 2, 1, 3] rfl)
                    exact lp8 (10 + 1) 0 (by omega) (by omega) _ _ (hR.eq rfl rfl) hS _ (by rw [show (nI 0 : Int32) = 0 from by rfl]; rw [show (ry_d3i (ry_d3 (ry_d2 (ry_d1 (ry_t0 ym) n nb z 7) (ry_t0 ym) 4) (ry_t0 ym) nb z j) (ry_t0 ym) nb z j 0 : Int64) = ry_d3 (ry_d2 (ry_d1 (ry_t0 ym) n nb z 7) (ry_t0 ym) 4) (ry_t0 ym) nb z j from by rfl]; exact lv_sub hl [0, 1, 2, 3] rfl)
              exact lp3 (n + 1) 0 (by omega) (by omega) _ _ (hR.eq rfl rfl) hS _ (by first | exact lv_sub hl [0, 1, 2] rfl | (rw [show (nI 0 : Int32) = 0 from by first | rfl | decide | simp [nI_0]]; rw [show (ry_d3 (ry_d2 (ry_d1 (ry_t0 ym) n nb z 7) (ry_t0 ym) 4) (ry_t0 ym) nb z 0 : Int32) = ry_d2 (ry_d1 (ry_t0 ym) n nb z 7) (ry_t0 ym) 4 from by first | rfl | decide | simp [nI_0]]; exact lv_sub hl [0, 1, 2] rfl))
            · skip
              have nc40 : ¬ 4 ≤ j := fun q9 => c40 ((nI_leI (a := 4) (b := j) (by omega) (by omega)).mpr q9)
              refine lv_lload_n hx hb dX7_digest_43 rfl (lv_at hl 1 rfl) ?_
              refine lv_ldc2 (v := 31) hx hb C.1.2.2.2.1 (C.1.2.2.2.2 _ qd_X7_150) dX7_digest_44 ?_
              refine lv_lmul hx hb dX7_digest_47 ?_
              refine lv_aload_n hx hb dX7_digest_48 rfl (lv_at hl 2 rfl) ?_
              refine bd_g_X7_hard C hR  qf_X7_19 dX7_digest_49 ?_
              refine lv_iload_n hx hb dX7_digest_52 rfl (lv_at hl 0 rfl) ?_
              refine bd_ld_16 C hR  (j := j) (by omega) dX7_digest_53 ?_
              refine lv_i2l hx hb dX7_digest_54 rfl ?_
              refine lv_ladd hx hb dX7_digest_55 ?_
              refine lv_ldc2 (v := 31) hx hb C.1.2.2.2.1 (C.1.2.2.2.2 _ qd_X7_150) dX7_digest_56 ?_
              refine lv_lmul hx hb dX7_digest_59 ?_
              refine lv_aload_n hx hb dX7_digest_60 rfl (lv_at hl 2 rfl) ?_
              refine bd_g_X7_weight C hR  qf_X7_22 dX7_digest_61 ?_
              refine lv_iload_n hx hb dX7_digest_64 rfl (lv_at hl 0 rfl) ?_
              refine bd_ld_17 C hR  (j := j) (by omega) dX7_digest_65 ?_
              refine lv_i2l hx hb dX7_digest_66 rfl ?_
              refine lv_ladd hx hb dX7_digest_67 ?_
              refine lv_lstore_n (lv' := [(1, .long (((((ry_d2 (ry_d1 (ry_t0 ym) n nb z 7) (ry_t0 ym) j) * 31) + (((bd_up ym 0 0 0 0) 16 0 j).toInt64)) * 31) + (((bd_up ym 0 0 0 0) 17 0 j).toInt64))), (3, .int (nI j)), (0, .ref (bd_ea E 12 0 0))]) hx hb dX7_digest_68 rfl hl (by decide) rfl (fun ls hl => ?_)
              refine lv_iinc (v := nI (j + 1)) (lv' := [(3, .int (nI (j + 1))), (1, .long (((((ry_d2 (ry_d1 (ry_t0 ym) n nb z 7) (ry_t0 ym) j) * 31) + (((bd_up ym 0 0 0 0) 16 0 j).toInt64)) * 31) + (((bd_up ym 0 0 0 0) 17 0 j).toInt64))), (0, .ref (bd_ea E 12 0 0))]) hx hb dX7_digest_69 hl (k := 1) rfl (nI_1 j) (by decide) rfl (fun ls hl => ?_)
              refine lv_goto (tgt := 38) hx hb dX7_digest_72 (by decide) ?_
              exact ih2 (j + 1) (by omega) (by omega) _ _ (hR.eq rfl rfl) hS _ (by rw [show (ry_d2 (ry_d1 (ry_t0 ym) n nb z 7) (ry_t0 ym) (j + 1) : Int64) = ((((ry_d2 (ry_d1 (ry_t0 ym) n nb z 7) (ry_t0 ym) j) * 31) + (((bd_up ym 0 0 0 0) 16 0 j).toInt64)) * 31) + (((bd_up ym 0 0 0 0) 17 0 j).toInt64) from (by first | (simp (config := { decide := true }) only [ry_d2, eq_true c14, eq_true nc14, eq_false c40, eq_false nc40, ↓reduceIte, not_true_eq_false, not_false_eq_true, and_self, and_true, true_and, and_false, false_and]; done) | rfl)]; exact lv_sub hl [0, 1, 2] rfl)
        exact lp2 (4 + 1) 0 (by omega) (by omega) _ _ (hR.eq rfl rfl) hS _ (by first | exact lv_sub hl [0, 1, 2] rfl | (rw [show (nI 0 : Int32) = 0 from by first | rfl | decide | simp [nI_0]]; rw [show (ry_d2 (ry_d1 (ry_t0 ym) n nb z 7) (ry_t0 ym) 0 : Int32) = ry_d1 (ry_t0 ym) n nb z 7 from by first | rfl | decide | simp [nI_0]]; exact lv_sub hl [0, 1, 2] rfl))
      · skip
        have nc14 : ¬ 7 ≤ j := fun q9 => c14 ((nI_leI (a := 7) (b := j) (by omega) (by omega)).mpr q9)
        refine lv_lload_n hx hb dX7_digest_17 rfl (lv_at hl 1 rfl) ?_
        refine lv_ldc2 (v := 31) hx hb C.1.2.2.2.1 (C.1.2.2.2.2 _ qd_X7_150) dX7_digest_18 ?_
        refine lv_lmul hx hb dX7_digest_21 ?_
        refine lv_aload_n hx hb dX7_digest_22 rfl (lv_at hl 2 rfl) ?_
        refine lv_iload_n hx hb dX7_digest_23 rfl (lv_at hl 0 rfl) ?_
        refine bd_cV1 [.int (nI j)] [.long ((ry_d1 (ry_t0 ym) n nb z j) * 31)] C (k_X7_counted l E xm (bd_up ym 0 0 0 0) om n nb z j (ry_Sh_up hy (by decide)) (by omega)) hR hS (bd_recv C.2 hR ⟨by decide, (by decide), (by decide)⟩ rfl rfl) qm_X7_141 qi_X7_counted qs_X7_counted qz_X7 qc_X7_counted qp_X7_counted ⟨Nat.le_of_ble_eq_true rfl, Nat.le_of_ble_eq_true rfl⟩ hl.1 (Nat.le_of_ble_eq_true rfl) dX7_digest_24 ⟨by show j + 1 ≤ 61; omega, by show 7 * j + 7 ≤ 535; omega⟩ (fun H locs hR hS hz24 => ?_)
        refine lv_i2l hx hb dX7_digest_27 rfl ?_
        refine lv_ladd hx hb dX7_digest_28 ?_
        refine lv_lstore_n (lv' := [(1, .long (((ry_d1 (ry_t0 ym) n nb z j) * 31) + ((ry_ct (bd_up ym 0 0 0 0) n nb z j).toInt64))), (3, .int (nI j)), (0, .ref (bd_ea E 12 0 0))]) hx hb dX7_digest_29 rfl hl (by decide) rfl (fun ls hl => ?_)
        refine lv_iinc (v := nI (j + 1)) (lv' := [(3, .int (nI (j + 1))), (1, .long (((ry_d1 (ry_t0 ym) n nb z j) * 31) + ((ry_ct (bd_up ym 0 0 0 0) n nb z j).toInt64))), (0, .ref (bd_ea E 12 0 0))]) hx hb dX7_digest_30 hl (k := 1) rfl (nI_1 j) (by decide) rfl (fun ls hl => ?_)
        refine lv_goto (tgt := 11) hx hb dX7_digest_33 (by decide) ?_
        exact ih1 (j + 1) (by omega) (by omega) _ _ (hR.eq rfl rfl) hS _ (by rw [show (ry_d1 (ry_t0 ym) n nb z (j + 1) : Int64) = ((ry_d1 (ry_t0 ym) n nb z j) * 31) + ((ry_ct (bd_up ym 0 0 0 0) n nb z j).toInt64) from (by first | (simp (config := { decide := true }) only [ry_d1, eq_false c14, eq_false nc14, ↓reduceIte, not_true_eq_false, not_false_eq_true, and_self, and_true, true_and, and_false, false_and]; done) | rfl)]; exact lv_sub hl [0, 1, 2] rfl)
  exact lp1 (7 + 1) 0 (by omega) (by omega) _ _ (hR.eq rfl rfl) hS _ (by first | exact lv_sub hl [0, 1, 2] rfl | (rw [show (nI 0 : Int32) = 0 from by first | rfl | decide | simp [nI_0]]; rw [show (ry_d1 (ry_t0 ym) n nb z 0 : Int32) = 613 from by first | rfl | decide | simp [nI_0]]; exact lv_sub hl [0, 1, 2] rfl))
