/-! THE CLASS'S PUBLIC FACE, where it refuses -/
set_option maxHeartbeats 4000000 in
set_option maxRecDepth 100000 in
theorem k_X5_needInstrument_x (l : Launch) (hlf : l.stackTraces = false) (E : bd_E) (xm ym : bd_M) (om : Nat → Int64) (u : Int32) (h : ¬ (¬ u < 0 ∧ u < 4)) : bd_Xt l yX5_needInstrument cX5_needInstrument 1 none 6 96 1 6 E [.int u] xm ym om "java/lang/IndexOutOfBoundsException" := by
  refine bd_openX RX5 rfl (by decide) (Nat.le_of_ble_eq_true rfl) ?_
  intro p e s m args below meth c ls C Z hne hr hlk hS hR hl
  have hx := C.1.1
  have hb := C.1.2.1
  have hl : lv_has ls 1 [(0, .int u)] := hl
  refine lv_iload_n hx hb dX5_needInstrument_0 rfl (lv_at hl 0 rfl) ?_
  refine lv_if_lt (tgt := 9) hx hb dX5_needInstrument_1 (by decide) (fun c1 => ?_) (fun c1 => ?_)
  · skip
    exact bd_thr (is := 184) (text := "no such instrument") C Z hlf hlk hne hR hS hl.1 (by decide +kernel) qk_X5_146 qz_IndexOutOfBoundsException (by decide) bd_at_IndexOutOfBoundsException bd_ng_IndexOutOfBoundsException bd_ot_IndexOutOfBoundsException dX5_needInstrument_9 dX5_needInstrument_12 dX5_needInstrument_13 dX5_needInstrument_15 dX5_needInstrument_18 (Nat.le_of_ble_eq_true rfl) (Nat.le_of_ble_eq_true rfl) (Nat.le_of_ble_eq_true rfl) (Nat.le_of_ble_eq_true rfl) (Nat.le_of_ble_eq_true rfl) (Nat.le_of_ble_eq_true rfl)
  · skip
    refine lv_iload_n hx hb dX5_needInstrument_4 rfl (lv_at hl 0 rfl) ?_
    refine lv_iconst (v := 4) hx hb dX5_needInstrument_5 (by decide) ?_
    refine lv_icmp_lt (tgt := 19) hx hb dX5_needInstrument_6 (by decide) (fun c6 => ?_) (fun c6 => ?_)
    · exact absurd ⟨c1, c6⟩ h
    · skip
      exact bd_thr (is := 184) (text := "no such instrument") C Z hlf hlk hne hR hS hl.1 (by decide +kernel) qk_X5_146 qz_IndexOutOfBoundsException (by decide) bd_at_IndexOutOfBoundsException bd_ng_IndexOutOfBoundsException bd_ot_IndexOutOfBoundsException dX5_needInstrument_9 dX5_needInstrument_12 dX5_needInstrument_13 dX5_needInstrument_15 dX5_needInstrument_18 (Nat.le_of_ble_eq_true rfl) (Nat.le_of_ble_eq_true rfl) (Nat.le_of_ble_eq_true rfl) (Nat.le_of_ble_eq_true rfl) (Nat.le_of_ble_eq_true rfl) (Nat.le_of_ble_eq_true rfl)
set_option maxHeartbeats 4000000 in
set_option maxRecDepth 100000 in
theorem k_X5_needWhat_x (l : Launch) (hlf : l.stackTraces = false) (E : bd_E) (xm ym : bd_M) (om : Nat → Int64) (u : Int32) (t : Int32) (h : ¬ (¬ u < 0 ∧ u < t)) : bd_Xt l yX5_needWhat cX5_needWhat 2 none 6 96 1 6 E [.int u, .int t] xm ym om "java/lang/IndexOutOfBoundsException" := by
  refine bd_openX RX5 rfl (by decide) (Nat.le_of_ble_eq_true rfl) ?_
  intro p e s m args below meth c ls C Z hne hr hlk hS hR hl
  have hx := C.1.1
  have hb := C.1.2.1
  have hl : lv_has ls 2 [(0, .int u), (1, .int t)] := hl
  refine lv_iload_n hx hb dX5_needWhat_0 rfl (lv_at hl 0 rfl) ?_
  refine lv_if_lt (tgt := 9) hx hb dX5_needWhat_1 (by decide) (fun c1 => ?_) (fun c1 => ?_)
  · skip
    exact bd_thr (is := 186) (text := "nothing is told by this number") C Z hlf hlk hne hR hS hl.1 (by decide +kernel) qk_X5_146 qz_IndexOutOfBoundsException (by decide) bd_at_IndexOutOfBoundsException bd_ng_IndexOutOfBoundsException bd_ot_IndexOutOfBoundsException dX5_needWhat_9 dX5_needWhat_12 dX5_needWhat_13 dX5_needWhat_15 dX5_needWhat_18 (Nat.le_of_ble_eq_true rfl) (Nat.le_of_ble_eq_true rfl) (Nat.le_of_ble_eq_true rfl) (Nat.le_of_ble_eq_true rfl) (Nat.le_of_ble_eq_true rfl) (Nat.le_of_ble_eq_true rfl)
  · skip
    refine lv_iload_n hx hb dX5_needWhat_4 rfl (lv_at hl 0 rfl) ?_
    refine lv_iload_n hx hb dX5_needWhat_5 rfl (lv_at hl 1 rfl) ?_
    refine lv_icmp_lt (tgt := 19) hx hb dX5_needWhat_6 (by decide) (fun c6 => ?_) (fun c6 => ?_)
    · exact absurd ⟨c1, c6⟩ h
    · skip
      exact bd_thr (is := 186) (text := "nothing is told by this number") C Z hlf hlk hne hR hS hl.1 (by decide +kernel) qk_X5_146 qz_IndexOutOfBoundsException (by decide) bd_at_IndexOutOfBoundsException bd_ng_IndexOutOfBoundsException bd_ot_IndexOutOfBoundsException dX5_needWhat_9 dX5_needWhat_12 dX5_needWhat_13 dX5_needWhat_15 dX5_needWhat_18 (Nat.le_of_ble_eq_true rfl) (Nat.le_of_ble_eq_true rfl) (Nat.le_of_ble_eq_true rfl) (Nat.le_of_ble_eq_true rfl) (Nat.le_of_ble_eq_true rfl) (Nat.le_of_ble_eq_true rfl)
set_option maxHeartbeats 4000000 in
set_option maxRecDepth 100000 in
theorem k_X5_needPlayer_x (l : Launch) (hlf : l.stackTraces = false) (E : bd_E) (xm ym : bd_M) (om : Nat → Int64) (n : Nat) (nb : Nat) (z : (Nat→Nat)) (u : Int32) (hs : kx_Sh xm 0 n nb z) (h : ¬ (¬ u < 0 ∧ u < nI n)) : bd_Xt l yX5_needPlayer cX5_needPlayer 3 (some (.object "BandDay$Player")) 6 96 1 6 E [.ref (bd_ea E 0 0 0), .int u] xm ym om "java/lang/IndexOutOfBoundsException" := by
  refine bd_openX RX5 rfl (by decide) (Nat.le_of_ble_eq_true rfl) ?_
  intro p e s m args below meth c ls C Z hne hr hlk hS hR hl
  have hx := C.1.1
  have hb := C.1.2.1
  have hs24 := hs.2.1
  have hs6 := hs.2.2.2.1
  have hl : lv_has ls 3 [(0, .ref (bd_ea E 0 0 0)), (1, .int u)] := hl
  refine lv_aload_n hx hb dX5_needPlayer_0 rfl (lv_at hl 0 rfl) ?_
  refine bd_g_X5_season C hR  qf_X5_20 dX5_needPlayer_1 ?_
  refine lv_iload_n hx hb dX5_needPlayer_4 rfl (lv_at hl 1 rfl) ?_
  refine bd_cV1 [.int u] [] C (k_X4_playerAt l E xm ym om 0 n nb z u (by omega) hs) hR hS (bd_recv C.2 hR ⟨by decide, (by decide), (by decide)⟩ rfl rfl) qm_X5_188 qi_X4_playerAt qs_X4_playerAt qz_X4 qc_X4_playerAt qp_X4_playerAt ⟨Nat.le_of_ble_eq_true rfl, Nat.le_of_ble_eq_true rfl⟩ hl.1 (Nat.le_of_ble_eq_true rfl) dX5_needPlayer_5 ⟨by show 0 + 0 ≤ 1; omega, by show 0 + 0 ≤ 6; omega⟩ (fun H locs hR hS hz5 => ?_)
  by_cases o5 : ¬ u < 0 ∧ u < nI n
  · exact absurd o5 h
  rw [if_neg o5]
  refine lv_astore_nN (lv' := [(2, .null), (0, .ref (bd_ea E 0 0 0)), (1, .int u)]) hx hb dX5_needPlayer_8 rfl hl (by decide) rfl (fun ls hl => ?_)
  refine lv_aload_nN hx hb dX5_needPlayer_9 rfl (lv_at hl 0 rfl) ?_
  refine lv_ifnonnullN hx hb dX5_needPlayer_10 ?_
  exact bd_thr (is := 191) (text := "no such player") C Z hlf hlk hne hR hS hl.1 (by decide +kernel) qk_X5_146 qz_IndexOutOfBoundsException (by decide) bd_at_IndexOutOfBoundsException bd_ng_IndexOutOfBoundsException bd_ot_IndexOutOfBoundsException dX5_needPlayer_13 dX5_needPlayer_16 dX5_needPlayer_17 dX5_needPlayer_19 dX5_needPlayer_22 (Nat.le_of_ble_eq_true rfl) (Nat.le_of_ble_eq_true rfl) (Nat.le_of_ble_eq_true rfl) (Nat.le_of_ble_eq_true rfl) (Nat.le_of_ble_eq_true rfl) (Nat.le_of_ble_eq_true rfl)
set_option maxHeartbeats 4000000 in
set_option maxRecDepth 100000 in
theorem k_X5_needBand_x (l : Launch) (hlf : l.stackTraces = false) (E : bd_E) (xm ym : bd_M) (om : Nat → Int64) (n : Nat) (nb : Nat) (z : (Nat→Nat)) (u : Int32) (hs : kx_Sh xm 0 n nb z) (h : ¬ (¬ u < 0 ∧ u < nI nb)) : bd_Xt l yX5_needBand cX5_needBand 3 (some (.object "BandDay$Band")) 6 96 1 6 E [.ref (bd_ea E 0 0 0), .int u] xm ym om "java/lang/IndexOutOfBoundsException" := by
  refine bd_openX RX5 rfl (by decide) (Nat.le_of_ble_eq_true rfl) ?_
  intro p e s m args below meth c ls C Z hne hr hlk hS hR hl
  have hx := C.1.1
  have hb := C.1.2.1
  have hs24 := hs.2.1
  have hs6 := hs.2.2.2.1
  have hl : lv_has ls 3 [(0, .ref (bd_ea E 0 0 0)), (1, .int u)] := hl
  refine lv_aload_n hx hb dX5_needBand_0 rfl (lv_at hl 0 rfl) ?_
  refine bd_g_X5_season C hR  qf_X5_20 dX5_needBand_1 ?_
  refine lv_iload_n hx hb dX5_needBand_4 rfl (lv_at hl 1 rfl) ?_
  refine bd_cV1 [.int u] [] C (k_X4_bandAt l E xm ym om 0 n nb z u (by omega) hs) hR hS (bd_recv C.2 hR ⟨by decide, (by decide), (by decide)⟩ rfl rfl) qm_X5_161 qi_X4_bandAt qs_X4_bandAt qz_X4 qc_X4_bandAt qp_X4_bandAt ⟨Nat.le_of_ble_eq_true rfl, Nat.le_of_ble_eq_true rfl⟩ hl.1 (Nat.le_of_ble_eq_true rfl) dX5_needBand_5 ⟨by show 0 + 0 ≤ 1; omega, by show 0 + 0 ≤ 6; omega⟩ (fun H locs hR hS hz5 => ?_)
  by_cases o5 : ¬ u < 0 ∧ u < nI nb
  · exact absurd o5 h
  rw [if_neg o5]
  refine lv_astore_nN (lv' := [(2, .null), (0, .ref (bd_ea E 0 0 0)), (1, .int u)]) hx hb dX5_needBand_8 rfl hl (by decide) rfl (fun ls hl => ?_)
  refine lv_aload_nN hx hb dX5_needBand_9 rfl (lv_at hl 0 rfl) ?_
  refine lv_ifnonnullN hx hb dX5_needBand_10 ?_
  exact bd_thr (is := 193) (text := "no such band") C Z hlf hlk hne hR hS hl.1 (by decide +kernel) qk_X5_146 qz_IndexOutOfBoundsException (by decide) bd_at_IndexOutOfBoundsException bd_ng_IndexOutOfBoundsException bd_ot_IndexOutOfBoundsException dX5_needBand_13 dX5_needBand_16 dX5_needBand_17 dX5_needBand_19 dX5_needBand_22 (Nat.le_of_ble_eq_true rfl) (Nat.le_of_ble_eq_true rfl) (Nat.le_of_ble_eq_true rfl) (Nat.le_of_ble_eq_true rfl) (Nat.le_of_ble_eq_true rfl) (Nat.le_of_ble_eq_true rfl)
set_option maxHeartbeats 4000000 in
set_option maxRecDepth 100000 in
theorem k_X5_needChair_xb (l : Launch) (hlf : l.stackTraces = false) (E : bd_E) (xm ym : bd_M) (om : Nat → Int64) (n : Nat) (nb : Nat) (z : (Nat→Nat)) (u : Int32) (v : Int32) (hs : kx_Sh xm 0 n nb z) (h : ¬ (¬ u < 0 ∧ u < nI nb)) : bd_Xt l yX5_needChair cX5_needChair 4 (some (.object "BandDay$Chair")) 7 118 1 6 E [.ref (bd_ea E 0 0 0), .int u, .int v] xm ym om "java/lang/IndexOutOfBoundsException" := by
  refine bd_openX RX5 rfl (by decide) (Nat.le_of_ble_eq_true rfl) ?_
  intro p e s m args below meth c ls C Z hne hr hlk hS hR hl
  have hx := C.1.1
  have hb := C.1.2.1
  have hs24 := hs.2.1
  have hs6 := hs.2.2.2.1
  have hl : lv_has ls 4 [(0, .ref (bd_ea E 0 0 0)), (1, .int u), (2, .int v)] := hl
  refine lv_aload_n hx hb dX5_needChair_0 rfl (lv_at hl 0 rfl) ?_
  refine lv_iload_n hx hb dX5_needChair_1 rfl (lv_at hl 1 rfl) ?_
  exact bd_xV [.int u] [] C Z hlk hne (k_X5_needBand_x l hlf E xm ym om n nb z u hs (by omega)) hR hS (bd_recv C.2 hR ⟨by decide, (by decide), (by decide)⟩ rfl rfl) qm_X5_101 qi_X5_needBand qs_X5_needBand qz_X5 qc_X5_needBand qp_X5_needBand ⟨Nat.le_of_ble_eq_true rfl, Nat.le_of_ble_eq_true rfl⟩ hl.1 (Nat.le_of_ble_eq_true rfl) dX5_needChair_2 ⟨Nat.le_of_ble_eq_true rfl, Nat.le_of_ble_eq_true rfl⟩ (Nat.le_of_ble_eq_true rfl) (Nat.le_of_ble_eq_true rfl)
set_option maxHeartbeats 4000000 in
set_option maxRecDepth 100000 in
theorem k_X5_needChair_xs (l : Launch) (hlf : l.stackTraces = false) (E : bd_E) (xm ym : bd_M) (om : Nat → Int64) (n : Nat) (nb : Nat) (z : (Nat→Nat)) (b : Nat) (v : Int32) (hs : kx_Sh xm 0 n nb z) (hb : b < nb) (h : ¬ (¬ v < 0 ∧ v < nI (z b))) : bd_Xt l yX5_needChair cX5_needChair 4 (some (.object "BandDay$Chair")) 7 118 1 6 E [.ref (bd_ea E 0 0 0), .int (nI b), .int v] xm ym om "java/lang/IndexOutOfBoundsException" := by
  refine bd_openX RX5 rfl (by decide) (Nat.le_of_ble_eq_true rfl) ?_
  intro p e s m args below meth c ls C Z hne hr hlk hS hR hl
  have hx := C.1.1
  have hb := C.1.2.1
  have hs24 := hs.2.1
  have hs6 := hs.2.2.2.1
  have z8 := (hs.2.2.2.2 b (by omega)).2
  have hl : lv_has ls 4 [(0, .ref (bd_ea E 0 0 0)), (1, .int (nI b)), (2, .int v)] := hl
  refine lv_aload_n hx hb dX5_needChair_0 rfl (lv_at hl 0 rfl) ?_
  refine lv_iload_n hx hb dX5_needChair_1 rfl (lv_at hl 1 rfl) ?_
  refine bd_cV1 [.int (nI b)] [] C (k_X5_needBand l E xm ym om n nb z b hs (by omega)) hR hS (bd_recv C.2 hR ⟨by decide, (by decide), (by decide)⟩ rfl rfl) qm_X5_101 qi_X5_needBand qs_X5_needBand qz_X5 qc_X5_needBand qp_X5_needBand ⟨Nat.le_of_ble_eq_true rfl, Nat.le_of_ble_eq_true rfl⟩ hl.1 (Nat.le_of_ble_eq_true rfl) dX5_needChair_2 ⟨by show 0 + 0 ≤ 1; omega, by show 0 + 0 ≤ 6; omega⟩ (fun H locs hR hS hz2 => ?_)
  refine lv_iload_n hx hb dX5_needChair_5 rfl (lv_at hl 2 rfl) ?_
  refine bd_cV1 [.int v] [] C (k_X0_chairAt l E xm ym om 0 n nb z b v (by omega) hs (by omega)) hR hS (bd_recv C.2 hR ⟨by decide, (by decide), show b < 6 by omega⟩ rfl rfl) qm_X5_195 qi_X0_chairAt qs_X0_chairAt qz_X0 qc_X0_chairAt qp_X0_chairAt ⟨Nat.le_of_ble_eq_true rfl, Nat.le_of_ble_eq_true rfl⟩ hl.1 (Nat.le_of_ble_eq_true rfl) dX5_needChair_6 ⟨by show 0 + 0 ≤ 1; omega, by show 0 + 0 ≤ 6; omega⟩ (fun H locs hR hS hz6 => ?_)
  by_cases o6 : ¬ v < 0 ∧ v < nI (z b)
  · exact absurd o6 h
  rw [if_neg o6]
  refine lv_astore_nN (lv' := [(3, .null), (0, .ref (bd_ea E 0 0 0)), (1, .int (nI b)), (2, .int v)]) hx hb dX5_needChair_9 rfl hl (by decide) rfl (fun ls hl => ?_)
  refine lv_aload_nN hx hb dX5_needChair_10 rfl (lv_at hl 0 rfl) ?_
  refine lv_ifnonnullN hx hb dX5_needChair_11 ?_
  exact bd_thr (is := 199) (text := "no such seat") C Z hlf hlk hne hR hS hl.1 (by decide +kernel) qk_X5_146 qz_IndexOutOfBoundsException (by decide) bd_at_IndexOutOfBoundsException bd_ng_IndexOutOfBoundsException bd_ot_IndexOutOfBoundsException dX5_needChair_14 dX5_needChair_17 dX5_needChair_18 dX5_needChair_20 dX5_needChair_23 (Nat.le_of_ble_eq_true rfl) (Nat.le_of_ble_eq_true rfl) (Nat.le_of_ble_eq_true rfl) (Nat.le_of_ble_eq_true rfl) (Nat.le_of_ble_eq_true rfl) (Nat.le_of_ble_eq_true rfl)
set_option maxHeartbeats 4000000 in
set_option maxRecDepth 100000 in
theorem k_X5_addPlayer_x1 (l : Launch) (hlf : l.stackTraces = false) (E : bd_E) (xm ym : bd_M) (om : Nat → Int64) (n : Nat) (nb : Nat) (z : (Nat→Nat)) (a : Int32) (b : Int32) (c2 : Int32) (d : Int32) (hs : kx_Sh xm 0 n nb z) (h1 : ¬ ((¬ a < 0 ∧ ¬ 9 < a) ∧ (¬ b < 0 ∧ ¬ 9 < b) ∧ (¬ c2 < 0 ∧ ¬ 9 < c2) ∧ ¬ d < 0 ∧ ¬ 9 < d)) : bd_Xt l yX5_addPlayer cX5_addPlayer 5 (some .int) 6 96 1 6 E [.ref (bd_ea E 0 0 0), .int a, .int b, .int c2, .int d] xm ym om "java/lang/IllegalArgumentException" := by
  refine bd_openX RX5 rfl (by decide) (Nat.le_of_ble_eq_true rfl) ?_
  intro p e s m args below meth c ls C Z hne hr hlk hS hR hl
  have hx := C.1.1
  have hb := C.1.2.1
  have hs24 := hs.2.1
  have hs6 := hs.2.2.2.1
  have hl : lv_has ls 5 [(0, .ref (bd_ea E 0 0 0)), (1, .int a), (2, .int b), (3, .int c2), (4, .int d)] := hl
  refine lv_iload_n hx hb dX5_addPlayer_0 rfl (lv_at hl 1 rfl) ?_
  refine bd_cS1 [.int a] [] C (k_X5_isSkill l E xm ym om a ) hR hS qm_X5_27 qt_X5_isSkill qz_X5 qc_X5_isSkill qp_X5_isSkill.2 ⟨Nat.le_of_ble_eq_true rfl, Nat.le_of_ble_eq_true rfl⟩ hl.1 (Nat.le_of_ble_eq_true rfl) dX5_addPlayer_1 ⟨by show 0 + 0 ≤ 1; omega, by show 0 + 0 ≤ 6; omega⟩ (fun H locs hR hS hz1 => ?_)
  refine bd_ifeq (P := ¬ a < 0 ∧ ¬ 9 < a) (tgt := 29) C dX5_addPlayer_4 (by decide) (fun c4 => ?_) (fun c4 => ?_)
  · skip
    exact bd_thr (is := 33) (text := "a skill is 0 to 9") C Z hlf hlk hne hR hS hl.1 (by decide +kernel) qk_X5_31 qz_IllegalArgumentException (by decide) bd_at_IllegalArgumentException bd_ng_IllegalArgumentException bd_ot_IllegalArgumentException dX5_addPlayer_29 dX5_addPlayer_32 dX5_addPlayer_33 dX5_addPlayer_35 dX5_addPlayer_38 (Nat.le_of_ble_eq_true rfl) (Nat.le_of_ble_eq_true rfl) (Nat.le_of_ble_eq_true rfl) (Nat.le_of_ble_eq_true rfl) (Nat.le_of_ble_eq_true rfl) (Nat.le_of_ble_eq_true rfl)
  · skip
    refine lv_iload_n hx hb dX5_addPlayer_7 rfl (lv_at hl 2 rfl) ?_
    refine bd_cS1 [.int b] [] C (k_X5_isSkill l E xm ym om b ) hR hS qm_X5_27 qt_X5_isSkill qz_X5 qc_X5_isSkill qp_X5_isSkill.2 ⟨Nat.le_of_ble_eq_true rfl, Nat.le_of_ble_eq_true rfl⟩ hl.1 (Nat.le_of_ble_eq_true rfl) dX5_addPlayer_8 ⟨by show 0 + 0 ≤ 1; omega, by show 0 + 0 ≤ 6; omega⟩ (fun H locs hR hS hz8 => ?_)
    refine bd_ifeq (P := ¬ b < 0 ∧ ¬ 9 < b) (tgt := 29) C dX5_addPlayer_11 (by decide) (fun c11 => ?_) (fun c11 => ?_)
    · skip
      exact bd_thr (is := 33) (text := "a skill is 0 to 9") C Z hlf hlk hne hR hS hl.1 (by decide +kernel) qk_X5_31 qz_IllegalArgumentException (by decide) bd_at_IllegalArgumentException bd_ng_IllegalArgumentException bd_ot_IllegalArgumentException dX5_addPlayer_29 dX5_addPlayer_32 dX5_addPlayer_33 dX5_addPlayer_35 dX5_addPlayer_38 (Nat.le_of_ble_eq_true rfl) (Nat.le_of_ble_eq_true rfl) (Nat.le_of_ble_eq_true rfl) (Nat.le_of_ble_eq_true rfl) (Nat.le_of_ble_eq_true rfl) (Nat.le_of_ble_eq_true rfl)
    · skip
      refine lv_iload_n hx hb dX5_addPlayer_14 rfl (lv_at hl 3 rfl) ?_
      refine bd_cS1 [.int c2] [] C (k_X5_isSkill l E xm ym om c2 ) hR hS qm_X5_27 qt_X5_isSkill qz_X5 qc_X5_isSkill qp_X5_isSkill.2 ⟨Nat.le_of_ble_eq_true rfl, Nat.le_of_ble_eq_true rfl⟩ hl.1 (Nat.le_of_ble_eq_true rfl) dX5_addPlayer_15 ⟨by show 0 + 0 ≤ 1; omega, by show 0 + 0 ≤ 6; omega⟩ (fun H locs hR hS hz15 => ?_)
      refine bd_ifeq (P := ¬ c2 < 0 ∧ ¬ 9 < c2) (tgt := 29) C dX5_addPlayer_18 (by decide) (fun c18 => ?_) (fun c18 => ?_)
      · skip
        exact bd_thr (is := 33) (text := "a skill is 0 to 9") C Z hlf hlk hne hR hS hl.1 (by decide +kernel) qk_X5_31 qz_IllegalArgumentException (by decide) bd_at_IllegalArgumentException bd_ng_IllegalArgumentException bd_ot_IllegalArgumentException dX5_addPlayer_29 dX5_addPlayer_32 dX5_addPlayer_33 dX5_addPlayer_35 dX5_addPlayer_38 (Nat.le_of_ble_eq_true rfl) (Nat.le_of_ble_eq_true rfl) (Nat.le_of_ble_eq_true rfl) (Nat.le_of_ble_eq_true rfl) (Nat.le_of_ble_eq_true rfl) (Nat.le_of_ble_eq_true rfl)
      · skip
        refine lv_iload hx hb dX5_addPlayer_21 (lv_at hl 4 rfl) ?_
        refine bd_cS1 [.int d] [] C (k_X5_isSkill l E xm ym om d ) hR hS qm_X5_27 qt_X5_isSkill qz_X5 qc_X5_isSkill qp_X5_isSkill.2 ⟨Nat.le_of_ble_eq_true rfl, Nat.le_of_ble_eq_true rfl⟩ hl.1 (Nat.le_of_ble_eq_true rfl) dX5_addPlayer_23 ⟨by show 0 + 0 ≤ 1; omega, by show 0 + 0 ≤ 6; omega⟩ (fun H locs hR hS hz23 => ?_)
        refine bd_ifne (P := ¬ d < 0 ∧ ¬ 9 < d) (tgt := 39) C dX5_addPlayer_26 (by decide) (fun c26 => ?_) (fun c26 => ?_)
        · exact absurd ⟨c4, c11, c18, c26⟩ h1
        · skip
          exact bd_thr (is := 33) (text := "a skill is 0 to 9") C Z hlf hlk hne hR hS hl.1 (by decide +kernel) qk_X5_31 qz_IllegalArgumentException (by decide) bd_at_IllegalArgumentException bd_ng_IllegalArgumentException bd_ot_IllegalArgumentException dX5_addPlayer_29 dX5_addPlayer_32 dX5_addPlayer_33 dX5_addPlayer_35 dX5_addPlayer_38 (Nat.le_of_ble_eq_true rfl) (Nat.le_of_ble_eq_true rfl) (Nat.le_of_ble_eq_true rfl) (Nat.le_of_ble_eq_true rfl) (Nat.le_of_ble_eq_true rfl) (Nat.le_of_ble_eq_true rfl)
set_option maxHeartbeats 4000000 in
set_option maxRecDepth 100000 in
theorem k_X5_addPlayer_x2 (l : Launch) (hlf : l.stackTraces = false) (E : bd_E) (xm ym : bd_M) (om : Nat → Int64) (n : Nat) (nb : Nat) (z : (Nat→Nat)) (a : Int32) (b : Int32) (c2 : Int32) (d : Int32) (hs : kx_Sh xm 0 n nb z) (h9a : ¬ a < 0 ∧ ¬ 9 < a) (h9b : ¬ b < 0 ∧ ¬ 9 < b) (h9c : ¬ c2 < 0 ∧ ¬ 9 < c2) (h9d : ¬ d < 0 ∧ ¬ 9 < d) (hn : n = 24) : bd_Xt l yX5_addPlayer cX5_addPlayer 5 (some .int) 6 96 1 6 E [.ref (bd_ea E 0 0 0), .int a, .int b, .int c2, .int d] xm ym om "java/lang/IllegalStateException" := by
  refine bd_openX RX5 rfl (by decide) (Nat.le_of_ble_eq_true rfl) ?_
  intro p e s m args below meth c ls C Z hne hr hlk hS hR hl
  have hx := C.1.1
  have hb := C.1.2.1
  have hs24 := hs.2.1
  have hs6 := hs.2.2.2.1
  have hl : lv_has ls 5 [(0, .ref (bd_ea E 0 0 0)), (1, .int a), (2, .int b), (3, .int c2), (4, .int d)] := hl
  refine lv_iload_n hx hb dX5_addPlayer_0 rfl (lv_at hl 1 rfl) ?_
  refine bd_cS1 [.int a] [] C (k_X5_isSkill l E xm ym om a ) hR hS qm_X5_27 qt_X5_isSkill qz_X5 qc_X5_isSkill qp_X5_isSkill.2 ⟨Nat.le_of_ble_eq_true rfl, Nat.le_of_ble_eq_true rfl⟩ hl.1 (Nat.le_of_ble_eq_true rfl) dX5_addPlayer_1 ⟨by show 0 + 0 ≤ 1; omega, by show 0 + 0 ≤ 6; omega⟩ (fun H locs hR hS hz1 => ?_)
  refine bd_ifeq (P := ¬ a < 0 ∧ ¬ 9 < a) (tgt := 29) C dX5_addPlayer_4 (by decide) (fun q9 => absurd h9a q9) (fun q9 => ?_)
  refine lv_iload_n hx hb dX5_addPlayer_7 rfl (lv_at hl 2 rfl) ?_
  refine bd_cS1 [.int b] [] C (k_X5_isSkill l E xm ym om b ) hR hS qm_X5_27 qt_X5_isSkill qz_X5 qc_X5_isSkill qp_X5_isSkill.2 ⟨Nat.le_of_ble_eq_true rfl, Nat.le_of_ble_eq_true rfl⟩ hl.1 (Nat.le_of_ble_eq_true rfl) dX5_addPlayer_8 ⟨by show 0 + 0 ≤ 1; omega, by show 0 + 0 ≤ 6; omega⟩ (fun H locs hR hS hz8 => ?_)
  refine bd_ifeq (P := ¬ b < 0 ∧ ¬ 9 < b) (tgt := 29) C dX5_addPlayer_11 (by decide) (fun q9 => absurd h9b q9) (fun q9 => ?_)
  refine lv_iload_n hx hb dX5_addPlayer_14 rfl (lv_at hl 3 rfl) ?_
  refine bd_cS1 [.int c2] [] C (k_X5_isSkill l E xm ym om c2 ) hR hS qm_X5_27 qt_X5_isSkill qz_X5 qc_X5_isSkill qp_X5_isSkill.2 ⟨Nat.le_of_ble_eq_true rfl, Nat.le_of_ble_eq_true rfl⟩ hl.1 (Nat.le_of_ble_eq_true rfl) dX5_addPlayer_15 ⟨by show 0 + 0 ≤ 1; omega, by show 0 + 0 ≤ 6; omega⟩ (fun H locs hR hS hz15 => ?_)
  refine bd_ifeq (P := ¬ c2 < 0 ∧ ¬ 9 < c2) (tgt := 29) C dX5_addPlayer_18 (by decide) (fun q9 => absurd h9c q9) (fun q9 => ?_)
  refine lv_iload hx hb dX5_addPlayer_21 (lv_at hl 4 rfl) ?_
  refine bd_cS1 [.int d] [] C (k_X5_isSkill l E xm ym om d ) hR hS qm_X5_27 qt_X5_isSkill qz_X5 qc_X5_isSkill qp_X5_isSkill.2 ⟨Nat.le_of_ble_eq_true rfl, Nat.le_of_ble_eq_true rfl⟩ hl.1 (Nat.le_of_ble_eq_true rfl) dX5_addPlayer_23 ⟨by show 0 + 0 ≤ 1; omega, by show 0 + 0 ≤ 6; omega⟩ (fun H locs hR hS hz23 => ?_)
  refine bd_ifne (P := ¬ d < 0 ∧ ¬ 9 < d) (tgt := 39) C dX5_addPlayer_26 (by decide) (fun q9 => ?_) (fun q9 => absurd h9d q9)
  refine lv_aload_n hx hb dX5_addPlayer_39 rfl (lv_at hl 0 rfl) ?_
  refine bd_g_X5_season C hR  qf_X5_20 dX5_addPlayer_40 ?_
  refine bd_g_X4_playerCount C hR (by decide) qf_X5_38 dX5_addPlayer_43 ?_
  rw [show xm 30 0 0 = nI n from (show kx_Sh xm 0 n nb z from hs).1]
  refine lv_bipush (v := 24) hx hb dX5_addPlayer_46 (by decide) ?_
  refine lv_icmp_lt (tgt := 61) hx hb dX5_addPlayer_48 (by decide) (fun c48 => ?_) (fun c48 => ?_)
  · exact absurd ((nI_ltI (a := n) (b := 24) (by omega) (by decide)).mp c48) (by omega)
  · skip
    have nc48 : ¬ n < 24 := fun q9 => c48 ((nI_ltI (a := n) (b := 24) (by omega) (by omega)).mpr q9)
    exact bd_thr (is := 46) (text := "there are 24 players") C Z hlf hlk hne hR hS hl.1 (by decide +kernel) qk_X5_44 qz_IllegalStateException (by decide) bd_at_IllegalStateException bd_ng_IllegalStateException bd_ot_IllegalStateException dX5_addPlayer_51 dX5_addPlayer_54 dX5_addPlayer_55 dX5_addPlayer_57 dX5_addPlayer_60 (Nat.le_of_ble_eq_true rfl) (Nat.le_of_ble_eq_true rfl) (Nat.le_of_ble_eq_true rfl) (Nat.le_of_ble_eq_true rfl) (Nat.le_of_ble_eq_true rfl) (Nat.le_of_ble_eq_true rfl)
set_option maxHeartbeats 4000000 in
set_option maxRecDepth 100000 in
theorem k_X5_found_x0 (l : Launch) (hlf : l.stackTraces = false) (E : bd_E) (xm ym : bd_M) (om : Nat → Int64) (n : Nat) (nb : Nat) (z : (Nat→Nat)) (d : Int32) (hs : kx_Sh xm 0 n nb z) (h0 : d ≤ 0) : bd_Xt l yX5_found cX5_found 3 (some .int) 6 96 1 6 E [.ref (bd_ea E 0 0 0), .int d] xm ym om "java/lang/IllegalArgumentException" := by
  refine bd_openX RX5 rfl (by decide) (Nat.le_of_ble_eq_true rfl) ?_
  intro p e s m args below meth c ls C Z hne hr hlk hS hR hl
  have hx := C.1.1
  have hb := C.1.2.1
  have hs24 := hs.2.1
  have hs6 := hs.2.2.2.1
  have hl : lv_has ls 3 [(0, .ref (bd_ea E 0 0 0)), (1, .int d)] := hl
  refine lv_iload_n hx hb dX5_found_0 rfl (lv_at hl 1 rfl) ?_
  refine bd_cS1 [.int d] [] C (k_X5_seatsIn_0 l E xm ym om d h0) hR hS qm_X5_53 qt_X5_seatsIn qz_X5 qc_X5_seatsIn qp_X5_seatsIn.2 ⟨Nat.le_of_ble_eq_true rfl, Nat.le_of_ble_eq_true rfl⟩ hl.1 (Nat.le_of_ble_eq_true rfl) dX5_found_1 ⟨by show 0 + 0 ≤ 1; omega, by show 0 + 0 ≤ 6; omega⟩ (fun H locs hR hS hz1 => ?_)
  refine lv_istore_n (lv' := [(2, .int 0), (0, .ref (bd_ea E 0 0 0)), (1, .int d)]) hx hb dX5_found_4 rfl hl (by decide) rfl (fun ls hl => ?_)
  refine lv_iload_n hx hb dX5_found_5 rfl (lv_at hl 0 rfl) ?_
  refine lv_if_ne (tgt := 19) hx hb dX5_found_6 (by decide) (fun q9 => absurd rfl q9) (fun _ => ?_)
  exact bd_thr (is := 57) (text := "seats are 1 to 8 digits from 1 to 4") C Z hlf hlk hne hR hS hl.1 (by decide +kernel) qk_X5_31 qz_IllegalArgumentException (by decide) bd_at_IllegalArgumentException bd_ng_IllegalArgumentException bd_ot_IllegalArgumentException dX5_found_9 dX5_found_12 dX5_found_13 dX5_found_15 dX5_found_18 (Nat.le_of_ble_eq_true rfl) (Nat.le_of_ble_eq_true rfl) (Nat.le_of_ble_eq_true rfl) (Nat.le_of_ble_eq_true rfl) (Nat.le_of_ble_eq_true rfl) (Nat.le_of_ble_eq_true rfl)
set_option maxHeartbeats 4000000 in
set_option maxRecDepth 100000 in
theorem k_X5_found_x1 (l : Launch) (hlf : l.stackTraces = false) (E : bd_E) (xm ym : bd_M) (om : Nat → Int64) (n : Nat) (nb : Nat) (z : (Nat→Nat)) (d : Int32) (q : Nat) (hs : kx_Sh xm 0 n nb z) (hq : q ≤ 8) (hk : ∀ j, j < q → ¬ kx_dv d j ≤ 0 ∧ kx_dk d j) (hb1 : ¬ kx_dv d q ≤ 0) (hb2 : ¬ kx_dk d q ∨ q = 8) : bd_Xt l yX5_found cX5_found 3 (some .int) 6 96 1 6 E [.ref (bd_ea E 0 0 0), .int d] xm ym om "java/lang/IllegalArgumentException" := by
  refine bd_openX RX5 rfl (by decide) (Nat.le_of_ble_eq_true rfl) ?_
  intro p e s m args below meth c ls C Z hne hr hlk hS hR hl
  have hx := C.1.1
  have hb := C.1.2.1
  have hs24 := hs.2.1
  have hs6 := hs.2.2.2.1
  have hl : lv_has ls 3 [(0, .ref (bd_ea E 0 0 0)), (1, .int d)] := hl
  refine lv_iload_n hx hb dX5_found_0 rfl (lv_at hl 1 rfl) ?_
  refine bd_cS1 [.int d] [] C (k_X5_seatsIn_1 l E xm ym om d q (by omega) hk hb1 hb2) hR hS qm_X5_53 qt_X5_seatsIn qz_X5 qc_X5_seatsIn qp_X5_seatsIn.2 ⟨Nat.le_of_ble_eq_true rfl, Nat.le_of_ble_eq_true rfl⟩ hl.1 (Nat.le_of_ble_eq_true rfl) dX5_found_1 ⟨by show 0 + 0 ≤ 1; omega, by show 0 + 0 ≤ 6; omega⟩ (fun H locs hR hS hz1 => ?_)
  refine lv_istore_n (lv' := [(2, .int 0), (0, .ref (bd_ea E 0 0 0)), (1, .int d)]) hx hb dX5_found_4 rfl hl (by decide) rfl (fun ls hl => ?_)
  refine lv_iload_n hx hb dX5_found_5 rfl (lv_at hl 0 rfl) ?_
  refine lv_if_ne (tgt := 19) hx hb dX5_found_6 (by decide) (fun q9 => absurd rfl q9) (fun _ => ?_)
  exact bd_thr (is := 57) (text := "seats are 1 to 8 digits from 1 to 4") C Z hlf hlk hne hR hS hl.1 (by decide +kernel) qk_X5_31 qz_IllegalArgumentException (by decide) bd_at_IllegalArgumentException bd_ng_IllegalArgumentException bd_ot_IllegalArgumentException dX5_found_9 dX5_found_12 dX5_found_13 dX5_found_15 dX5_found_18 (Nat.le_of_ble_eq_true rfl) (Nat.le_of_ble_eq_true rfl) (Nat.le_of_ble_eq_true rfl) (Nat.le_of_ble_eq_true rfl) (Nat.le_of_ble_eq_true rfl) (Nat.le_of_ble_eq_true rfl)
set_option maxHeartbeats 4000000 in
set_option maxRecDepth 100000 in
theorem k_X5_found_x2 (l : Launch) (hlf : l.stackTraces = false) (E : bd_E) (xm ym : bd_M) (om : Nat → Int64) (n : Nat) (nb : Nat) (z : (Nat→Nat)) (d : Int32) (q : Nat) (hs : kx_Sh xm 0 n nb z) (h0 : 0 < q) (hq : q ≤ 8) (hk : kx_ok d q) (hnb : nb = 6) : bd_Xt l yX5_found cX5_found 3 (some .int) 6 96 1 6 E [.ref (bd_ea E 0 0 0), .int d] xm ym om "java/lang/IllegalStateException" := by
  refine bd_openX RX5 rfl (by decide) (Nat.le_of_ble_eq_true rfl) ?_
  intro p e s m args below meth c ls C Z hne hr hlk hS hR hl
  have hx := C.1.1
  have hb := C.1.2.1
  have hs24 := hs.2.1
  have hs6 := hs.2.2.2.1
  have hl : lv_has ls 3 [(0, .ref (bd_ea E 0 0 0)), (1, .int d)] := hl
  refine lv_iload_n hx hb dX5_found_0 rfl (lv_at hl 1 rfl) ?_
  refine bd_cS1 [.int d] [] C (k_X5_seatsIn_ok l E xm ym om d q (by omega) (by assumption)) hR hS qm_X5_53 qt_X5_seatsIn qz_X5 qc_X5_seatsIn qp_X5_seatsIn.2 ⟨Nat.le_of_ble_eq_true rfl, Nat.le_of_ble_eq_true rfl⟩ hl.1 (Nat.le_of_ble_eq_true rfl) dX5_found_1 ⟨by show 0 + 0 ≤ 1; omega, by show 0 + 0 ≤ 6; omega⟩ (fun H locs hR hS hz1 => ?_)
  refine lv_istore_n (lv' := [(2, .int (nI q)), (0, .ref (bd_ea E 0 0 0)), (1, .int d)]) hx hb dX5_found_4 rfl hl (by decide) rfl (fun ls hl => ?_)
  refine lv_iload_n hx hb dX5_found_5 rfl (lv_at hl 0 rfl) ?_
  refine lv_if_ne (tgt := 19) hx hb dX5_found_6 (by decide) (fun c6 => ?_) (fun c6 => ?_)
  · skip
    have nc6 : ¬ q = 0 := fun q9 => c6 ((nI_eq (a := q) (b := 0) (by omega) (by omega)).mpr q9)
    refine lv_aload_n hx hb dX5_found_19 rfl (lv_at hl 1 rfl) ?_
    refine bd_g_X5_season C hR  qf_X5_20 dX5_found_20 ?_
    refine bd_g_X4_bandCount C hR (by decide) qf_X5_59 dX5_found_23 ?_
    rw [show xm 31 0 0 = nI nb from (show kx_Sh xm 0 n nb z from hs).2.2.1]
    refine lv_bipush (v := 6) hx hb dX5_found_26 (by decide) ?_
    refine lv_icmp_lt (tgt := 41) hx hb dX5_found_28 (by decide) (fun c28 => ?_) (fun c28 => ?_)
    · exact absurd ((nI_ltI (a := nb) (b := 6) (by omega) (by decide)).mp c28) (by omega)
    · skip
      have nc28 : ¬ nb < 6 := fun q9 => c28 ((nI_ltI (a := nb) (b := 6) (by omega) (by omega)).mpr q9)
      exact bd_thr (is := 62) (text := "there are 6 bands") C Z hlf hlk hne hR hS hl.1 (by decide +kernel) qk_X5_44 qz_IllegalStateException (by decide) bd_at_IllegalStateException bd_ng_IllegalStateException bd_ot_IllegalStateException dX5_found_31 dX5_found_34 dX5_found_35 dX5_found_37 dX5_found_40 (Nat.le_of_ble_eq_true rfl) (Nat.le_of_ble_eq_true rfl) (Nat.le_of_ble_eq_true rfl) (Nat.le_of_ble_eq_true rfl) (Nat.le_of_ble_eq_true rfl) (Nat.le_of_ble_eq_true rfl)
  · exact absurd ((nI_eq (a := q) (b := 0) (by omega) (by decide)).mp c6) (by omega)
set_option maxHeartbeats 4000000 in
set_option maxRecDepth 100000 in
theorem k_X5_seat_xb (l : Launch) (hlf : l.stackTraces = false) (E : bd_E) (xm ym : bd_M) (om : Nat → Int64) (n : Nat) (nb : Nat) (z : (Nat→Nat)) (u : Int32) (v : Int32) (g : Int32) (hs : kx_Sh xm 0 n nb z) (h : ¬ (¬ u < 0 ∧ u < nI nb)) : bd_Xt l yX5_seat cX5_seat 6 (some .int) 8 141 1 6 E [.ref (bd_ea E 0 0 0), .int u, .int v, .int g] xm ym om "java/lang/IndexOutOfBoundsException" := by
  refine bd_openX RX5 rfl (by decide) (Nat.le_of_ble_eq_true rfl) ?_
  intro p e s m args below meth c ls C Z hne hr hlk hS hR hl
  have hx := C.1.1
  have hb := C.1.2.1
  have hs24 := hs.2.1
  have hs6 := hs.2.2.2.1
  have hl : lv_has ls 6 [(0, .ref (bd_ea E 0 0 0)), (1, .int u), (2, .int v), (3, .int g)] := hl
  refine lv_aload_n hx hb dX5_seat_0 rfl (lv_at hl 0 rfl) ?_
  refine lv_iload_n hx hb dX5_seat_1 rfl (lv_at hl 1 rfl) ?_
  refine lv_iload_n hx hb dX5_seat_2 rfl (lv_at hl 2 rfl) ?_
  exact bd_xV [.int u, .int v] [] C Z hlk hne (k_X5_needChair_xb l hlf E xm ym om n nb z u v hs (by omega)) hR hS (bd_recv C.2 hR ⟨by decide, (by decide), (by decide)⟩ rfl rfl) qm_X5_68 qi_X5_needChair qs_X5_needChair qz_X5 qc_X5_needChair qp_X5_needChair ⟨Nat.le_of_ble_eq_true rfl, Nat.le_of_ble_eq_true rfl⟩ hl.1 (Nat.le_of_ble_eq_true rfl) dX5_seat_3 ⟨Nat.le_of_ble_eq_true rfl, Nat.le_of_ble_eq_true rfl⟩ (Nat.le_of_ble_eq_true rfl) (Nat.le_of_ble_eq_true rfl)
set_option maxHeartbeats 4000000 in
set_option maxRecDepth 100000 in
theorem k_X5_seat_xs (l : Launch) (hlf : l.stackTraces = false) (E : bd_E) (xm ym : bd_M) (om : Nat → Int64) (n : Nat) (nb : Nat) (z : (Nat→Nat)) (b : Nat) (v : Int32) (g : Int32) (hs : kx_Sh xm 0 n nb z) (hb : b < nb) (h : ¬ (¬ v < 0 ∧ v < nI (z b))) : bd_Xt l yX5_seat cX5_seat 6 (some .int) 8 141 1 6 E [.ref (bd_ea E 0 0 0), .int (nI b), .int v, .int g] xm ym om "java/lang/IndexOutOfBoundsException" := by
  refine bd_openX RX5 rfl (by decide) (Nat.le_of_ble_eq_true rfl) ?_
  intro p e s m args below meth c ls C Z hne hr hlk hS hR hl
  have hx := C.1.1
  have hb := C.1.2.1
  have hs24 := hs.2.1
  have hs6 := hs.2.2.2.1
  have hl : lv_has ls 6 [(0, .ref (bd_ea E 0 0 0)), (1, .int (nI b)), (2, .int v), (3, .int g)] := hl
  refine lv_aload_n hx hb dX5_seat_0 rfl (lv_at hl 0 rfl) ?_
  refine lv_iload_n hx hb dX5_seat_1 rfl (lv_at hl 1 rfl) ?_
  refine lv_iload_n hx hb dX5_seat_2 rfl (lv_at hl 2 rfl) ?_
  exact bd_xV [.int (nI b), .int v] [] C Z hlk hne (k_X5_needChair_xs l hlf E xm ym om n nb z b v hs (by omega) (by omega)) hR hS (bd_recv C.2 hR ⟨by decide, (by decide), (by decide)⟩ rfl rfl) qm_X5_68 qi_X5_needChair qs_X5_needChair qz_X5 qc_X5_needChair qp_X5_needChair ⟨Nat.le_of_ble_eq_true rfl, Nat.le_of_ble_eq_true rfl⟩ hl.1 (Nat.le_of_ble_eq_true rfl) dX5_seat_3 ⟨Nat.le_of_ble_eq_true rfl, Nat.le_of_ble_eq_true rfl⟩ (Nat.le_of_ble_eq_true rfl) (Nat.le_of_ble_eq_true rfl)
set_option maxHeartbeats 4000000 in
set_option maxRecDepth 100000 in
theorem k_X5_change_xb (l : Launch) (hlf : l.stackTraces = false) (E : bd_E) (xm ym : bd_M) (om : Nat → Int64) (n : Nat) (nb : Nat) (z : (Nat→Nat)) (u : Int32) (v : Int32) (g : Int32) (hs : kx_Sh xm 0 n nb z) (h : ¬ (¬ u < 0 ∧ u < nI nb)) : bd_Xt l yX5_change cX5_change 5 (some .int) 8 141 1 6 E [.ref (bd_ea E 0 0 0), .int u, .int v, .int g] xm ym om "java/lang/IndexOutOfBoundsException" := by
  refine bd_openX RX5 rfl (by decide) (Nat.le_of_ble_eq_true rfl) ?_
  intro p e s m args below meth c ls C Z hne hr hlk hS hR hl
  have hx := C.1.1
  have hb := C.1.2.1
  have hs24 := hs.2.1
  have hs6 := hs.2.2.2.1
  have hl : lv_has ls 5 [(0, .ref (bd_ea E 0 0 0)), (1, .int u), (2, .int v), (3, .int g)] := hl
  refine lv_aload_n hx hb dX5_change_0 rfl (lv_at hl 0 rfl) ?_
  refine lv_iload_n hx hb dX5_change_1 rfl (lv_at hl 1 rfl) ?_
  refine lv_iload_n hx hb dX5_change_2 rfl (lv_at hl 2 rfl) ?_
  exact bd_xV [.int u, .int v] [] C Z hlk hne (k_X5_needChair_xb l hlf E xm ym om n nb z u v hs (by omega)) hR hS (bd_recv C.2 hR ⟨by decide, (by decide), (by decide)⟩ rfl rfl) qm_X5_68 qi_X5_needChair qs_X5_needChair qz_X5 qc_X5_needChair qp_X5_needChair ⟨Nat.le_of_ble_eq_true rfl, Nat.le_of_ble_eq_true rfl⟩ hl.1 (Nat.le_of_ble_eq_true rfl) dX5_change_3 ⟨Nat.le_of_ble_eq_true rfl, Nat.le_of_ble_eq_true rfl⟩ (Nat.le_of_ble_eq_true rfl) (Nat.le_of_ble_eq_true rfl)
set_option maxHeartbeats 4000000 in
set_option maxRecDepth 100000 in
theorem k_X5_change_xs (l : Launch) (hlf : l.stackTraces = false) (E : bd_E) (xm ym : bd_M) (om : Nat → Int64) (n : Nat) (nb : Nat) (z : (Nat→Nat)) (b : Nat) (v : Int32) (g : Int32) (hs : kx_Sh xm 0 n nb z) (hb : b < nb) (h : ¬ (¬ v < 0 ∧ v < nI (z b))) : bd_Xt l yX5_change cX5_change 5 (some .int) 8 141 1 6 E [.ref (bd_ea E 0 0 0), .int (nI b), .int v, .int g] xm ym om "java/lang/IndexOutOfBoundsException" := by
  refine bd_openX RX5 rfl (by decide) (Nat.le_of_ble_eq_true rfl) ?_
  intro p e s m args below meth c ls C Z hne hr hlk hS hR hl
  have hx := C.1.1
  have hb := C.1.2.1
  have hs24 := hs.2.1
  have hs6 := hs.2.2.2.1
  have hl : lv_has ls 5 [(0, .ref (bd_ea E 0 0 0)), (1, .int (nI b)), (2, .int v), (3, .int g)] := hl
  refine lv_aload_n hx hb dX5_change_0 rfl (lv_at hl 0 rfl) ?_
  refine lv_iload_n hx hb dX5_change_1 rfl (lv_at hl 1 rfl) ?_
  refine lv_iload_n hx hb dX5_change_2 rfl (lv_at hl 2 rfl) ?_
  exact bd_xV [.int (nI b), .int v] [] C Z hlk hne (k_X5_needChair_xs l hlf E xm ym om n nb z b v hs (by omega) (by omega)) hR hS (bd_recv C.2 hR ⟨by decide, (by decide), (by decide)⟩ rfl rfl) qm_X5_68 qi_X5_needChair qs_X5_needChair qz_X5 qc_X5_needChair qp_X5_needChair ⟨Nat.le_of_ble_eq_true rfl, Nat.le_of_ble_eq_true rfl⟩ hl.1 (Nat.le_of_ble_eq_true rfl) dX5_change_3 ⟨Nat.le_of_ble_eq_true rfl, Nat.le_of_ble_eq_true rfl⟩ (Nat.le_of_ble_eq_true rfl) (Nat.le_of_ble_eq_true rfl)
set_option maxHeartbeats 4000000 in
set_option maxRecDepth 100000 in
theorem k_X5_chair_xb (l : Launch) (hlf : l.stackTraces = false) (E : bd_E) (xm ym : bd_M) (om : Nat → Int64) (n : Nat) (nb : Nat) (z : (Nat→Nat)) (u : Int32) (v : Int32) (g : Int32) (hs : kx_Sh xm 0 n nb z) (h : ¬ (¬ u < 0 ∧ u < nI nb)) : bd_Xt l yX5_chair cX5_chair 5 (some .int) 8 141 1 6 E [.ref (bd_ea E 0 0 0), .int u, .int v, .int g] xm ym om "java/lang/IndexOutOfBoundsException" := by
  refine bd_openX RX5 rfl (by decide) (Nat.le_of_ble_eq_true rfl) ?_
  intro p e s m args below meth c ls C Z hne hr hlk hS hR hl
  have hx := C.1.1
  have hb := C.1.2.1
  have hs24 := hs.2.1
  have hs6 := hs.2.2.2.1
  have hl : lv_has ls 5 [(0, .ref (bd_ea E 0 0 0)), (1, .int u), (2, .int v), (3, .int g)] := hl
  refine lv_aload_n hx hb dX5_chair_0 rfl (lv_at hl 0 rfl) ?_
  refine lv_iload_n hx hb dX5_chair_1 rfl (lv_at hl 1 rfl) ?_
  refine lv_iload_n hx hb dX5_chair_2 rfl (lv_at hl 2 rfl) ?_
  exact bd_xV [.int u, .int v] [] C Z hlk hne (k_X5_needChair_xb l hlf E xm ym om n nb z u v hs (by omega)) hR hS (bd_recv C.2 hR ⟨by decide, (by decide), (by decide)⟩ rfl rfl) qm_X5_68 qi_X5_needChair qs_X5_needChair qz_X5 qc_X5_needChair qp_X5_needChair ⟨Nat.le_of_ble_eq_true rfl, Nat.le_of_ble_eq_true rfl⟩ hl.1 (Nat.le_of_ble_eq_true rfl) dX5_chair_3 ⟨Nat.le_of_ble_eq_true rfl, Nat.le_of_ble_eq_true rfl⟩ (Nat.le_of_ble_eq_true rfl) (Nat.le_of_ble_eq_true rfl)
set_option maxHeartbeats 4000000 in
set_option maxRecDepth 100000 in
theorem k_X5_chair_xs (l : Launch) (hlf : l.stackTraces = false) (E : bd_E) (xm ym : bd_M) (om : Nat → Int64) (n : Nat) (nb : Nat) (z : (Nat→Nat)) (b : Nat) (v : Int32) (g : Int32) (hs : kx_Sh xm 0 n nb z) (hb : b < nb) (h : ¬ (¬ v < 0 ∧ v < nI (z b))) : bd_Xt l yX5_chair cX5_chair 5 (some .int) 8 141 1 6 E [.ref (bd_ea E 0 0 0), .int (nI b), .int v, .int g] xm ym om "java/lang/IndexOutOfBoundsException" := by
  refine bd_openX RX5 rfl (by decide) (Nat.le_of_ble_eq_true rfl) ?_
  intro p e s m args below meth c ls C Z hne hr hlk hS hR hl
  have hx := C.1.1
  have hb := C.1.2.1
  have hs24 := hs.2.1
  have hs6 := hs.2.2.2.1
  have hl : lv_has ls 5 [(0, .ref (bd_ea E 0 0 0)), (1, .int (nI b)), (2, .int v), (3, .int g)] := hl
  refine lv_aload_n hx hb dX5_chair_0 rfl (lv_at hl 0 rfl) ?_
  refine lv_iload_n hx hb dX5_chair_1 rfl (lv_at hl 1 rfl) ?_
  refine lv_iload_n hx hb dX5_chair_2 rfl (lv_at hl 2 rfl) ?_
  exact bd_xV [.int (nI b), .int v] [] C Z hlk hne (k_X5_needChair_xs l hlf E xm ym om n nb z b v hs (by omega) (by omega)) hR hS (bd_recv C.2 hR ⟨by decide, (by decide), (by decide)⟩ rfl rfl) qm_X5_68 qi_X5_needChair qs_X5_needChair qz_X5 qc_X5_needChair qp_X5_needChair ⟨Nat.le_of_ble_eq_true rfl, Nat.le_of_ble_eq_true rfl⟩ hl.1 (Nat.le_of_ble_eq_true rfl) dX5_chair_3 ⟨Nat.le_of_ble_eq_true rfl, Nat.le_of_ble_eq_true rfl⟩ (Nat.le_of_ble_eq_true rfl) (Nat.le_of_ble_eq_true rfl)
set_option maxHeartbeats 4000000 in
set_option maxRecDepth 100000 in
theorem k_X5_seat_xp (l : Launch) (hlf : l.stackTraces = false) (E : bd_E) (xm ym : bd_M) (om : Nat → Int64) (n : Nat) (nb : Nat) (z : (Nat→Nat)) (b : Nat) (q : Nat) (u : Int32) (hs : kx_Sh xm 0 n nb z) (hb : b < nb) (hq : q < z b) (h1 : ¬ u = (-1)) (h : ¬ (¬ u < 0 ∧ u < nI n)) : bd_Xt l yX5_seat cX5_seat 6 (some .int) 8 141 1 6 E [.ref (bd_ea E 0 0 0), .int (nI b), .int (nI q), .int u] xm ym om "java/lang/IndexOutOfBoundsException" := by
  refine bd_openX RX5 rfl (by decide) (Nat.le_of_ble_eq_true rfl) ?_
  intro p e s m args below meth c ls C Z hne hr hlk hS hR hl
  have hx := C.1.1
  have hb := C.1.2.1
  have hs24 := hs.2.1
  have hs6 := hs.2.2.2.1
  have z8 := (hs.2.2.2.2 b (by omega)).2
  have hl : lv_has ls 6 [(0, .ref (bd_ea E 0 0 0)), (1, .int (nI b)), (2, .int (nI q)), (3, .int u)] := hl
  refine lv_aload_n hx hb dX5_seat_0 rfl (lv_at hl 0 rfl) ?_
  refine lv_iload_n hx hb dX5_seat_1 rfl (lv_at hl 1 rfl) ?_
  refine lv_iload_n hx hb dX5_seat_2 rfl (lv_at hl 2 rfl) ?_
  refine bd_cV1 [.int (nI b), .int (nI q)] [] C (k_X5_needChair l E xm ym om n nb z b q hs (by omega) (by omega)) hR hS (bd_recv C.2 hR ⟨by decide, (by decide), (by decide)⟩ rfl rfl) qm_X5_68 qi_X5_needChair qs_X5_needChair qz_X5 qc_X5_needChair qp_X5_needChair ⟨Nat.le_of_ble_eq_true rfl, Nat.le_of_ble_eq_true rfl⟩ hl.1 (Nat.le_of_ble_eq_true rfl) dX5_seat_3 ⟨by show 0 + 0 ≤ 1; omega, by show 0 + 0 ≤ 6; omega⟩ (fun H locs hR hS hz3 => ?_)
  refine lv_astore (lv' := [(4, .ref (bd_ea E 11 0 (8 * b + q))), (0, .ref (bd_ea E 0 0 0)), (1, .int (nI b)), (2, .int (nI q)), (3, .int u)]) hx hb dX5_seat_6 hl (by decide) rfl (fun ls hl => ?_)
  refine lv_iload_n hx hb dX5_seat_8 rfl (lv_at hl 4 rfl) ?_
  refine lv_iconst (v := (-1)) hx hb dX5_seat_9 (by decide) ?_
  refine lv_icmp_eq (tgt := 19) hx hb dX5_seat_10 (by decide) (fun c10 => ?_) (fun c10 => ?_)
  · exact absurd c10 h1
  · skip
    refine lv_aload_n hx hb dX5_seat_13 rfl (lv_at hl 1 rfl) ?_
    refine lv_iload_n hx hb dX5_seat_14 rfl (lv_at hl 4 rfl) ?_
    exact bd_xV [.int u] [] C Z hlk hne (k_X5_needPlayer_x l hlf E xm ym om n nb z u hs (by omega)) hR hS (bd_recv C.2 hR ⟨by decide, (by decide), (by decide)⟩ rfl rfl) qm_X5_72 qi_X5_needPlayer qs_X5_needPlayer qz_X5 qc_X5_needPlayer qp_X5_needPlayer ⟨Nat.le_of_ble_eq_true rfl, Nat.le_of_ble_eq_true rfl⟩ hl.1 (Nat.le_of_ble_eq_true rfl) dX5_seat_15 ⟨Nat.le_of_ble_eq_true rfl, Nat.le_of_ble_eq_true rfl⟩ (Nat.le_of_ble_eq_true rfl) (Nat.le_of_ble_eq_true rfl)
set_option maxHeartbeats 4000000 in
set_option maxRecDepth 100000 in
theorem k_X5_seat_x2 (l : Launch) (hlf : l.stackTraces = false) (E : bd_E) (xm ym : bd_M) (om : Nat → Int64) (n : Nat) (nb : Nat) (z : (Nat→Nat)) (b : Nat) (q : Nat) (k : Nat) (hs : kx_Sh xm 0 n nb z) (hb : b < nb) (hq : q < z b) (hk : k < n) (hm1 : ¬ xm 11 0 (8 * b + q) = (-1)) (hm2 : ¬ xm 11 0 (8 * b + q) = nI k) : bd_Xt l yX5_seat cX5_seat 6 (some .int) 8 141 1 6 E [.ref (bd_ea E 0 0 0), .int (nI b), .int (nI q), .int (nI k)] xm ym om "java/lang/IllegalStateException" := by
  refine bd_openX RX5 rfl (by decide) (Nat.le_of_ble_eq_true rfl) ?_
  intro p e s m args below meth c ls C Z hne hr hlk hS hR hl
  have hx := C.1.1
  have hb := C.1.2.1
  have hs24 := hs.2.1
  have hs6 := hs.2.2.2.1
  have z8 := (hs.2.2.2.2 b (by omega)).2
  have hl : lv_has ls 6 [(0, .ref (bd_ea E 0 0 0)), (1, .int (nI b)), (2, .int (nI q)), (3, .int (nI k))] := hl
  refine lv_aload_n hx hb dX5_seat_0 rfl (lv_at hl 0 rfl) ?_
  refine lv_iload_n hx hb dX5_seat_1 rfl (lv_at hl 1 rfl) ?_
  refine lv_iload_n hx hb dX5_seat_2 rfl (lv_at hl 2 rfl) ?_
  refine bd_cV1 [.int (nI b), .int (nI q)] [] C (k_X5_needChair l E xm ym om n nb z b q hs (by omega) (by omega)) hR hS (bd_recv C.2 hR ⟨by decide, (by decide), (by decide)⟩ rfl rfl) qm_X5_68 qi_X5_needChair qs_X5_needChair qz_X5 qc_X5_needChair qp_X5_needChair ⟨Nat.le_of_ble_eq_true rfl, Nat.le_of_ble_eq_true rfl⟩ hl.1 (Nat.le_of_ble_eq_true rfl) dX5_seat_3 ⟨by show 0 + 0 ≤ 1; omega, by show 0 + 0 ≤ 6; omega⟩ (fun H locs hR hS hz3 => ?_)
  refine lv_astore (lv' := [(4, .ref (bd_ea E 11 0 (8 * b + q))), (0, .ref (bd_ea E 0 0 0)), (1, .int (nI b)), (2, .int (nI q)), (3, .int (nI k))]) hx hb dX5_seat_6 hl (by decide) rfl (fun ls hl => ?_)
  refine lv_iload_n hx hb dX5_seat_8 rfl (lv_at hl 4 rfl) ?_
  refine lv_iconst (v := (-1)) hx hb dX5_seat_9 (by decide) ?_
  refine lv_icmp_eq (tgt := 19) hx hb dX5_seat_10 (by decide) (fun c10 => ?_) (fun c10 => ?_)
  · exact absurd (show nI k < 0 by rw [c10]; decide) (nI_pos (by omega))
  · skip
    refine lv_aload_n hx hb dX5_seat_13 rfl (lv_at hl 1 rfl) ?_
    refine lv_iload_n hx hb dX5_seat_14 rfl (lv_at hl 4 rfl) ?_
    refine bd_cV1 [.int (nI k)] [] C (k_X5_needPlayer l E xm ym om n nb z k hs (by omega)) hR hS (bd_recv C.2 hR ⟨by decide, (by decide), (by decide)⟩ rfl rfl) qm_X5_72 qi_X5_needPlayer qs_X5_needPlayer qz_X5 qc_X5_needPlayer qp_X5_needPlayer ⟨Nat.le_of_ble_eq_true rfl, Nat.le_of_ble_eq_true rfl⟩ hl.1 (Nat.le_of_ble_eq_true rfl) dX5_seat_15 ⟨by show 0 + 0 ≤ 1; omega, by show 0 + 0 ≤ 6; omega⟩ (fun H locs hR hS hz15 => ?_)
    refine lv_pop hx hb dX5_seat_18 rfl ?_
    refine lv_aload hx hb dX5_seat_19 (lv_at hl 0 rfl) ?_
    refine bd_g_X1_member C hR (by decide) (by omega) qf_X5_76 dX5_seat_21 ?_
    refine lv_istore (lv' := [(5, .int (xm 11 0 (8 * b + q))), (4, .ref (bd_ea E 11 0 (8 * b + q))), (0, .ref (bd_ea E 0 0 0)), (1, .int (nI b)), (2, .int (nI q)), (3, .int (nI k))]) hx hb dX5_seat_24 hl (by decide) rfl (fun ls hl => ?_)
    refine lv_iload_n hx hb dX5_seat_26 rfl (lv_at hl 5 rfl) ?_
    refine lv_iconst (v := (-1)) hx hb dX5_seat_27 (by decide) ?_
    refine lv_icmp_eq (tgt := 53) hx hb dX5_seat_28 (by decide) (fun q9 => absurd q9 c10) (fun _ => ?_)
    refine lv_iload hx hb dX5_seat_31 (lv_at hl 0 rfl) ?_
    refine lv_iconst (v := (-1)) hx hb dX5_seat_33 (by decide) ?_
    refine lv_icmp_eq (tgt := 53) hx hb dX5_seat_34 (by decide) (fun c34 => ?_) (fun c34 => ?_)
    · exact absurd c34 hm1
    · skip
      refine lv_iload hx hb dX5_seat_37 (lv_at hl 0 rfl) ?_
      refine lv_iload_n hx hb dX5_seat_39 rfl (lv_at hl 5 rfl) ?_
      refine lv_icmp_eq (tgt := 53) hx hb dX5_seat_40 (by decide) (fun c40 => ?_) (fun c40 => ?_)
      · exact absurd c40 hm2
      · skip
        exact bd_thr (is := 81) (text := "another member is on the seat") C Z hlf hlk hne hR hS hl.1 (by decide +kernel) qk_X5_44 qz_IllegalStateException (by decide) bd_at_IllegalStateException bd_ng_IllegalStateException bd_ot_IllegalStateException dX5_seat_43 dX5_seat_46 dX5_seat_47 dX5_seat_49 dX5_seat_52 (Nat.le_of_ble_eq_true rfl) (Nat.le_of_ble_eq_true rfl) (Nat.le_of_ble_eq_true rfl) (Nat.le_of_ble_eq_true rfl) (Nat.le_of_ble_eq_true rfl) (Nat.le_of_ble_eq_true rfl)
set_option maxHeartbeats 4000000 in
set_option maxRecDepth 100000 in
theorem k_X5_change_xt (l : Launch) (hlf : l.stackTraces = false) (E : bd_E) (xm ym : bd_M) (om : Nat → Int64) (n : Nat) (nb : Nat) (z : (Nat→Nat)) (b : Nat) (q : Nat) (v : Int32) (hs : kx_Sh xm 0 n nb z) (hb : b < nb) (hq : q < z b) (h : ¬ (¬ v < 0 ∧ v < nI (z b))) : bd_Xt l yX5_change cX5_change 5 (some .int) 8 141 1 6 E [.ref (bd_ea E 0 0 0), .int (nI b), .int (nI q), .int v] xm ym om "java/lang/IndexOutOfBoundsException" := by
  refine bd_openX RX5 rfl (by decide) (Nat.le_of_ble_eq_true rfl) ?_
  intro p e s m args below meth c ls C Z hne hr hlk hS hR hl
  have hx := C.1.1
  have hb := C.1.2.1
  have hs24 := hs.2.1
  have hs6 := hs.2.2.2.1
  have z8 := (hs.2.2.2.2 b (by omega)).2
  have hl : lv_has ls 5 [(0, .ref (bd_ea E 0 0 0)), (1, .int (nI b)), (2, .int (nI q)), (3, .int v)] := hl
  refine lv_aload_n hx hb dX5_change_0 rfl (lv_at hl 0 rfl) ?_
  refine lv_iload_n hx hb dX5_change_1 rfl (lv_at hl 1 rfl) ?_
  refine lv_iload_n hx hb dX5_change_2 rfl (lv_at hl 2 rfl) ?_
  refine bd_cV1 [.int (nI b), .int (nI q)] [] C (k_X5_needChair l E xm ym om n nb z b q hs (by omega) (by omega)) hR hS (bd_recv C.2 hR ⟨by decide, (by decide), (by decide)⟩ rfl rfl) qm_X5_68 qi_X5_needChair qs_X5_needChair qz_X5 qc_X5_needChair qp_X5_needChair ⟨Nat.le_of_ble_eq_true rfl, Nat.le_of_ble_eq_true rfl⟩ hl.1 (Nat.le_of_ble_eq_true rfl) dX5_change_3 ⟨by show 0 + 0 ≤ 1; omega, by show 0 + 0 ≤ 6; omega⟩ (fun H locs hR hS hz3 => ?_)
  refine lv_astore (lv' := [(4, .ref (bd_ea E 11 0 (8 * b + q))), (0, .ref (bd_ea E 0 0 0)), (1, .int (nI b)), (2, .int (nI q)), (3, .int v)]) hx hb dX5_change_6 hl (by decide) rfl (fun ls hl => ?_)
  refine lv_aload_n hx hb dX5_change_8 rfl (lv_at hl 1 rfl) ?_
  refine lv_iload_n hx hb dX5_change_9 rfl (lv_at hl 2 rfl) ?_
  refine lv_iload_n hx hb dX5_change_10 rfl (lv_at hl 4 rfl) ?_
  exact bd_xV [.int (nI b), .int v] [] C Z hlk hne (k_X5_needChair_xs l hlf E xm ym om n nb z b v hs (by omega) (by omega)) hR hS (bd_recv C.2 hR ⟨by decide, (by decide), (by decide)⟩ rfl rfl) qm_X5_68 qi_X5_needChair qs_X5_needChair qz_X5 qc_X5_needChair qp_X5_needChair ⟨Nat.le_of_ble_eq_true rfl, Nat.le_of_ble_eq_true rfl⟩ hl.1 (Nat.le_of_ble_eq_true rfl) dX5_change_11 ⟨Nat.le_of_ble_eq_true rfl, Nat.le_of_ble_eq_true rfl⟩ (Nat.le_of_ble_eq_true rfl) (Nat.le_of_ble_eq_true rfl)
set_option maxHeartbeats 4000000 in
set_option maxRecDepth 100000 in
theorem k_X5_chair_xw (l : Launch) (hlf : l.stackTraces = false) (E : bd_E) (xm ym : bd_M) (om : Nat → Int64) (n : Nat) (nb : Nat) (z : (Nat→Nat)) (b : Nat) (q : Nat) (u : Int32) (hs : kx_Sh xm 0 n nb z) (hb : b < nb) (hq : q < z b) (h : ¬ (¬ u < 0 ∧ u < 3)) : bd_Xt l yX5_chair cX5_chair 5 (some .int) 8 141 1 6 E [.ref (bd_ea E 0 0 0), .int (nI b), .int (nI q), .int u] xm ym om "java/lang/IndexOutOfBoundsException" := by
  refine bd_openX RX5 rfl (by decide) (Nat.le_of_ble_eq_true rfl) ?_
  intro p e s m args below meth c ls C Z hne hr hlk hS hR hl
  have hx := C.1.1
  have hb := C.1.2.1
  have hs24 := hs.2.1
  have hs6 := hs.2.2.2.1
  have z8 := (hs.2.2.2.2 b (by omega)).2
  have hl : lv_has ls 5 [(0, .ref (bd_ea E 0 0 0)), (1, .int (nI b)), (2, .int (nI q)), (3, .int u)] := hl
  refine lv_aload_n hx hb dX5_chair_0 rfl (lv_at hl 0 rfl) ?_
  refine lv_iload_n hx hb dX5_chair_1 rfl (lv_at hl 1 rfl) ?_
  refine lv_iload_n hx hb dX5_chair_2 rfl (lv_at hl 2 rfl) ?_
  refine bd_cV1 [.int (nI b), .int (nI q)] [] C (k_X5_needChair l E xm ym om n nb z b q hs (by omega) (by omega)) hR hS (bd_recv C.2 hR ⟨by decide, (by decide), (by decide)⟩ rfl rfl) qm_X5_68 qi_X5_needChair qs_X5_needChair qz_X5 qc_X5_needChair qp_X5_needChair ⟨Nat.le_of_ble_eq_true rfl, Nat.le_of_ble_eq_true rfl⟩ hl.1 (Nat.le_of_ble_eq_true rfl) dX5_chair_3 ⟨by show 0 + 0 ≤ 1; omega, by show 0 + 0 ≤ 6; omega⟩ (fun H locs hR hS hz3 => ?_)
  refine lv_astore (lv' := [(4, .ref (bd_ea E 11 0 (8 * b + q))), (0, .ref (bd_ea E 0 0 0)), (1, .int (nI b)), (2, .int (nI q)), (3, .int u)]) hx hb dX5_chair_6 hl (by decide) rfl (fun ls hl => ?_)
  refine lv_iload_n hx hb dX5_chair_8 rfl (lv_at hl 4 rfl) ?_
  refine lv_iconst (v := 3) hx hb dX5_chair_9 (by decide) ?_
  exact bd_xS [.int u, .int 3] [] C Z hlk hne (k_X5_needWhat_x l hlf E xm ym om u 3 h) hR hS qm_X5_131 qt_X5_needWhat qz_X5 qc_X5_needWhat qp_X5_needWhat.2 ⟨Nat.le_of_ble_eq_true rfl, Nat.le_of_ble_eq_true rfl⟩ hl.1 (Nat.le_of_ble_eq_true rfl) dX5_chair_10 ⟨Nat.le_of_ble_eq_true rfl, Nat.le_of_ble_eq_true rfl⟩ (Nat.le_of_ble_eq_true rfl) (Nat.le_of_ble_eq_true rfl)
set_option maxHeartbeats 4000000 in
set_option maxRecDepth 100000 in
theorem k_X5_absent_x1 (l : Launch) (hlf : l.stackTraces = false) (E : bd_E) (xm ym : bd_M) (om : Nat → Int64) (n : Nat) (nb : Nat) (z : (Nat→Nat)) (u : Int32) (v : Int32) (hs : kx_Sh xm 0 n nb z) (h : ¬ (¬ u < 0 ∧ u < nI n)) : bd_Xt l yX5_absent cX5_absent 5 (some .int) 7 118 1 6 E [.ref (bd_ea E 0 0 0), .int u, .int v] xm ym om "java/lang/IndexOutOfBoundsException" := by
  refine bd_openX RX5 rfl (by decide) (Nat.le_of_ble_eq_true rfl) ?_
  intro p e s m args below meth c ls C Z hne hr hlk hS hR hl
  have hx := C.1.1
  have hb := C.1.2.1
  have hs24 := hs.2.1
  have hs6 := hs.2.2.2.1
  have hl : lv_has ls 5 [(0, .ref (bd_ea E 0 0 0)), (1, .int u), (2, .int v)] := hl
  refine lv_aload_n hx hb dX5_absent_0 rfl (lv_at hl 0 rfl) ?_
  refine lv_iload_n hx hb dX5_absent_1 rfl (lv_at hl 1 rfl) ?_
  exact bd_xV [.int u] [] C Z hlk hne (k_X5_needPlayer_x l hlf E xm ym om n nb z u hs (by omega)) hR hS (bd_recv C.2 hR ⟨by decide, (by decide), (by decide)⟩ rfl rfl) qm_X5_72 qi_X5_needPlayer qs_X5_needPlayer qz_X5 qc_X5_needPlayer qp_X5_needPlayer ⟨Nat.le_of_ble_eq_true rfl, Nat.le_of_ble_eq_true rfl⟩ hl.1 (Nat.le_of_ble_eq_true rfl) dX5_absent_2 ⟨Nat.le_of_ble_eq_true rfl, Nat.le_of_ble_eq_true rfl⟩ (Nat.le_of_ble_eq_true rfl) (Nat.le_of_ble_eq_true rfl)
set_option maxHeartbeats 4000000 in
set_option maxRecDepth 100000 in
theorem k_X5_absent_x2 (l : Launch) (hlf : l.stackTraces = false) (E : bd_E) (xm ym : bd_M) (om : Nat → Int64) (n : Nat) (nb : Nat) (z : (Nat→Nat)) (k : Nat) (v : Int32) (hs : kx_Sh xm 0 n nb z) (hk : k < n) (h : ¬ (¬ v < 0 ∧ ¬ 20 < v)) : bd_Xt l yX5_absent cX5_absent 5 (some .int) 7 118 1 6 E [.ref (bd_ea E 0 0 0), .int (nI k), .int v] xm ym om "java/lang/IllegalArgumentException" := by
  refine bd_openX RX5 rfl (by decide) (Nat.le_of_ble_eq_true rfl) ?_
  intro p e s m args below meth c ls C Z hne hr hlk hS hR hl
  have hx := C.1.1
  have hb := C.1.2.1
  have hs24 := hs.2.1
  have hs6 := hs.2.2.2.1
  have hl : lv_has ls 5 [(0, .ref (bd_ea E 0 0 0)), (1, .int (nI k)), (2, .int v)] := hl
  refine lv_aload_n hx hb dX5_absent_0 rfl (lv_at hl 0 rfl) ?_
  refine lv_iload_n hx hb dX5_absent_1 rfl (lv_at hl 1 rfl) ?_
  refine bd_cV1 [.int (nI k)] [] C (k_X5_needPlayer l E xm ym om n nb z k hs (by omega)) hR hS (bd_recv C.2 hR ⟨by decide, (by decide), (by decide)⟩ rfl rfl) qm_X5_72 qi_X5_needPlayer qs_X5_needPlayer qz_X5 qc_X5_needPlayer qp_X5_needPlayer ⟨Nat.le_of_ble_eq_true rfl, Nat.le_of_ble_eq_true rfl⟩ hl.1 (Nat.le_of_ble_eq_true rfl) dX5_absent_2 ⟨by show 0 + 0 ≤ 1; omega, by show 0 + 0 ≤ 6; omega⟩ (fun H locs hR hS hz2 => ?_)
  refine lv_astore_n (lv' := [(3, .ref (bd_ea E 7 0 k)), (0, .ref (bd_ea E 0 0 0)), (1, .int (nI k)), (2, .int v)]) hx hb dX5_absent_5 rfl hl (by decide) rfl (fun ls hl => ?_)
  refine lv_iload_n hx hb dX5_absent_6 rfl (lv_at hl 3 rfl) ?_
  refine lv_if_lt (tgt := 16) hx hb dX5_absent_7 (by decide) (fun c7 => ?_) (fun c7 => ?_)
  · skip
    exact bd_thr (is := 94) (text := "contests are 0 to 20") C Z hlf hlk hne hR hS hl.1 (by decide +kernel) qk_X5_31 qz_IllegalArgumentException (by decide) bd_at_IllegalArgumentException bd_ng_IllegalArgumentException bd_ot_IllegalArgumentException dX5_absent_16 dX5_absent_19 dX5_absent_20 dX5_absent_22 dX5_absent_25 (Nat.le_of_ble_eq_true rfl) (Nat.le_of_ble_eq_true rfl) (Nat.le_of_ble_eq_true rfl) (Nat.le_of_ble_eq_true rfl) (Nat.le_of_ble_eq_true rfl) (Nat.le_of_ble_eq_true rfl)
  · skip
    refine lv_iload_n hx hb dX5_absent_10 rfl (lv_at hl 3 rfl) ?_
    refine lv_bipush (v := 20) hx hb dX5_absent_11 (by decide) ?_
    refine lv_icmp_le (tgt := 26) hx hb dX5_absent_13 (by decide) (fun c13 => ?_) (fun c13 => ?_)
    · exact absurd ⟨c7, Int32.not_lt.mpr c13⟩ h
    · skip
      exact bd_thr (is := 94) (text := "contests are 0 to 20") C Z hlf hlk hne hR hS hl.1 (by decide +kernel) qk_X5_31 qz_IllegalArgumentException (by decide) bd_at_IllegalArgumentException bd_ng_IllegalArgumentException bd_ot_IllegalArgumentException dX5_absent_16 dX5_absent_19 dX5_absent_20 dX5_absent_22 dX5_absent_25 (Nat.le_of_ble_eq_true rfl) (Nat.le_of_ble_eq_true rfl) (Nat.le_of_ble_eq_true rfl) (Nat.le_of_ble_eq_true rfl) (Nat.le_of_ble_eq_true rfl) (Nat.le_of_ble_eq_true rfl)
set_option maxHeartbeats 4000000 in
set_option maxRecDepth 100000 in
theorem k_X5_rehearse_x (l : Launch) (hlf : l.stackTraces = false) (E : bd_E) (xm ym : bd_M) (om : Nat → Int64) (n : Nat) (nb : Nat) (z : (Nat→Nat)) (u : Int32) (hs : kx_Sh xm 0 n nb z) (h : ¬ (¬ u < 0 ∧ u < nI nb)) : bd_Xt l yX5_rehearse cX5_rehearse 3 (some .int) 7 118 1 6 E [.ref (bd_ea E 0 0 0), .int u] xm ym om "java/lang/IndexOutOfBoundsException" := by
  refine bd_openX RX5 rfl (by decide) (Nat.le_of_ble_eq_true rfl) ?_
  intro p e s m args below meth c ls C Z hne hr hlk hS hR hl
  have hx := C.1.1
  have hb := C.1.2.1
  have hs24 := hs.2.1
  have hs6 := hs.2.2.2.1
  have hl : lv_has ls 3 [(0, .ref (bd_ea E 0 0 0)), (1, .int u)] := hl
  refine lv_aload_n hx hb dX5_rehearse_0 rfl (lv_at hl 0 rfl) ?_
  refine lv_iload_n hx hb dX5_rehearse_1 rfl (lv_at hl 1 rfl) ?_
  exact bd_xV [.int u] [] C Z hlk hne (k_X5_needBand_x l hlf E xm ym om n nb z u hs (by omega)) hR hS (bd_recv C.2 hR ⟨by decide, (by decide), (by decide)⟩ rfl rfl) qm_X5_101 qi_X5_needBand qs_X5_needBand qz_X5 qc_X5_needBand qp_X5_needBand ⟨Nat.le_of_ble_eq_true rfl, Nat.le_of_ble_eq_true rfl⟩ hl.1 (Nat.le_of_ble_eq_true rfl) dX5_rehearse_2 ⟨Nat.le_of_ble_eq_true rfl, Nat.le_of_ble_eq_true rfl⟩ (Nat.le_of_ble_eq_true rfl) (Nat.le_of_ble_eq_true rfl)
set_option maxHeartbeats 4000000 in
set_option maxRecDepth 100000 in
theorem k_X5_setPiece_x1 (l : Launch) (hlf : l.stackTraces = false) (E : bd_E) (xm ym : bd_M) (om : Nat → Int64) (n : Nat) (nb : Nat) (z : (Nat→Nat)) (u : Int32) (v : Int32) (hs : kx_Sh xm 0 n nb z) (h : ¬ (¬ u < 0 ∧ u < 4)) : bd_Xt l yX5_setPiece cX5_setPiece 4 (some .int) 7 116 1 6 E [.ref (bd_ea E 0 0 0), .int u, .int v] xm ym om "java/lang/IndexOutOfBoundsException" := by
  refine bd_openX RX5 rfl (by decide) (Nat.le_of_ble_eq_true rfl) ?_
  intro p e s m args below meth c ls C Z hne hr hlk hS hR hl
  have hx := C.1.1
  have hb := C.1.2.1
  have hs24 := hs.2.1
  have hs6 := hs.2.2.2.1
  have hl : lv_has ls 4 [(0, .ref (bd_ea E 0 0 0)), (1, .int u), (2, .int v)] := hl
  refine lv_iload_n hx hb dX5_setPiece_0 rfl (lv_at hl 1 rfl) ?_
  exact bd_xS [.int u] [] C Z hlk hne (k_X5_needInstrument_x l hlf E xm ym om u h) hR hS qm_X5_117 qt_X5_needInstrument qz_X5 qc_X5_needInstrument qp_X5_needInstrument.2 ⟨Nat.le_of_ble_eq_true rfl, Nat.le_of_ble_eq_true rfl⟩ hl.1 (Nat.le_of_ble_eq_true rfl) dX5_setPiece_1 ⟨Nat.le_of_ble_eq_true rfl, Nat.le_of_ble_eq_true rfl⟩ (Nat.le_of_ble_eq_true rfl) (Nat.le_of_ble_eq_true rfl)
set_option maxHeartbeats 4000000 in
set_option maxRecDepth 100000 in
theorem k_X5_setPiece_x2 (l : Launch) (hlf : l.stackTraces = false) (E : bd_E) (xm ym : bd_M) (om : Nat → Int64) (n : Nat) (nb : Nat) (z : (Nat→Nat)) (k : Nat) (v : Int32) (hs : kx_Sh xm 0 n nb z) (hk : k < 4) (h : ¬ (¬ v < 0 ∧ ¬ 9 < v)) : bd_Xt l yX5_setPiece cX5_setPiece 4 (some .int) 7 116 1 6 E [.ref (bd_ea E 0 0 0), .int (nI k), .int v] xm ym om "java/lang/IllegalArgumentException" := by
  refine bd_openX RX5 rfl (by decide) (Nat.le_of_ble_eq_true rfl) ?_
  intro p e s m args below meth c ls C Z hne hr hlk hS hR hl
  have hx := C.1.1
  have hb := C.1.2.1
  have hs24 := hs.2.1
  have hs6 := hs.2.2.2.1
  have hl : lv_has ls 4 [(0, .ref (bd_ea E 0 0 0)), (1, .int (nI k)), (2, .int v)] := hl
  refine lv_iload_n hx hb dX5_setPiece_0 rfl (lv_at hl 1 rfl) ?_
  refine bd_cS0 [.int (nI k)] [] C (k_X5_needInstrument l E xm ym om k (by omega)) hR hS qm_X5_117 qt_X5_needInstrument qz_X5 qc_X5_needInstrument qp_X5_needInstrument.2 ⟨Nat.le_of_ble_eq_true rfl, Nat.le_of_ble_eq_true rfl⟩ hl.1 (Nat.le_of_ble_eq_true rfl) dX5_setPiece_1 ⟨by show 0 + 0 ≤ 1; omega, by show 0 + 0 ≤ 6; omega⟩ (fun H locs hR hS hz1 => ?_)
  refine lv_iload_n hx hb dX5_setPiece_4 rfl (lv_at hl 2 rfl) ?_
  refine lv_if_lt (tgt := 14) hx hb dX5_setPiece_5 (by decide) (fun c5 => ?_) (fun c5 => ?_)
  · skip
    exact bd_thr (is := 120) (text := "a piece is 0 to 9 hard") C Z hlf hlk hne hR hS hl.1 (by decide +kernel) qk_X5_31 qz_IllegalArgumentException (by decide) bd_at_IllegalArgumentException bd_ng_IllegalArgumentException bd_ot_IllegalArgumentException dX5_setPiece_14 dX5_setPiece_17 dX5_setPiece_18 dX5_setPiece_20 dX5_setPiece_23 (Nat.le_of_ble_eq_true rfl) (Nat.le_of_ble_eq_true rfl) (Nat.le_of_ble_eq_true rfl) (Nat.le_of_ble_eq_true rfl) (Nat.le_of_ble_eq_true rfl) (Nat.le_of_ble_eq_true rfl)
  · skip
    refine lv_iload_n hx hb dX5_setPiece_8 rfl (lv_at hl 2 rfl) ?_
    refine lv_bipush (v := 9) hx hb dX5_setPiece_9 (by decide) ?_
    refine lv_icmp_le (tgt := 24) hx hb dX5_setPiece_11 (by decide) (fun c11 => ?_) (fun c11 => ?_)
    · exact absurd ⟨c5, Int32.not_lt.mpr c11⟩ h
    · skip
      exact bd_thr (is := 120) (text := "a piece is 0 to 9 hard") C Z hlf hlk hne hR hS hl.1 (by decide +kernel) qk_X5_31 qz_IllegalArgumentException (by decide) bd_at_IllegalArgumentException bd_ng_IllegalArgumentException bd_ot_IllegalArgumentException dX5_setPiece_14 dX5_setPiece_17 dX5_setPiece_18 dX5_setPiece_20 dX5_setPiece_23 (Nat.le_of_ble_eq_true rfl) (Nat.le_of_ble_eq_true rfl) (Nat.le_of_ble_eq_true rfl) (Nat.le_of_ble_eq_true rfl) (Nat.le_of_ble_eq_true rfl) (Nat.le_of_ble_eq_true rfl)
set_option maxHeartbeats 4000000 in
set_option maxRecDepth 100000 in
theorem k_X5_setTaste_x1 (l : Launch) (hlf : l.stackTraces = false) (E : bd_E) (xm ym : bd_M) (om : Nat → Int64) (n : Nat) (nb : Nat) (z : (Nat→Nat)) (u : Int32) (v : Int32) (hs : kx_Sh xm 0 n nb z) (h : ¬ (¬ u < 0 ∧ u < 4)) : bd_Xt l yX5_setTaste cX5_setTaste 4 (some .int) 7 116 1 6 E [.ref (bd_ea E 0 0 0), .int u, .int v] xm ym om "java/lang/IndexOutOfBoundsException" := by
  refine bd_openX RX5 rfl (by decide) (Nat.le_of_ble_eq_true rfl) ?_
  intro p e s m args below meth c ls C Z hne hr hlk hS hR hl
  have hx := C.1.1
  have hb := C.1.2.1
  have hs24 := hs.2.1
  have hs6 := hs.2.2.2.1
  have hl : lv_has ls 4 [(0, .ref (bd_ea E 0 0 0)), (1, .int u), (2, .int v)] := hl
  refine lv_iload_n hx hb dX5_setTaste_0 rfl (lv_at hl 1 rfl) ?_
  exact bd_xS [.int u] [] C Z hlk hne (k_X5_needInstrument_x l hlf E xm ym om u h) hR hS qm_X5_117 qt_X5_needInstrument qz_X5 qc_X5_needInstrument qp_X5_needInstrument.2 ⟨Nat.le_of_ble_eq_true rfl, Nat.le_of_ble_eq_true rfl⟩ hl.1 (Nat.le_of_ble_eq_true rfl) dX5_setTaste_1 ⟨Nat.le_of_ble_eq_true rfl, Nat.le_of_ble_eq_true rfl⟩ (Nat.le_of_ble_eq_true rfl) (Nat.le_of_ble_eq_true rfl)
set_option maxHeartbeats 4000000 in
set_option maxRecDepth 100000 in
theorem k_X5_setTaste_x2 (l : Launch) (hlf : l.stackTraces = false) (E : bd_E) (xm ym : bd_M) (om : Nat → Int64) (n : Nat) (nb : Nat) (z : (Nat→Nat)) (k : Nat) (v : Int32) (hs : kx_Sh xm 0 n nb z) (hk : k < 4) (h : ¬ (¬ v < 1 ∧ ¬ 5 < v)) : bd_Xt l yX5_setTaste cX5_setTaste 4 (some .int) 7 116 1 6 E [.ref (bd_ea E 0 0 0), .int (nI k), .int v] xm ym om "java/lang/IllegalArgumentException" := by
  refine bd_openX RX5 rfl (by decide) (Nat.le_of_ble_eq_true rfl) ?_
  intro p e s m args below meth c ls C Z hne hr hlk hS hR hl
  have hx := C.1.1
  have hb := C.1.2.1
  have hs24 := hs.2.1
  have hs6 := hs.2.2.2.1
  have hl : lv_has ls 4 [(0, .ref (bd_ea E 0 0 0)), (1, .int (nI k)), (2, .int v)] := hl
  refine lv_iload_n hx hb dX5_setTaste_0 rfl (lv_at hl 1 rfl) ?_
  refine bd_cS0 [.int (nI k)] [] C (k_X5_needInstrument l E xm ym om k (by omega)) hR hS qm_X5_117 qt_X5_needInstrument qz_X5 qc_X5_needInstrument qp_X5_needInstrument.2 ⟨Nat.le_of_ble_eq_true rfl, Nat.le_of_ble_eq_true rfl⟩ hl.1 (Nat.le_of_ble_eq_true rfl) dX5_setTaste_1 ⟨by show 0 + 0 ≤ 1; omega, by show 0 + 0 ≤ 6; omega⟩ (fun H locs hR hS hz1 => ?_)
  refine lv_iload_n hx hb dX5_setTaste_4 rfl (lv_at hl 2 rfl) ?_
  refine lv_iconst (v := 1) hx hb dX5_setTaste_5 (by decide) ?_
  refine lv_icmp_lt (tgt := 14) hx hb dX5_setTaste_6 (by decide) (fun c6 => ?_) (fun c6 => ?_)
  · skip
    exact bd_thr (is := 126) (text := "a weight is 1 to 5") C Z hlf hlk hne hR hS hl.1 (by decide +kernel) qk_X5_31 qz_IllegalArgumentException (by decide) bd_at_IllegalArgumentException bd_ng_IllegalArgumentException bd_ot_IllegalArgumentException dX5_setTaste_14 dX5_setTaste_17 dX5_setTaste_18 dX5_setTaste_20 dX5_setTaste_23 (Nat.le_of_ble_eq_true rfl) (Nat.le_of_ble_eq_true rfl) (Nat.le_of_ble_eq_true rfl) (Nat.le_of_ble_eq_true rfl) (Nat.le_of_ble_eq_true rfl) (Nat.le_of_ble_eq_true rfl)
  · skip
    refine lv_iload_n hx hb dX5_setTaste_9 rfl (lv_at hl 2 rfl) ?_
    refine lv_iconst (v := 5) hx hb dX5_setTaste_10 (by decide) ?_
    refine lv_icmp_le (tgt := 24) hx hb dX5_setTaste_11 (by decide) (fun c11 => ?_) (fun c11 => ?_)
    · exact absurd ⟨c6, Int32.not_lt.mpr c11⟩ h
    · skip
      exact bd_thr (is := 126) (text := "a weight is 1 to 5") C Z hlf hlk hne hR hS hl.1 (by decide +kernel) qk_X5_31 qz_IllegalArgumentException (by decide) bd_at_IllegalArgumentException bd_ng_IllegalArgumentException bd_ot_IllegalArgumentException dX5_setTaste_14 dX5_setTaste_17 dX5_setTaste_18 dX5_setTaste_20 dX5_setTaste_23 (Nat.le_of_ble_eq_true rfl) (Nat.le_of_ble_eq_true rfl) (Nat.le_of_ble_eq_true rfl) (Nat.le_of_ble_eq_true rfl) (Nat.le_of_ble_eq_true rfl) (Nat.le_of_ble_eq_true rfl)
set_option maxHeartbeats 4000000 in
set_option maxRecDepth 100000 in
theorem k_X5_player_x1 (l : Launch) (hlf : l.stackTraces = false) (E : bd_E) (xm ym : bd_M) (om : Nat → Int64) (n : Nat) (nb : Nat) (z : (Nat→Nat)) (u : Int32) (v : Int32) (hs : kx_Sh xm 0 n nb z) (h : ¬ (¬ u < 0 ∧ u < nI n)) : bd_Xt l yX5_player cX5_player 4 (some .int) 7 118 1 6 E [.ref (bd_ea E 0 0 0), .int u, .int v] xm ym om "java/lang/IndexOutOfBoundsException" := by
  refine bd_openX RX5 rfl (by decide) (Nat.le_of_ble_eq_true rfl) ?_
  intro p e s m args below meth c ls C Z hne hr hlk hS hR hl
  have hx := C.1.1
  have hb := C.1.2.1
  have hs24 := hs.2.1
  have hs6 := hs.2.2.2.1
  have hl : lv_has ls 4 [(0, .ref (bd_ea E 0 0 0)), (1, .int u), (2, .int v)] := hl
  refine lv_aload_n hx hb dX5_player_0 rfl (lv_at hl 0 rfl) ?_
  refine lv_iload_n hx hb dX5_player_1 rfl (lv_at hl 1 rfl) ?_
  exact bd_xV [.int u] [] C Z hlk hne (k_X5_needPlayer_x l hlf E xm ym om n nb z u hs (by omega)) hR hS (bd_recv C.2 hR ⟨by decide, (by decide), (by decide)⟩ rfl rfl) qm_X5_72 qi_X5_needPlayer qs_X5_needPlayer qz_X5 qc_X5_needPlayer qp_X5_needPlayer ⟨Nat.le_of_ble_eq_true rfl, Nat.le_of_ble_eq_true rfl⟩ hl.1 (Nat.le_of_ble_eq_true rfl) dX5_player_2 ⟨Nat.le_of_ble_eq_true rfl, Nat.le_of_ble_eq_true rfl⟩ (Nat.le_of_ble_eq_true rfl) (Nat.le_of_ble_eq_true rfl)
set_option maxHeartbeats 4000000 in
set_option maxRecDepth 100000 in
theorem k_X5_player_x2 (l : Launch) (hlf : l.stackTraces = false) (E : bd_E) (xm ym : bd_M) (om : Nat → Int64) (n : Nat) (nb : Nat) (z : (Nat→Nat)) (k : Nat) (u : Int32) (hs : kx_Sh xm 0 n nb z) (hk : k < n) (h : ¬ (¬ u < 0 ∧ u < 10)) : bd_Xt l yX5_player cX5_player 4 (some .int) 7 118 1 6 E [.ref (bd_ea E 0 0 0), .int (nI k), .int u] xm ym om "java/lang/IndexOutOfBoundsException" := by
  refine bd_openX RX5 rfl (by decide) (Nat.le_of_ble_eq_true rfl) ?_
  intro p e s m args below meth c ls C Z hne hr hlk hS hR hl
  have hx := C.1.1
  have hb := C.1.2.1
  have hs24 := hs.2.1
  have hs6 := hs.2.2.2.1
  have hl : lv_has ls 4 [(0, .ref (bd_ea E 0 0 0)), (1, .int (nI k)), (2, .int u)] := hl
  refine lv_aload_n hx hb dX5_player_0 rfl (lv_at hl 0 rfl) ?_
  refine lv_iload_n hx hb dX5_player_1 rfl (lv_at hl 1 rfl) ?_
  refine bd_cV1 [.int (nI k)] [] C (k_X5_needPlayer l E xm ym om n nb z k hs (by omega)) hR hS (bd_recv C.2 hR ⟨by decide, (by decide), (by decide)⟩ rfl rfl) qm_X5_72 qi_X5_needPlayer qs_X5_needPlayer qz_X5 qc_X5_needPlayer qp_X5_needPlayer ⟨Nat.le_of_ble_eq_true rfl, Nat.le_of_ble_eq_true rfl⟩ hl.1 (Nat.le_of_ble_eq_true rfl) dX5_player_2 ⟨by show 0 + 0 ≤ 1; omega, by show 0 + 0 ≤ 6; omega⟩ (fun H locs hR hS hz2 => ?_)
  refine lv_astore_n (lv' := [(3, .ref (bd_ea E 7 0 k)), (0, .ref (bd_ea E 0 0 0)), (1, .int (nI k)), (2, .int u)]) hx hb dX5_player_5 rfl hl (by decide) rfl (fun ls hl => ?_)
  refine lv_iload_n hx hb dX5_player_6 rfl (lv_at hl 3 rfl) ?_
  refine lv_bipush (v := 10) hx hb dX5_player_7 (by decide) ?_
  exact bd_xS [.int u, .int 10] [] C Z hlk hne (k_X5_needWhat_x l hlf E xm ym om u 10 h) hR hS qm_X5_131 qt_X5_needWhat qz_X5 qc_X5_needWhat qp_X5_needWhat.2 ⟨Nat.le_of_ble_eq_true rfl, Nat.le_of_ble_eq_true rfl⟩ hl.1 (Nat.le_of_ble_eq_true rfl) dX5_player_9 ⟨Nat.le_of_ble_eq_true rfl, Nat.le_of_ble_eq_true rfl⟩ (Nat.le_of_ble_eq_true rfl) (Nat.le_of_ble_eq_true rfl)
set_option maxHeartbeats 4000000 in
set_option maxRecDepth 100000 in
theorem k_X5_band_x1 (l : Launch) (hlf : l.stackTraces = false) (E : bd_E) (xm ym : bd_M) (om : Nat → Int64) (n : Nat) (nb : Nat) (z : (Nat→Nat)) (u : Int32) (v : Int32) (hs : kx_Sh xm 0 n nb z) (h : ¬ (¬ u < 0 ∧ u < nI nb)) : bd_Xt l yX5_band cX5_band 4 (some .int) 7 118 1 6 E [.ref (bd_ea E 0 0 0), .int u, .int v] xm ym om "java/lang/IndexOutOfBoundsException" := by
  refine bd_openX RX5 rfl (by decide) (Nat.le_of_ble_eq_true rfl) ?_
  intro p e s m args below meth c ls C Z hne hr hlk hS hR hl
  have hx := C.1.1
  have hb := C.1.2.1
  have hs24 := hs.2.1
  have hs6 := hs.2.2.2.1
  have hl : lv_has ls 4 [(0, .ref (bd_ea E 0 0 0)), (1, .int u), (2, .int v)] := hl
  refine lv_aload_n hx hb dX5_band_0 rfl (lv_at hl 0 rfl) ?_
  refine lv_iload_n hx hb dX5_band_1 rfl (lv_at hl 1 rfl) ?_
  exact bd_xV [.int u] [] C Z hlk hne (k_X5_needBand_x l hlf E xm ym om n nb z u hs (by omega)) hR hS (bd_recv C.2 hR ⟨by decide, (by decide), (by decide)⟩ rfl rfl) qm_X5_101 qi_X5_needBand qs_X5_needBand qz_X5 qc_X5_needBand qp_X5_needBand ⟨Nat.le_of_ble_eq_true rfl, Nat.le_of_ble_eq_true rfl⟩ hl.1 (Nat.le_of_ble_eq_true rfl) dX5_band_2 ⟨Nat.le_of_ble_eq_true rfl, Nat.le_of_ble_eq_true rfl⟩ (Nat.le_of_ble_eq_true rfl) (Nat.le_of_ble_eq_true rfl)
set_option maxHeartbeats 4000000 in
set_option maxRecDepth 100000 in
theorem k_X5_band_x2 (l : Launch) (hlf : l.stackTraces = false) (E : bd_E) (xm ym : bd_M) (om : Nat → Int64) (n : Nat) (nb : Nat) (z : (Nat→Nat)) (b : Nat) (u : Int32) (hs : kx_Sh xm 0 n nb z) (hb : b < nb) (h : ¬ (¬ u < 0 ∧ u < 9)) : bd_Xt l yX5_band cX5_band 4 (some .int) 7 118 1 6 E [.ref (bd_ea E 0 0 0), .int (nI b), .int u] xm ym om "java/lang/IndexOutOfBoundsException" := by
  refine bd_openX RX5 rfl (by decide) (Nat.le_of_ble_eq_true rfl) ?_
  intro p e s m args below meth c ls C Z hne hr hlk hS hR hl
  have hx := C.1.1
  have hb := C.1.2.1
  have hs24 := hs.2.1
  have hs6 := hs.2.2.2.1
  have hl : lv_has ls 4 [(0, .ref (bd_ea E 0 0 0)), (1, .int (nI b)), (2, .int u)] := hl
  refine lv_aload_n hx hb dX5_band_0 rfl (lv_at hl 0 rfl) ?_
  refine lv_iload_n hx hb dX5_band_1 rfl (lv_at hl 1 rfl) ?_
  refine bd_cV1 [.int (nI b)] [] C (k_X5_needBand l E xm ym om n nb z b hs (by omega)) hR hS (bd_recv C.2 hR ⟨by decide, (by decide), (by decide)⟩ rfl rfl) qm_X5_101 qi_X5_needBand qs_X5_needBand qz_X5 qc_X5_needBand qp_X5_needBand ⟨Nat.le_of_ble_eq_true rfl, Nat.le_of_ble_eq_true rfl⟩ hl.1 (Nat.le_of_ble_eq_true rfl) dX5_band_2 ⟨by show 0 + 0 ≤ 1; omega, by show 0 + 0 ≤ 6; omega⟩ (fun H locs hR hS hz2 => ?_)
  refine lv_astore_n (lv' := [(3, .ref (bd_ea E 9 0 b)), (0, .ref (bd_ea E 0 0 0)), (1, .int (nI b)), (2, .int u)]) hx hb dX5_band_5 rfl hl (by decide) rfl (fun ls hl => ?_)
  refine lv_iload_n hx hb dX5_band_6 rfl (lv_at hl 3 rfl) ?_
  refine lv_bipush (v := 9) hx hb dX5_band_7 (by decide) ?_
  exact bd_xS [.int u, .int 9] [] C Z hlk hne (k_X5_needWhat_x l hlf E xm ym om u 9 h) hR hS qm_X5_131 qt_X5_needWhat qz_X5 qc_X5_needWhat qp_X5_needWhat.2 ⟨Nat.le_of_ble_eq_true rfl, Nat.le_of_ble_eq_true rfl⟩ hl.1 (Nat.le_of_ble_eq_true rfl) dX5_band_9 ⟨Nat.le_of_ble_eq_true rfl, Nat.le_of_ble_eq_true rfl⟩ (Nat.le_of_ble_eq_true rfl) (Nat.le_of_ble_eq_true rfl)
set_option maxHeartbeats 4000000 in
set_option maxRecDepth 100000 in
theorem k_X5_contest_x (l : Launch) (hlf : l.stackTraces = false) (E : bd_E) (xm ym : bd_M) (om : Nat → Int64) (n : Nat) (nb : Nat) (z : (Nat→Nat)) (hs : kx_Sh xm 0 n nb z) (hnb : nb = 0) : bd_Xt l yX5_contest cX5_contest 1 (some .int) 6 143 1 6 E [.ref (bd_ea E 0 0 0)] xm ym om "java/lang/IllegalStateException" := by
  refine bd_openX RX5 rfl (by decide) (Nat.le_of_ble_eq_true rfl) ?_
  intro p e s m args below meth c ls C Z hne hr hlk hS hR hl
  have hx := C.1.1
  have hb := C.1.2.1
  have hs24 := hs.2.1
  have hs6 := hs.2.2.2.1
  have hl : lv_has ls 1 [(0, .ref (bd_ea E 0 0 0))] := hl
  refine lv_aload_n hx hb dX5_contest_0 rfl (lv_at hl 0 rfl) ?_
  refine bd_g_X5_season C hR  qf_X5_20 dX5_contest_1 ?_
  refine bd_g_X4_bandCount C hR (by decide) qf_X5_59 dX5_contest_4 ?_
  rw [show xm 31 0 0 = nI nb from (show kx_Sh xm 0 n nb z from hs).2.2.1]
  refine lv_if_ne (tgt := 20) hx hb dX5_contest_7 (by decide) (fun c7 => ?_) (fun c7 => ?_)
  · exact absurd (by rw [hnb]; rfl) c7
  · skip
    have nc7 : nb = 0 := (nI_eq (a := nb) (b := 0) (by omega) (by omega)).mp c7
    exact bd_thr (is := 140) (text := "there are no bands") C Z hlf hlk hne hR hS hl.1 (by decide +kernel) qk_X5_44 qz_IllegalStateException (by decide) bd_at_IllegalStateException bd_ng_IllegalStateException bd_ot_IllegalStateException dX5_contest_10 dX5_contest_13 dX5_contest_14 dX5_contest_16 dX5_contest_19 (Nat.le_of_ble_eq_true rfl) (Nat.le_of_ble_eq_true rfl) (Nat.le_of_ble_eq_true rfl) (Nat.le_of_ble_eq_true rfl) (Nat.le_of_ble_eq_true rfl) (Nat.le_of_ble_eq_true rfl)
set_option maxHeartbeats 4000000 in
set_option maxRecDepth 100000 in
theorem k_X5_rank_x (l : Launch) (hlf : l.stackTraces = false) (E : bd_E) (xm ym : bd_M) (om : Nat → Int64) (n : Nat) (nb : Nat) (z : (Nat→Nat)) (u : Int32) (hs : kx_Sh xm 0 n nb z) (h : ¬ (¬ u < 0 ∧ u < nI nb)) : bd_Xt l yX5_rank cX5_rank 2 (some .int) 6 96 1 6 E [.ref (bd_ea E 0 0 0), .int u] xm ym om "java/lang/IndexOutOfBoundsException" := by
  refine bd_openX RX5 rfl (by decide) (Nat.le_of_ble_eq_true rfl) ?_
  intro p e s m args below meth c ls C Z hne hr hlk hS hR hl
  have hx := C.1.1
  have hb := C.1.2.1
  have hs24 := hs.2.1
  have hs6 := hs.2.2.2.1
  have hl : lv_has ls 2 [(0, .ref (bd_ea E 0 0 0)), (1, .int u)] := hl
  refine lv_iload_n hx hb dX5_rank_0 rfl (lv_at hl 1 rfl) ?_
  refine lv_if_lt (tgt := 15) hx hb dX5_rank_1 (by decide) (fun c1 => ?_) (fun c1 => ?_)
  · skip
    exact bd_thr (is := 148) (text := "no such place") C Z hlf hlk hne hR hS hl.1 (by decide +kernel) qk_X5_146 qz_IndexOutOfBoundsException (by decide) bd_at_IndexOutOfBoundsException bd_ng_IndexOutOfBoundsException bd_ot_IndexOutOfBoundsException dX5_rank_15 dX5_rank_18 dX5_rank_19 dX5_rank_21 dX5_rank_24 (Nat.le_of_ble_eq_true rfl) (Nat.le_of_ble_eq_true rfl) (Nat.le_of_ble_eq_true rfl) (Nat.le_of_ble_eq_true rfl) (Nat.le_of_ble_eq_true rfl) (Nat.le_of_ble_eq_true rfl)
  · skip
    refine lv_iload_n hx hb dX5_rank_4 rfl (lv_at hl 1 rfl) ?_
    refine lv_aload_n hx hb dX5_rank_5 rfl (lv_at hl 0 rfl) ?_
    refine bd_g_X5_season C hR  qf_X5_20 dX5_rank_6 ?_
    refine bd_g_X4_bandCount C hR (by decide) qf_X5_59 dX5_rank_9 ?_
    rw [show xm 31 0 0 = nI nb from (show kx_Sh xm 0 n nb z from hs).2.2.1]
    refine lv_icmp_lt (tgt := 25) hx hb dX5_rank_12 (by decide) (fun c12 => ?_) (fun c12 => ?_)
    · exact absurd ⟨c1, c12⟩ h
    · skip
      exact bd_thr (is := 148) (text := "no such place") C Z hlf hlk hne hR hS hl.1 (by decide +kernel) qk_X5_146 qz_IndexOutOfBoundsException (by decide) bd_at_IndexOutOfBoundsException bd_ng_IndexOutOfBoundsException bd_ot_IndexOutOfBoundsException dX5_rank_15 dX5_rank_18 dX5_rank_19 dX5_rank_21 dX5_rank_24 (Nat.le_of_ble_eq_true rfl) (Nat.le_of_ble_eq_true rfl) (Nat.le_of_ble_eq_true rfl) (Nat.le_of_ble_eq_true rfl) (Nat.le_of_ble_eq_true rfl) (Nat.le_of_ble_eq_true rfl)
set_option maxHeartbeats 4000000 in
set_option maxRecDepth 100000 in
theorem k_X5_count_x (l : Launch) (hlf : l.stackTraces = false) (E : bd_E) (xm ym : bd_M) (om : Nat → Int64) (n : Nat) (nb : Nat) (z : (Nat→Nat)) (u : Int32) (hs : kx_Sh xm 0 n nb z) (h : ¬ (¬ u < 0 ∧ u < 7)) : bd_Xt l yX5_count cX5_count 2 (some .int) 7 117 1 6 E [.ref (bd_ea E 0 0 0), .int u] xm ym om "java/lang/IndexOutOfBoundsException" := by
  refine bd_openX RX5 rfl (by decide) (Nat.le_of_ble_eq_true rfl) ?_
  intro p e s m args below meth c ls C Z hne hr hlk hS hR hl
  have hx := C.1.1
  have hb := C.1.2.1
  have hs24 := hs.2.1
  have hs6 := hs.2.2.2.1
  have hl : lv_has ls 2 [(0, .ref (bd_ea E 0 0 0)), (1, .int u)] := hl
  refine lv_iload_n hx hb dX5_count_0 rfl (lv_at hl 1 rfl) ?_
  refine lv_bipush (v := 7) hx hb dX5_count_1 (by decide) ?_
  exact bd_xS [.int u, .int 7] [] C Z hlk hne (k_X5_needWhat_x l hlf E xm ym om u 7 h) hR hS qm_X5_131 qt_X5_needWhat qz_X5 qc_X5_needWhat qp_X5_needWhat.2 ⟨Nat.le_of_ble_eq_true rfl, Nat.le_of_ble_eq_true rfl⟩ hl.1 (Nat.le_of_ble_eq_true rfl) dX5_count_3 ⟨Nat.le_of_ble_eq_true rfl, Nat.le_of_ble_eq_true rfl⟩ (Nat.le_of_ble_eq_true rfl) (Nat.le_of_ble_eq_true rfl)
set_option maxHeartbeats 4000000 in
set_option maxRecDepth 100000 in
theorem k_X5_foresee_x1 (l : Launch) (hlf : l.stackTraces = false) (E : bd_E) (xm ym : bd_M) (om : Nat → Int64) (n : Nat) (nb : Nat) (z : (Nat→Nat)) (u : Int32) (v : Int32) (g : Int32) (hs : kx_Sh xm 0 n nb z) (h : ¬ (¬ u < 0 ∧ u < nI nb)) : bd_Xt l yX5_foresee cX5_foresee 5 (some .int) 7 143 1 6 E [.ref (bd_ea E 0 0 0), .int u, .int v, .int g] xm ym om "java/lang/IndexOutOfBoundsException" := by
  refine bd_openX RX5 rfl (by decide) (Nat.le_of_ble_eq_true rfl) ?_
  intro p e s m args below meth c ls C Z hne hr hlk hS hR hl
  have hx := C.1.1
  have hb := C.1.2.1
  have hs24 := hs.2.1
  have hs6 := hs.2.2.2.1
  have hl : lv_has ls 5 [(0, .ref (bd_ea E 0 0 0)), (1, .int u), (2, .int v), (3, .int g)] := hl
  refine lv_aload_n hx hb dX5_foresee_0 rfl (lv_at hl 0 rfl) ?_
  refine lv_iload_n hx hb dX5_foresee_1 rfl (lv_at hl 1 rfl) ?_
  exact bd_xV [.int u] [] C Z hlk hne (k_X5_needBand_x l hlf E xm ym om n nb z u hs (by omega)) hR hS (bd_recv C.2 hR ⟨by decide, (by decide), (by decide)⟩ rfl rfl) qm_X5_101 qi_X5_needBand qs_X5_needBand qz_X5 qc_X5_needBand qp_X5_needBand ⟨Nat.le_of_ble_eq_true rfl, Nat.le_of_ble_eq_true rfl⟩ hl.1 (Nat.le_of_ble_eq_true rfl) dX5_foresee_2 ⟨Nat.le_of_ble_eq_true rfl, Nat.le_of_ble_eq_true rfl⟩ (Nat.le_of_ble_eq_true rfl) (Nat.le_of_ble_eq_true rfl)
set_option maxHeartbeats 4000000 in
set_option maxRecDepth 100000 in
theorem k_X5_foresee_x2 (l : Launch) (hlf : l.stackTraces = false) (E : bd_E) (xm ym : bd_M) (om : Nat → Int64) (n : Nat) (nb : Nat) (z : (Nat→Nat)) (b : Nat) (v : Int32) (u : Int32) (hs : kx_Sh xm 0 n nb z) (hb : b < nb) (h : ¬ (¬ u < 0 ∧ u < 4)) : bd_Xt l yX5_foresee cX5_foresee 5 (some .int) 7 143 1 6 E [.ref (bd_ea E 0 0 0), .int (nI b), .int v, .int u] xm ym om "java/lang/IndexOutOfBoundsException" := by
  refine bd_openX RX5 rfl (by decide) (Nat.le_of_ble_eq_true rfl) ?_
  intro p e s m args below meth c ls C Z hne hr hlk hS hR hl
  have hx := C.1.1
  have hb := C.1.2.1
  have hs24 := hs.2.1
  have hs6 := hs.2.2.2.1
  have hl : lv_has ls 5 [(0, .ref (bd_ea E 0 0 0)), (1, .int (nI b)), (2, .int v), (3, .int u)] := hl
  refine lv_aload_n hx hb dX5_foresee_0 rfl (lv_at hl 0 rfl) ?_
  refine lv_iload_n hx hb dX5_foresee_1 rfl (lv_at hl 1 rfl) ?_
  refine bd_cV1 [.int (nI b)] [] C (k_X5_needBand l E xm ym om n nb z b hs (by omega)) hR hS (bd_recv C.2 hR ⟨by decide, (by decide), (by decide)⟩ rfl rfl) qm_X5_101 qi_X5_needBand qs_X5_needBand qz_X5 qc_X5_needBand qp_X5_needBand ⟨Nat.le_of_ble_eq_true rfl, Nat.le_of_ble_eq_true rfl⟩ hl.1 (Nat.le_of_ble_eq_true rfl) dX5_foresee_2 ⟨by show 0 + 0 ≤ 1; omega, by show 0 + 0 ≤ 6; omega⟩ (fun H locs hR hS hz2 => ?_)
  refine lv_pop hx hb dX5_foresee_5 rfl ?_
  refine lv_iload_n hx hb dX5_foresee_6 rfl (lv_at hl 3 rfl) ?_
  refine lv_iconst (v := 4) hx hb dX5_foresee_7 (by decide) ?_
  exact bd_xS [.int u, .int 4] [] C Z hlk hne (k_X5_needWhat_x l hlf E xm ym om u 4 h) hR hS qm_X5_131 qt_X5_needWhat qz_X5 qc_X5_needWhat qp_X5_needWhat.2 ⟨Nat.le_of_ble_eq_true rfl, Nat.le_of_ble_eq_true rfl⟩ hl.1 (Nat.le_of_ble_eq_true rfl) dX5_foresee_8 ⟨Nat.le_of_ble_eq_true rfl, Nat.le_of_ble_eq_true rfl⟩ (Nat.le_of_ble_eq_true rfl) (Nat.le_of_ble_eq_true rfl)
set_option maxHeartbeats 4000000 in
set_option maxRecDepth 100000 in
theorem k_X5_foresee_x3 (l : Launch) (hlf : l.stackTraces = false) (E : bd_E) (xm ym : bd_M) (om : Nat → Int64) (n : Nat) (nb : Nat) (z : (Nat→Nat)) (b : Nat) (v : Int32) (q : Nat) (hs : kx_Sh xm 0 n nb z) (hb : b < nb) (hq : q < 4) (h : ¬ (¬ v < 1 ∧ ¬ 20 < v)) : bd_Xt l yX5_foresee cX5_foresee 5 (some .int) 7 143 1 6 E [.ref (bd_ea E 0 0 0), .int (nI b), .int v, .int (nI q)] xm ym om "java/lang/IllegalArgumentException" := by
  refine bd_openX RX5 rfl (by decide) (Nat.le_of_ble_eq_true rfl) ?_
  intro p e s m args below meth c ls C Z hne hr hlk hS hR hl
  have hx := C.1.1
  have hb := C.1.2.1
  have hs24 := hs.2.1
  have hs6 := hs.2.2.2.1
  have hl : lv_has ls 5 [(0, .ref (bd_ea E 0 0 0)), (1, .int (nI b)), (2, .int v), (3, .int (nI q))] := hl
  refine lv_aload_n hx hb dX5_foresee_0 rfl (lv_at hl 0 rfl) ?_
  refine lv_iload_n hx hb dX5_foresee_1 rfl (lv_at hl 1 rfl) ?_
  refine bd_cV1 [.int (nI b)] [] C (k_X5_needBand l E xm ym om n nb z b hs (by omega)) hR hS (bd_recv C.2 hR ⟨by decide, (by decide), (by decide)⟩ rfl rfl) qm_X5_101 qi_X5_needBand qs_X5_needBand qz_X5 qc_X5_needBand qp_X5_needBand ⟨Nat.le_of_ble_eq_true rfl, Nat.le_of_ble_eq_true rfl⟩ hl.1 (Nat.le_of_ble_eq_true rfl) dX5_foresee_2 ⟨by show 0 + 0 ≤ 1; omega, by show 0 + 0 ≤ 6; omega⟩ (fun H locs hR hS hz2 => ?_)
  refine lv_pop hx hb dX5_foresee_5 rfl ?_
  refine lv_iload_n hx hb dX5_foresee_6 rfl (lv_at hl 3 rfl) ?_
  refine lv_iconst (v := 4) hx hb dX5_foresee_7 (by decide) ?_
  refine bd_cS0 [.int (nI q), .int 4] [] C (k_X5_needWhat l E xm ym om (nI q) 4 (bd_kP (show q < 4 from by omega) (by decide))) hR hS qm_X5_131 qt_X5_needWhat qz_X5 qc_X5_needWhat qp_X5_needWhat.2 ⟨Nat.le_of_ble_eq_true rfl, Nat.le_of_ble_eq_true rfl⟩ hl.1 (Nat.le_of_ble_eq_true rfl) dX5_foresee_8 ⟨by show 0 + 0 ≤ 1; omega, by show 0 + 0 ≤ 6; omega⟩ (fun H locs hR hS hz8 => ?_)
  refine lv_iload_n hx hb dX5_foresee_11 rfl (lv_at hl 2 rfl) ?_
  refine lv_iconst (v := 1) hx hb dX5_foresee_12 (by decide) ?_
  refine lv_icmp_lt (tgt := 22) hx hb dX5_foresee_13 (by decide) (fun c13 => ?_) (fun c13 => ?_)
  · skip
    exact bd_thr (is := 155) (text := "contests are 1 to 20") C Z hlf hlk hne hR hS hl.1 (by decide +kernel) qk_X5_31 qz_IllegalArgumentException (by decide) bd_at_IllegalArgumentException bd_ng_IllegalArgumentException bd_ot_IllegalArgumentException dX5_foresee_22 dX5_foresee_25 dX5_foresee_26 dX5_foresee_28 dX5_foresee_31 (Nat.le_of_ble_eq_true rfl) (Nat.le_of_ble_eq_true rfl) (Nat.le_of_ble_eq_true rfl) (Nat.le_of_ble_eq_true rfl) (Nat.le_of_ble_eq_true rfl) (Nat.le_of_ble_eq_true rfl)
  · skip
    refine lv_iload_n hx hb dX5_foresee_16 rfl (lv_at hl 2 rfl) ?_
    refine lv_bipush (v := 20) hx hb dX5_foresee_17 (by decide) ?_
    refine lv_icmp_le (tgt := 32) hx hb dX5_foresee_19 (by decide) (fun c19 => ?_) (fun c19 => ?_)
    · exact absurd ⟨c13, Int32.not_lt.mpr c19⟩ h
    · skip
      exact bd_thr (is := 155) (text := "contests are 1 to 20") C Z hlf hlk hne hR hS hl.1 (by decide +kernel) qk_X5_31 qz_IllegalArgumentException (by decide) bd_at_IllegalArgumentException bd_ng_IllegalArgumentException bd_ot_IllegalArgumentException dX5_foresee_22 dX5_foresee_25 dX5_foresee_26 dX5_foresee_28 dX5_foresee_31 (Nat.le_of_ble_eq_true rfl) (Nat.le_of_ble_eq_true rfl) (Nat.le_of_ble_eq_true rfl) (Nat.le_of_ble_eq_true rfl) (Nat.le_of_ble_eq_true rfl) (Nat.le_of_ble_eq_true rfl)
set_option maxHeartbeats 4000000 in
set_option maxRecDepth 100000 in
theorem k_X5_advise_x (l : Launch) (hlf : l.stackTraces = false) (E : bd_E) (xm ym : bd_M) (om : Nat → Int64) (n : Nat) (nb : Nat) (z : (Nat→Nat)) (u : Int32) (hs : kx_Sh xm 0 n nb z) (h : ¬ (¬ u < 0 ∧ u < nI nb)) : bd_Xt l yX5_advise cX5_advise 2 (some .int) 7 143 1 6 E [.ref (bd_ea E 0 0 0), .int u] xm ym om "java/lang/IndexOutOfBoundsException" := by
  refine bd_openX RX5 rfl (by decide) (Nat.le_of_ble_eq_true rfl) ?_
  intro p e s m args below meth c ls C Z hne hr hlk hS hR hl
  have hx := C.1.1
  have hb := C.1.2.1
  have hs24 := hs.2.1
  have hs6 := hs.2.2.2.1
  have hl : lv_has ls 2 [(0, .ref (bd_ea E 0 0 0)), (1, .int u)] := hl
  refine lv_aload_n hx hb dX5_advise_0 rfl (lv_at hl 0 rfl) ?_
  refine lv_iload_n hx hb dX5_advise_1 rfl (lv_at hl 1 rfl) ?_
  exact bd_xV [.int u] [] C Z hlk hne (k_X5_needBand_x l hlf E xm ym om n nb z u hs (by omega)) hR hS (bd_recv C.2 hR ⟨by decide, (by decide), (by decide)⟩ rfl rfl) qm_X5_101 qi_X5_needBand qs_X5_needBand qz_X5 qc_X5_needBand qp_X5_needBand ⟨Nat.le_of_ble_eq_true rfl, Nat.le_of_ble_eq_true rfl⟩ hl.1 (Nat.le_of_ble_eq_true rfl) dX5_advise_2 ⟨Nat.le_of_ble_eq_true rfl, Nat.le_of_ble_eq_true rfl⟩ (Nat.le_of_ble_eq_true rfl) (Nat.le_of_ble_eq_true rfl)
set_option maxHeartbeats 4000000 in
set_option maxRecDepth 100000 in
theorem k_X5_free_x (l : Launch) (hlf : l.stackTraces = false) (E : bd_E) (xm ym : bd_M) (om : Nat → Int64) (n : Nat) (nb : Nat) (z : (Nat→Nat)) (u : Int32) (hs : kx_Sh xm 0 n nb z) (h : ¬ (¬ u < 0 ∧ u < 4)) : bd_Xt l yX5_free cX5_free 2 (some .int) 7 116 1 6 E [.ref (bd_ea E 0 0 0), .int u] xm ym om "java/lang/IndexOutOfBoundsException" := by
  refine bd_openX RX5 rfl (by decide) (Nat.le_of_ble_eq_true rfl) ?_
  intro p e s m args below meth c ls C Z hne hr hlk hS hR hl
  have hx := C.1.1
  have hb := C.1.2.1
  have hs24 := hs.2.1
  have hs6 := hs.2.2.2.1
  have hl : lv_has ls 2 [(0, .ref (bd_ea E 0 0 0)), (1, .int u)] := hl
  refine lv_iload_n hx hb dX5_free_0 rfl (lv_at hl 1 rfl) ?_
  exact bd_xS [.int u] [] C Z hlk hne (k_X5_needInstrument_x l hlf E xm ym om u h) hR hS qm_X5_117 qt_X5_needInstrument qz_X5 qc_X5_needInstrument qp_X5_needInstrument.2 ⟨Nat.le_of_ble_eq_true rfl, Nat.le_of_ble_eq_true rfl⟩ hl.1 (Nat.le_of_ble_eq_true rfl) dX5_free_1 ⟨Nat.le_of_ble_eq_true rfl, Nat.le_of_ble_eq_true rfl⟩ (Nat.le_of_ble_eq_true rfl) (Nat.le_of_ble_eq_true rfl)
