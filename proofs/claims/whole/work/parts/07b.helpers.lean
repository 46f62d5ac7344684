/-! THE LAW'S HELPERS -/
set_option maxHeartbeats 4000000 in
set_option maxRecDepth 100000 in
theorem k_L_addPlayer_ok (l : Launch) (E : bd_E) (xm ym xm' : bd_M) (om : Nat → Int64) (a : Int32) (b : Int32) (c2 : Int32) (d : Int32) {fr lo mc ms : Nat} {v : Int32} (hM : bd_Ct l yX5_addPlayer cX5_addPlayer 5 (some .int) fr lo mc ms E [.ref (bd_ea E 0 0 0), .int a, .int b, .int c2, .int d] xm ym om xm' ym om (some (.int v))) : bd_CL l yL_addPlayer cL_addPlayer 7 [(0, 14, 17, 13), (0, 14, 21, 15)] (fr + 1) (24 + lo) mc ms E [.ref (bd_ea E 0 0 0), .int a, .int b, .int c2, .int d, .ref (bd_ea E 30 0 0)] xm ym om xm' ym (vp_updL om 0 v.toInt64) 0 := by
  refine bd_openL RL rfl rfl (Nat.le_of_ble_eq_true rfl) ?_
  intro p e s m args below meth c ls C Z N ht hr hlk hS hR hl
  have hx := C.1.1
  have hb := C.1.2.1
  have hl : lv_has ls 7 [(0, .ref (bd_ea E 0 0 0)), (1, .int a), (2, .int b), (3, .int c2), (4, .int d), (5, .ref (bd_ea E 30 0 0))] := hl
  refine lv_aload hx hb dL_addPlayer_0 (lv_at hl 5 rfl) ?_
  refine lv_iconst (v := 0) hx hb dL_addPlayer_2 (by decide) ?_
  refine lv_aload_n hx hb dL_addPlayer_3 rfl (lv_at hl 0 rfl) ?_
  refine lv_iload_n hx hb dL_addPlayer_4 rfl (lv_at hl 1 rfl) ?_
  refine lv_iload_n hx hb dL_addPlayer_5 rfl (lv_at hl 2 rfl) ?_
  refine lv_iload_n hx hb dL_addPlayer_6 rfl (lv_at hl 3 rfl) ?_
  refine lv_iload hx hb dL_addPlayer_7 (lv_at hl 4 rfl) ?_
  refine bd_cV1 [.int a, .int b, .int c2, .int d] [.int 0, .ref (bd_ea E 30 0 0)] C hM hR hS (bd_recv C.2 hR ⟨by decide, (by decide), (by decide)⟩ rfl rfl) qm_L_7 qi_X5_addPlayer qs_X5_addPlayer qz_X5 qc_X5_addPlayer qp_X5_addPlayer ⟨Nat.le_refl _, Nat.le_refl _⟩ hl.1 (Nat.le_of_ble_eq_true rfl) dL_addPlayer_9 ⟨by show 0 + mc ≤ mc; omega, by show 0 + ms ≤ ms; omega⟩ (fun H locs hR hS hz => ?_)
  refine lv_i2l (v := v.toInt64) hx hb dL_addPlayer_12 rfl ?_
  refine bd_stO C hR hS dL_addPlayer_13 (fun H locs hR hS => ?_)
  refine lv_goto (tgt := 25) hx hb dL_addPlayer_14 (by decide) ?_
  refine lv_iconst (v := 0) hx hb dL_addPlayer_25 (by decide) ?_
  exact bd_ri C hr hlk hR hS (by omega) (by omega) dL_addPlayer_26 rfl

set_option maxHeartbeats 4000000 in
set_option maxRecDepth 100000 in
theorem k_L_addPlayer_x1 (l : Launch) (E : bd_E) (xm ym : bd_M) (om : Nat → Int64) (a : Int32) (b : Int32) (c2 : Int32) (d : Int32) {fr lo mc ms : Nat} (hM : bd_Xt l yX5_addPlayer cX5_addPlayer 5 (some .int) fr lo mc ms E [.ref (bd_ea E 0 0 0), .int a, .int b, .int c2, .int d] xm ym om "java/lang/IllegalArgumentException") : bd_CL l yL_addPlayer cL_addPlayer 7 [(0, 14, 17, 13), (0, 14, 21, 15)] (fr + 1) (24 + lo) mc ms E [.ref (bd_ea E 0 0 0), .int a, .int b, .int c2, .int d, .ref (bd_ea E 30 0 0)] xm ym om xm ym om 1 := by
  refine bd_openL RL rfl rfl (Nat.le_of_ble_eq_true rfl) ?_
  intro p e s m args below meth c ls C Z N ht hr hlk hS hR hl
  have hx := C.1.1
  have hb := C.1.2.1
  have hl : lv_has ls 7 [(0, .ref (bd_ea E 0 0 0)), (1, .int a), (2, .int b), (3, .int c2), (4, .int d), (5, .ref (bd_ea E 30 0 0))] := hl
  refine lv_aload hx hb dL_addPlayer_0 (lv_at hl 5 rfl) ?_
  refine lv_iconst (v := 0) hx hb dL_addPlayer_2 (by decide) ?_
  refine lv_aload_n hx hb dL_addPlayer_3 rfl (lv_at hl 0 rfl) ?_
  refine lv_iload_n hx hb dL_addPlayer_4 rfl (lv_at hl 1 rfl) ?_
  refine lv_iload_n hx hb dL_addPlayer_5 rfl (lv_at hl 2 rfl) ?_
  refine lv_iload_n hx hb dL_addPlayer_6 rfl (lv_at hl 3 rfl) ?_
  refine lv_iload hx hb dL_addPlayer_7 (lv_at hl 4 rfl) ?_
  refine bd_xC [.int a, .int b, .int c2, .int d] [.int 0, .ref (bd_ea E 30 0 0)] C Z hM hR hS (bd_recv C.2 hR ⟨by decide, (by decide), (by decide)⟩ rfl rfl) qm_L_7 qi_X5_addPlayer qs_X5_addPlayer qz_X5 qc_X5_addPlayer qp_X5_addPlayer ⟨Nat.le_refl _, Nat.le_refl _⟩ hl.1 (Nat.le_of_ble_eq_true rfl) dL_addPlayer_9 ⟨by show 0 + mc ≤ mc; omega, by show 0 + ms ≤ ms; omega⟩ (fun H locs q9 ce hR hS hce hcv hcl => ?_)
  refine vx_catch (own := RL) (name := "java/lang/IllegalArgumentException") (E := "java/lang/IllegalArgumentException") C.1.2.2.2.1 [] ⟨0, 14, 17, 13⟩ [⟨0, 14, 21, 15⟩] ht (fun z hz => absurd hz List.not_mem_nil) rfl (by decide) (C.1.2.2.2.2 _ qk_L_13) (va_Nw.use (bd_BX_t _ (List.mem_of_getElem? (i := 3) rfl)) (Z.2.2.1 _ (List.mem_of_getElem? (i := 3) rfl))) hce hcv hcl ?_
  refine lv_astore (lv' := [(6, .ref q9), (0, .ref (bd_ea E 0 0 0)), (1, .int a), (2, .int b), (3, .int c2), (4, .int d), (5, .ref (bd_ea E 30 0 0))]) hx hb dL_addPlayer_17 hl (by decide) rfl (fun ls hl => ?_)
  refine lv_iconst (v := 1) hx hb dL_addPlayer_19 (by decide) ?_
  exact bd_ri C hr hlk hR hS (by omega) (by omega) dL_addPlayer_20 rfl

set_option maxHeartbeats 4000000 in
set_option maxRecDepth 100000 in
theorem k_L_addPlayer_x2 (l : Launch) (E : bd_E) (xm ym : bd_M) (om : Nat → Int64) (a : Int32) (b : Int32) (c2 : Int32) (d : Int32) {fr lo mc ms : Nat} (hM : bd_Xt l yX5_addPlayer cX5_addPlayer 5 (some .int) fr lo mc ms E [.ref (bd_ea E 0 0 0), .int a, .int b, .int c2, .int d] xm ym om "java/lang/IllegalStateException") : bd_CL l yL_addPlayer cL_addPlayer 7 [(0, 14, 17, 13), (0, 14, 21, 15)] (fr + 1) (24 + lo) mc ms E [.ref (bd_ea E 0 0 0), .int a, .int b, .int c2, .int d, .ref (bd_ea E 30 0 0)] xm ym om xm ym om 2 := by
  refine bd_openL RL rfl rfl (Nat.le_of_ble_eq_true rfl) ?_
  intro p e s m args below meth c ls C Z N ht hr hlk hS hR hl
  have hx := C.1.1
  have hb := C.1.2.1
  have hl : lv_has ls 7 [(0, .ref (bd_ea E 0 0 0)), (1, .int a), (2, .int b), (3, .int c2), (4, .int d), (5, .ref (bd_ea E 30 0 0))] := hl
  refine lv_aload hx hb dL_addPlayer_0 (lv_at hl 5 rfl) ?_
  refine lv_iconst (v := 0) hx hb dL_addPlayer_2 (by decide) ?_
  refine lv_aload_n hx hb dL_addPlayer_3 rfl (lv_at hl 0 rfl) ?_
  refine lv_iload_n hx hb dL_addPlayer_4 rfl (lv_at hl 1 rfl) ?_
  refine lv_iload_n hx hb dL_addPlayer_5 rfl (lv_at hl 2 rfl) ?_
  refine lv_iload_n hx hb dL_addPlayer_6 rfl (lv_at hl 3 rfl) ?_
  refine lv_iload hx hb dL_addPlayer_7 (lv_at hl 4 rfl) ?_
  refine bd_xC [.int a, .int b, .int c2, .int d] [.int 0, .ref (bd_ea E 30 0 0)] C Z hM hR hS (bd_recv C.2 hR ⟨by decide, (by decide), (by decide)⟩ rfl rfl) qm_L_7 qi_X5_addPlayer qs_X5_addPlayer qz_X5 qc_X5_addPlayer qp_X5_addPlayer ⟨Nat.le_refl _, Nat.le_refl _⟩ hl.1 (Nat.le_of_ble_eq_true rfl) dL_addPlayer_9 ⟨by show 0 + mc ≤ mc; omega, by show 0 + ms ≤ ms; omega⟩ (fun H locs q9 ce hR hS hce hcv hcl => ?_)
  refine vx_catch (own := RL) (name := "java/lang/IllegalStateException") (E := "java/lang/IllegalStateException") C.1.2.2.2.1 [⟨0, 14, 17, 13⟩] ⟨0, 14, 21, 15⟩ [] ht (fun z hz => by obtain rfl := List.mem_singleton.mp hz; exact Or.inr ⟨by decide, _, C.1.2.2.2.2 _ qk_L_13, N.1⟩) rfl (by decide) (C.1.2.2.2.2 _ qk_L_15) (va_Nw.use (bd_BX_t _ (List.mem_of_getElem? (i := 4) rfl)) (Z.2.2.1 _ (List.mem_of_getElem? (i := 4) rfl))) hce hcv hcl ?_
  refine lv_astore (lv' := [(6, .ref q9), (0, .ref (bd_ea E 0 0 0)), (1, .int a), (2, .int b), (3, .int c2), (4, .int d), (5, .ref (bd_ea E 30 0 0))]) hx hb dL_addPlayer_21 hl (by decide) rfl (fun ls hl => ?_)
  refine lv_iconst (v := 2) hx hb dL_addPlayer_23 (by decide) ?_
  exact bd_ri C hr hlk hR hS (by omega) (by omega) dL_addPlayer_24 rfl

set_option maxHeartbeats 4000000 in
set_option maxRecDepth 100000 in
theorem k_L_found_ok (l : Launch) (E : bd_E) (xm ym xm' : bd_M) (om : Nat → Int64) (a : Int32) {fr lo mc ms : Nat} {v : Int32} (hM : bd_Ct l yX5_found cX5_found 3 (some .int) fr lo mc ms E [.ref (bd_ea E 0 0 0), .int a] xm ym om xm' ym om (some (.int v))) : bd_CL l yL_found cL_found 4 [(0, 9, 12, 13), (0, 9, 15, 15)] (fr + 1) (22 + lo) mc ms E [.ref (bd_ea E 0 0 0), .int a, .ref (bd_ea E 30 0 0)] xm ym om xm' ym (vp_updL om 0 v.toInt64) 0 := by
  refine bd_openL RL rfl rfl (Nat.le_of_ble_eq_true rfl) ?_
  intro p e s m args below meth c ls C Z N ht hr hlk hS hR hl
  have hx := C.1.1
  have hb := C.1.2.1
  have hl : lv_has ls 4 [(0, .ref (bd_ea E 0 0 0)), (1, .int a), (2, .ref (bd_ea E 30 0 0))] := hl
  refine lv_aload_n hx hb dL_found_0 rfl (lv_at hl 2 rfl) ?_
  refine lv_iconst (v := 0) hx hb dL_found_1 (by decide) ?_
  refine lv_aload_n hx hb dL_found_2 rfl (lv_at hl 0 rfl) ?_
  refine lv_iload_n hx hb dL_found_3 rfl (lv_at hl 1 rfl) ?_
  refine bd_cV1 [.int a] [.int 0, .ref (bd_ea E 30 0 0)] C hM hR hS (bd_recv C.2 hR ⟨by decide, (by decide), (by decide)⟩ rfl rfl) qm_L_17 qi_X5_found qs_X5_found qz_X5 qc_X5_found qp_X5_found ⟨Nat.le_refl _, Nat.le_refl _⟩ hl.1 (Nat.le_of_ble_eq_true rfl) dL_found_4 ⟨by show 0 + mc ≤ mc; omega, by show 0 + ms ≤ ms; omega⟩ (fun H locs hR hS hz => ?_)
  refine lv_i2l (v := v.toInt64) hx hb dL_found_7 rfl ?_
  refine bd_stO C hR hS dL_found_8 (fun H locs hR hS => ?_)
  refine lv_goto (tgt := 18) hx hb dL_found_9 (by decide) ?_
  refine lv_iconst (v := 0) hx hb dL_found_18 (by decide) ?_
  exact bd_ri C hr hlk hR hS (by omega) (by omega) dL_found_19 rfl

set_option maxHeartbeats 4000000 in
set_option maxRecDepth 100000 in
theorem k_L_found_x1 (l : Launch) (E : bd_E) (xm ym : bd_M) (om : Nat → Int64) (a : Int32) {fr lo mc ms : Nat} (hM : bd_Xt l yX5_found cX5_found 3 (some .int) fr lo mc ms E [.ref (bd_ea E 0 0 0), .int a] xm ym om "java/lang/IllegalArgumentException") : bd_CL l yL_found cL_found 4 [(0, 9, 12, 13), (0, 9, 15, 15)] (fr + 1) (22 + lo) mc ms E [.ref (bd_ea E 0 0 0), .int a, .ref (bd_ea E 30 0 0)] xm ym om xm ym om 1 := by
  refine bd_openL RL rfl rfl (Nat.le_of_ble_eq_true rfl) ?_
  intro p e s m args below meth c ls C Z N ht hr hlk hS hR hl
  have hx := C.1.1
  have hb := C.1.2.1
  have hl : lv_has ls 4 [(0, .ref (bd_ea E 0 0 0)), (1, .int a), (2, .ref (bd_ea E 30 0 0))] := hl
  refine lv_aload_n hx hb dL_found_0 rfl (lv_at hl 2 rfl) ?_
  refine lv_iconst (v := 0) hx hb dL_found_1 (by decide) ?_
  refine lv_aload_n hx hb dL_found_2 rfl (lv_at hl 0 rfl) ?_
  refine lv_iload_n hx hb dL_found_3 rfl (lv_at hl 1 rfl) ?_
  refine bd_xC [.int a] [.int 0, .ref (bd_ea E 30 0 0)] C Z hM hR hS (bd_recv C.2 hR ⟨by decide, (by decide), (by decide)⟩ rfl rfl) qm_L_17 qi_X5_found qs_X5_found qz_X5 qc_X5_found qp_X5_found ⟨Nat.le_refl _, Nat.le_refl _⟩ hl.1 (Nat.le_of_ble_eq_true rfl) dL_found_4 ⟨by show 0 + mc ≤ mc; omega, by show 0 + ms ≤ ms; omega⟩ (fun H locs q9 ce hR hS hce hcv hcl => ?_)
  refine vx_catch (own := RL) (name := "java/lang/IllegalArgumentException") (E := "java/lang/IllegalArgumentException") C.1.2.2.2.1 [] ⟨0, 9, 12, 13⟩ [⟨0, 9, 15, 15⟩] ht (fun z hz => absurd hz List.not_mem_nil) rfl (by decide) (C.1.2.2.2.2 _ qk_L_13) (va_Nw.use (bd_BX_t _ (List.mem_of_getElem? (i := 3) rfl)) (Z.2.2.1 _ (List.mem_of_getElem? (i := 3) rfl))) hce hcv hcl ?_
  refine lv_astore_n (lv' := [(3, .ref q9), (0, .ref (bd_ea E 0 0 0)), (1, .int a), (2, .ref (bd_ea E 30 0 0))]) hx hb dL_found_12 rfl hl (by decide) rfl (fun ls hl => ?_)
  refine lv_iconst (v := 1) hx hb dL_found_13 (by decide) ?_
  exact bd_ri C hr hlk hR hS (by omega) (by omega) dL_found_14 rfl

set_option maxHeartbeats 4000000 in
set_option maxRecDepth 100000 in
theorem k_L_found_x2 (l : Launch) (E : bd_E) (xm ym : bd_M) (om : Nat → Int64) (a : Int32) {fr lo mc ms : Nat} (hM : bd_Xt l yX5_found cX5_found 3 (some .int) fr lo mc ms E [.ref (bd_ea E 0 0 0), .int a] xm ym om "java/lang/IllegalStateException") : bd_CL l yL_found cL_found 4 [(0, 9, 12, 13), (0, 9, 15, 15)] (fr + 1) (22 + lo) mc ms E [.ref (bd_ea E 0 0 0), .int a, .ref (bd_ea E 30 0 0)] xm ym om xm ym om 2 := by
  refine bd_openL RL rfl rfl (Nat.le_of_ble_eq_true rfl) ?_
  intro p e s m args below meth c ls C Z N ht hr hlk hS hR hl
  have hx := C.1.1
  have hb := C.1.2.1
  have hl : lv_has ls 4 [(0, .ref (bd_ea E 0 0 0)), (1, .int a), (2, .ref (bd_ea E 30 0 0))] := hl
  refine lv_aload_n hx hb dL_found_0 rfl (lv_at hl 2 rfl) ?_
  refine lv_iconst (v := 0) hx hb dL_found_1 (by decide) ?_
  refine lv_aload_n hx hb dL_found_2 rfl (lv_at hl 0 rfl) ?_
  refine lv_iload_n hx hb dL_found_3 rfl (lv_at hl 1 rfl) ?_
  refine bd_xC [.int a] [.int 0, .ref (bd_ea E 30 0 0)] C Z hM hR hS (bd_recv C.2 hR ⟨by decide, (by decide), (by decide)⟩ rfl rfl) qm_L_17 qi_X5_found qs_X5_found qz_X5 qc_X5_found qp_X5_found ⟨Nat.le_refl _, Nat.le_refl _⟩ hl.1 (Nat.le_of_ble_eq_true rfl) dL_found_4 ⟨by show 0 + mc ≤ mc; omega, by show 0 + ms ≤ ms; omega⟩ (fun H locs q9 ce hR hS hce hcv hcl => ?_)
  refine vx_catch (own := RL) (name := "java/lang/IllegalStateException") (E := "java/lang/IllegalStateException") C.1.2.2.2.1 [⟨0, 9, 12, 13⟩] ⟨0, 9, 15, 15⟩ [] ht (fun z hz => by obtain rfl := List.mem_singleton.mp hz; exact Or.inr ⟨by decide, _, C.1.2.2.2.2 _ qk_L_13, N.1⟩) rfl (by decide) (C.1.2.2.2.2 _ qk_L_15) (va_Nw.use (bd_BX_t _ (List.mem_of_getElem? (i := 4) rfl)) (Z.2.2.1 _ (List.mem_of_getElem? (i := 4) rfl))) hce hcv hcl ?_
  refine lv_astore_n (lv' := [(3, .ref q9), (0, .ref (bd_ea E 0 0 0)), (1, .int a), (2, .ref (bd_ea E 30 0 0))]) hx hb dL_found_15 rfl hl (by decide) rfl (fun ls hl => ?_)
  refine lv_iconst (v := 2) hx hb dL_found_16 (by decide) ?_
  exact bd_ri C hr hlk hR hS (by omega) (by omega) dL_found_17 rfl

set_option maxHeartbeats 4000000 in
set_option maxRecDepth 100000 in
theorem k_L_seat_ok (l : Launch) (E : bd_E) (xm ym xm' : bd_M) (om : Nat → Int64) (a : Int32) (b : Int32) (c2 : Int32) {fr lo mc ms : Nat} {v : Int32} (hM : bd_Ct l yX5_seat cX5_seat 6 (some .int) fr lo mc ms E [.ref (bd_ea E 0 0 0), .int a, .int b, .int c2] xm ym om xm' ym om (some (.int v))) : bd_CL l yL_seat cL_seat 6 [(0, 12, 15, 25), (0, 12, 19, 15)] (fr + 1) (25 + lo) mc ms E [.ref (bd_ea E 0 0 0), .int a, .int b, .int c2, .ref (bd_ea E 30 0 0)] xm ym om xm' ym (vp_updL om 0 v.toInt64) 0 := by
  refine bd_openL RL rfl rfl (Nat.le_of_ble_eq_true rfl) ?_
  intro p e s m args below meth c ls C Z N ht hr hlk hS hR hl
  have hx := C.1.1
  have hb := C.1.2.1
  have hl : lv_has ls 6 [(0, .ref (bd_ea E 0 0 0)), (1, .int a), (2, .int b), (3, .int c2), (4, .ref (bd_ea E 30 0 0))] := hl
  refine lv_aload hx hb dL_seat_0 (lv_at hl 4 rfl) ?_
  refine lv_iconst (v := 0) hx hb dL_seat_2 (by decide) ?_
  refine lv_aload_n hx hb dL_seat_3 rfl (lv_at hl 0 rfl) ?_
  refine lv_iload_n hx hb dL_seat_4 rfl (lv_at hl 1 rfl) ?_
  refine lv_iload_n hx hb dL_seat_5 rfl (lv_at hl 2 rfl) ?_
  refine lv_iload_n hx hb dL_seat_6 rfl (lv_at hl 3 rfl) ?_
  refine bd_cV1 [.int a, .int b, .int c2] [.int 0, .ref (bd_ea E 30 0 0)] C hM hR hS (bd_recv C.2 hR ⟨by decide, (by decide), (by decide)⟩ rfl rfl) qm_L_21 qi_X5_seat qs_X5_seat qz_X5 qc_X5_seat qp_X5_seat ⟨Nat.le_refl _, Nat.le_refl _⟩ hl.1 (Nat.le_of_ble_eq_true rfl) dL_seat_7 ⟨by show 0 + mc ≤ mc; omega, by show 0 + ms ≤ ms; omega⟩ (fun H locs hR hS hz => ?_)
  refine lv_i2l (v := v.toInt64) hx hb dL_seat_10 rfl ?_
  refine bd_stO C hR hS dL_seat_11 (fun H locs hR hS => ?_)
  refine lv_goto (tgt := 23) hx hb dL_seat_12 (by decide) ?_
  refine lv_iconst (v := 0) hx hb dL_seat_23 (by decide) ?_
  exact bd_ri C hr hlk hR hS (by omega) (by omega) dL_seat_24 rfl

set_option maxHeartbeats 4000000 in
set_option maxRecDepth 100000 in
theorem k_L_seat_x1 (l : Launch) (E : bd_E) (xm ym : bd_M) (om : Nat → Int64) (a : Int32) (b : Int32) (c2 : Int32) {fr lo mc ms : Nat} (hM : bd_Xt l yX5_seat cX5_seat 6 (some .int) fr lo mc ms E [.ref (bd_ea E 0 0 0), .int a, .int b, .int c2] xm ym om "java/lang/IndexOutOfBoundsException") : bd_CL l yL_seat cL_seat 6 [(0, 12, 15, 25), (0, 12, 19, 15)] (fr + 1) (25 + lo) mc ms E [.ref (bd_ea E 0 0 0), .int a, .int b, .int c2, .ref (bd_ea E 30 0 0)] xm ym om xm ym om 1 := by
  refine bd_openL RL rfl rfl (Nat.le_of_ble_eq_true rfl) ?_
  intro p e s m args below meth c ls C Z N ht hr hlk hS hR hl
  have hx := C.1.1
  have hb := C.1.2.1
  have hl : lv_has ls 6 [(0, .ref (bd_ea E 0 0 0)), (1, .int a), (2, .int b), (3, .int c2), (4, .ref (bd_ea E 30 0 0))] := hl
  refine lv_aload hx hb dL_seat_0 (lv_at hl 4 rfl) ?_
  refine lv_iconst (v := 0) hx hb dL_seat_2 (by decide) ?_
  refine lv_aload_n hx hb dL_seat_3 rfl (lv_at hl 0 rfl) ?_
  refine lv_iload_n hx hb dL_seat_4 rfl (lv_at hl 1 rfl) ?_
  refine lv_iload_n hx hb dL_seat_5 rfl (lv_at hl 2 rfl) ?_
  refine lv_iload_n hx hb dL_seat_6 rfl (lv_at hl 3 rfl) ?_
  refine bd_xC [.int a, .int b, .int c2] [.int 0, .ref (bd_ea E 30 0 0)] C Z hM hR hS (bd_recv C.2 hR ⟨by decide, (by decide), (by decide)⟩ rfl rfl) qm_L_21 qi_X5_seat qs_X5_seat qz_X5 qc_X5_seat qp_X5_seat ⟨Nat.le_refl _, Nat.le_refl _⟩ hl.1 (Nat.le_of_ble_eq_true rfl) dL_seat_7 ⟨by show 0 + mc ≤ mc; omega, by show 0 + ms ≤ ms; omega⟩ (fun H locs q9 ce hR hS hce hcv hcl => ?_)
  refine vx_catch (own := RL) (name := "java/lang/IndexOutOfBoundsException") (E := "java/lang/IndexOutOfBoundsException") C.1.2.2.2.1 [] ⟨0, 12, 15, 25⟩ [⟨0, 12, 19, 15⟩] ht (fun z hz => absurd hz List.not_mem_nil) rfl (by decide) (C.1.2.2.2.2 _ qk_L_25) (va_Nw.use (bd_BX_t _ (List.mem_of_getElem? (i := 5) rfl)) (Z.2.2.1 _ (List.mem_of_getElem? (i := 5) rfl))) hce hcv hcl ?_
  refine lv_astore (lv' := [(5, .ref q9), (0, .ref (bd_ea E 0 0 0)), (1, .int a), (2, .int b), (3, .int c2), (4, .ref (bd_ea E 30 0 0))]) hx hb dL_seat_15 hl (by decide) rfl (fun ls hl => ?_)
  refine lv_iconst (v := 1) hx hb dL_seat_17 (by decide) ?_
  exact bd_ri C hr hlk hR hS (by omega) (by omega) dL_seat_18 rfl

set_option maxHeartbeats 4000000 in
set_option maxRecDepth 100000 in
theorem k_L_seat_x2 (l : Launch) (E : bd_E) (xm ym : bd_M) (om : Nat → Int64) (a : Int32) (b : Int32) (c2 : Int32) {fr lo mc ms : Nat} (hM : bd_Xt l yX5_seat cX5_seat 6 (some .int) fr lo mc ms E [.ref (bd_ea E 0 0 0), .int a, .int b, .int c2] xm ym om "java/lang/IllegalStateException") : bd_CL l yL_seat cL_seat 6 [(0, 12, 15, 25), (0, 12, 19, 15)] (fr + 1) (25 + lo) mc ms E [.ref (bd_ea E 0 0 0), .int a, .int b, .int c2, .ref (bd_ea E 30 0 0)] xm ym om xm ym om 2 := by
  refine bd_openL RL rfl rfl (Nat.le_of_ble_eq_true rfl) ?_
  intro p e s m args below meth c ls C Z N ht hr hlk hS hR hl
  have hx := C.1.1
  have hb := C.1.2.1
  have hl : lv_has ls 6 [(0, .ref (bd_ea E 0 0 0)), (1, .int a), (2, .int b), (3, .int c2), (4, .ref (bd_ea E 30 0 0))] := hl
  refine lv_aload hx hb dL_seat_0 (lv_at hl 4 rfl) ?_
  refine lv_iconst (v := 0) hx hb dL_seat_2 (by decide) ?_
  refine lv_aload_n hx hb dL_seat_3 rfl (lv_at hl 0 rfl) ?_
  refine lv_iload_n hx hb dL_seat_4 rfl (lv_at hl 1 rfl) ?_
  refine lv_iload_n hx hb dL_seat_5 rfl (lv_at hl 2 rfl) ?_
  refine lv_iload_n hx hb dL_seat_6 rfl (lv_at hl 3 rfl) ?_
  refine bd_xC [.int a, .int b, .int c2] [.int 0, .ref (bd_ea E 30 0 0)] C Z hM hR hS (bd_recv C.2 hR ⟨by decide, (by decide), (by decide)⟩ rfl rfl) qm_L_21 qi_X5_seat qs_X5_seat qz_X5 qc_X5_seat qp_X5_seat ⟨Nat.le_refl _, Nat.le_refl _⟩ hl.1 (Nat.le_of_ble_eq_true rfl) dL_seat_7 ⟨by show 0 + mc ≤ mc; omega, by show 0 + ms ≤ ms; omega⟩ (fun H locs q9 ce hR hS hce hcv hcl => ?_)
  refine vx_catch (own := RL) (name := "java/lang/IllegalStateException") (E := "java/lang/IllegalStateException") C.1.2.2.2.1 [⟨0, 12, 15, 25⟩] ⟨0, 12, 19, 15⟩ [] ht (fun z hz => by obtain rfl := List.mem_singleton.mp hz; exact Or.inr ⟨by decide, _, C.1.2.2.2.2 _ qk_L_25, N.2.1⟩) rfl (by decide) (C.1.2.2.2.2 _ qk_L_15) (va_Nw.use (bd_BX_t _ (List.mem_of_getElem? (i := 4) rfl)) (Z.2.2.1 _ (List.mem_of_getElem? (i := 4) rfl))) hce hcv hcl ?_
  refine lv_astore (lv' := [(5, .ref q9), (0, .ref (bd_ea E 0 0 0)), (1, .int a), (2, .int b), (3, .int c2), (4, .ref (bd_ea E 30 0 0))]) hx hb dL_seat_19 hl (by decide) rfl (fun ls hl => ?_)
  refine lv_iconst (v := 2) hx hb dL_seat_21 (by decide) ?_
  exact bd_ri C hr hlk hR hS (by omega) (by omega) dL_seat_22 rfl

set_option maxHeartbeats 4000000 in
set_option maxRecDepth 100000 in
theorem k_L_change_ok (l : Launch) (E : bd_E) (xm ym xm' : bd_M) (om : Nat → Int64) (a : Int32) (b : Int32) (c2 : Int32) {fr lo mc ms : Nat} {v : Int32} (hM : bd_Ct l yX5_change cX5_change 5 (some .int) fr lo mc ms E [.ref (bd_ea E 0 0 0), .int a, .int b, .int c2] xm ym om xm' ym om (some (.int v))) : bd_CL l yL_change cL_change 6 [(0, 12, 15, 25)] (fr + 1) (24 + lo) mc ms E [.ref (bd_ea E 0 0 0), .int a, .int b, .int c2, .ref (bd_ea E 30 0 0)] xm ym om xm' ym (vp_updL om 0 v.toInt64) 0 := by
  refine bd_openL RL rfl rfl (Nat.le_of_ble_eq_true rfl) ?_
  intro p e s m args below meth c ls C Z N ht hr hlk hS hR hl
  have hx := C.1.1
  have hb := C.1.2.1
  have hl : lv_has ls 6 [(0, .ref (bd_ea E 0 0 0)), (1, .int a), (2, .int b), (3, .int c2), (4, .ref (bd_ea E 30 0 0))] := hl
  refine lv_aload hx hb dL_change_0 (lv_at hl 4 rfl) ?_
  refine lv_iconst (v := 0) hx hb dL_change_2 (by decide) ?_
  refine lv_aload_n hx hb dL_change_3 rfl (lv_at hl 0 rfl) ?_
  refine lv_iload_n hx hb dL_change_4 rfl (lv_at hl 1 rfl) ?_
  refine lv_iload_n hx hb dL_change_5 rfl (lv_at hl 2 rfl) ?_
  refine lv_iload_n hx hb dL_change_6 rfl (lv_at hl 3 rfl) ?_
  refine bd_cV1 [.int a, .int b, .int c2] [.int 0, .ref (bd_ea E 30 0 0)] C hM hR hS (bd_recv C.2 hR ⟨by decide, (by decide), (by decide)⟩ rfl rfl) qm_L_27 qi_X5_change qs_X5_change qz_X5 qc_X5_change qp_X5_change ⟨Nat.le_refl _, Nat.le_refl _⟩ hl.1 (Nat.le_of_ble_eq_true rfl) dL_change_7 ⟨by show 0 + mc ≤ mc; omega, by show 0 + ms ≤ ms; omega⟩ (fun H locs hR hS hz => ?_)
  refine lv_i2l (v := v.toInt64) hx hb dL_change_10 rfl ?_
  refine bd_stO C hR hS dL_change_11 (fun H locs hR hS => ?_)
  refine lv_goto (tgt := 19) hx hb dL_change_12 (by decide) ?_
  refine lv_iconst (v := 0) hx hb dL_change_19 (by decide) ?_
  exact bd_ri C hr hlk hR hS (by omega) (by omega) dL_change_20 rfl

set_option maxHeartbeats 4000000 in
set_option maxRecDepth 100000 in
theorem k_L_change_x1 (l : Launch) (E : bd_E) (xm ym : bd_M) (om : Nat → Int64) (a : Int32) (b : Int32) (c2 : Int32) {fr lo mc ms : Nat} (hM : bd_Xt l yX5_change cX5_change 5 (some .int) fr lo mc ms E [.ref (bd_ea E 0 0 0), .int a, .int b, .int c2] xm ym om "java/lang/IndexOutOfBoundsException") : bd_CL l yL_change cL_change 6 [(0, 12, 15, 25)] (fr + 1) (24 + lo) mc ms E [.ref (bd_ea E 0 0 0), .int a, .int b, .int c2, .ref (bd_ea E 30 0 0)] xm ym om xm ym om 1 := by
  refine bd_openL RL rfl rfl (Nat.le_of_ble_eq_true rfl) ?_
  intro p e s m args below meth c ls C Z N ht hr hlk hS hR hl
  have hx := C.1.1
  have hb := C.1.2.1
  have hl : lv_has ls 6 [(0, .ref (bd_ea E 0 0 0)), (1, .int a), (2, .int b), (3, .int c2), (4, .ref (bd_ea E 30 0 0))] := hl
  refine lv_aload hx hb dL_change_0 (lv_at hl 4 rfl) ?_
  refine lv_iconst (v := 0) hx hb dL_change_2 (by decide) ?_
  refine lv_aload_n hx hb dL_change_3 rfl (lv_at hl 0 rfl) ?_
  refine lv_iload_n hx hb dL_change_4 rfl (lv_at hl 1 rfl) ?_
  refine lv_iload_n hx hb dL_change_5 rfl (lv_at hl 2 rfl) ?_
  refine lv_iload_n hx hb dL_change_6 rfl (lv_at hl 3 rfl) ?_
  refine bd_xC [.int a, .int b, .int c2] [.int 0, .ref (bd_ea E 30 0 0)] C Z hM hR hS (bd_recv C.2 hR ⟨by decide, (by decide), (by decide)⟩ rfl rfl) qm_L_27 qi_X5_change qs_X5_change qz_X5 qc_X5_change qp_X5_change ⟨Nat.le_refl _, Nat.le_refl _⟩ hl.1 (Nat.le_of_ble_eq_true rfl) dL_change_7 ⟨by show 0 + mc ≤ mc; omega, by show 0 + ms ≤ ms; omega⟩ (fun H locs q9 ce hR hS hce hcv hcl => ?_)
  refine vx_catch (own := RL) (name := "java/lang/IndexOutOfBoundsException") (E := "java/lang/IndexOutOfBoundsException") C.1.2.2.2.1 [] ⟨0, 12, 15, 25⟩ [] ht (fun z hz => absurd hz List.not_mem_nil) rfl (by decide) (C.1.2.2.2.2 _ qk_L_25) (va_Nw.use (bd_BX_t _ (List.mem_of_getElem? (i := 5) rfl)) (Z.2.2.1 _ (List.mem_of_getElem? (i := 5) rfl))) hce hcv hcl ?_
  refine lv_astore (lv' := [(5, .ref q9), (0, .ref (bd_ea E 0 0 0)), (1, .int a), (2, .int b), (3, .int c2), (4, .ref (bd_ea E 30 0 0))]) hx hb dL_change_15 hl (by decide) rfl (fun ls hl => ?_)
  refine lv_iconst (v := 1) hx hb dL_change_17 (by decide) ?_
  exact bd_ri C hr hlk hR hS (by omega) (by omega) dL_change_18 rfl

set_option maxHeartbeats 4000000 in
set_option maxRecDepth 100000 in
theorem k_L_absent_ok (l : Launch) (E : bd_E) (xm ym xm' : bd_M) (om : Nat → Int64) (a : Int32) (b : Int32) {fr lo mc ms : Nat} {v : Int32} (hM : bd_Ct l yX5_absent cX5_absent 5 (some .int) fr lo mc ms E [.ref (bd_ea E 0 0 0), .int a, .int b] xm ym om xm' ym om (some (.int v))) : bd_CL l yL_absent cL_absent 5 [(0, 10, 13, 25), (0, 10, 17, 13)] (fr + 1) (24 + lo) mc ms E [.ref (bd_ea E 0 0 0), .int a, .int b, .ref (bd_ea E 30 0 0)] xm ym om xm' ym (vp_updL om 0 v.toInt64) 0 := by
  refine bd_openL RL rfl rfl (Nat.le_of_ble_eq_true rfl) ?_
  intro p e s m args below meth c ls C Z N ht hr hlk hS hR hl
  have hx := C.1.1
  have hb := C.1.2.1
  have hl : lv_has ls 5 [(0, .ref (bd_ea E 0 0 0)), (1, .int a), (2, .int b), (3, .ref (bd_ea E 30 0 0))] := hl
  refine lv_aload_n hx hb dL_absent_0 rfl (lv_at hl 3 rfl) ?_
  refine lv_iconst (v := 0) hx hb dL_absent_1 (by decide) ?_
  refine lv_aload_n hx hb dL_absent_2 rfl (lv_at hl 0 rfl) ?_
  refine lv_iload_n hx hb dL_absent_3 rfl (lv_at hl 1 rfl) ?_
  refine lv_iload_n hx hb dL_absent_4 rfl (lv_at hl 2 rfl) ?_
  refine bd_cV1 [.int a, .int b] [.int 0, .ref (bd_ea E 30 0 0)] C hM hR hS (bd_recv C.2 hR ⟨by decide, (by decide), (by decide)⟩ rfl rfl) qm_L_30 qi_X5_absent qs_X5_absent qz_X5 qc_X5_absent qp_X5_absent ⟨Nat.le_refl _, Nat.le_refl _⟩ hl.1 (Nat.le_of_ble_eq_true rfl) dL_absent_5 ⟨by show 0 + mc ≤ mc; omega, by show 0 + ms ≤ ms; omega⟩ (fun H locs hR hS hz => ?_)
  refine lv_i2l (v := v.toInt64) hx hb dL_absent_8 rfl ?_
  refine bd_stO C hR hS dL_absent_9 (fun H locs hR hS => ?_)
  refine lv_goto (tgt := 21) hx hb dL_absent_10 (by decide) ?_
  refine lv_iconst (v := 0) hx hb dL_absent_21 (by decide) ?_
  exact bd_ri C hr hlk hR hS (by omega) (by omega) dL_absent_22 rfl

set_option maxHeartbeats 4000000 in
set_option maxRecDepth 100000 in
theorem k_L_absent_x1 (l : Launch) (E : bd_E) (xm ym : bd_M) (om : Nat → Int64) (a : Int32) (b : Int32) {fr lo mc ms : Nat} (hM : bd_Xt l yX5_absent cX5_absent 5 (some .int) fr lo mc ms E [.ref (bd_ea E 0 0 0), .int a, .int b] xm ym om "java/lang/IndexOutOfBoundsException") : bd_CL l yL_absent cL_absent 5 [(0, 10, 13, 25), (0, 10, 17, 13)] (fr + 1) (24 + lo) mc ms E [.ref (bd_ea E 0 0 0), .int a, .int b, .ref (bd_ea E 30 0 0)] xm ym om xm ym om 1 := by
  refine bd_openL RL rfl rfl (Nat.le_of_ble_eq_true rfl) ?_
  intro p e s m args below meth c ls C Z N ht hr hlk hS hR hl
  have hx := C.1.1
  have hb := C.1.2.1
  have hl : lv_has ls 5 [(0, .ref (bd_ea E 0 0 0)), (1, .int a), (2, .int b), (3, .ref (bd_ea E 30 0 0))] := hl
  refine lv_aload_n hx hb dL_absent_0 rfl (lv_at hl 3 rfl) ?_
  refine lv_iconst (v := 0) hx hb dL_absent_1 (by decide) ?_
  refine lv_aload_n hx hb dL_absent_2 rfl (lv_at hl 0 rfl) ?_
  refine lv_iload_n hx hb dL_absent_3 rfl (lv_at hl 1 rfl) ?_
  refine lv_iload_n hx hb dL_absent_4 rfl (lv_at hl 2 rfl) ?_
  refine bd_xC [.int a, .int b] [.int 0, .ref (bd_ea E 30 0 0)] C Z hM hR hS (bd_recv C.2 hR ⟨by decide, (by decide), (by decide)⟩ rfl rfl) qm_L_30 qi_X5_absent qs_X5_absent qz_X5 qc_X5_absent qp_X5_absent ⟨Nat.le_refl _, Nat.le_refl _⟩ hl.1 (Nat.le_of_ble_eq_true rfl) dL_absent_5 ⟨by show 0 + mc ≤ mc; omega, by show 0 + ms ≤ ms; omega⟩ (fun H locs q9 ce hR hS hce hcv hcl => ?_)
  refine vx_catch (own := RL) (name := "java/lang/IndexOutOfBoundsException") (E := "java/lang/IndexOutOfBoundsException") C.1.2.2.2.1 [] ⟨0, 10, 13, 25⟩ [⟨0, 10, 17, 13⟩] ht (fun z hz => absurd hz List.not_mem_nil) rfl (by decide) (C.1.2.2.2.2 _ qk_L_25) (va_Nw.use (bd_BX_t _ (List.mem_of_getElem? (i := 5) rfl)) (Z.2.2.1 _ (List.mem_of_getElem? (i := 5) rfl))) hce hcv hcl ?_
  refine lv_astore (lv' := [(4, .ref q9), (0, .ref (bd_ea E 0 0 0)), (1, .int a), (2, .int b), (3, .ref (bd_ea E 30 0 0))]) hx hb dL_absent_13 hl (by decide) rfl (fun ls hl => ?_)
  refine lv_iconst (v := 1) hx hb dL_absent_15 (by decide) ?_
  exact bd_ri C hr hlk hR hS (by omega) (by omega) dL_absent_16 rfl

set_option maxHeartbeats 4000000 in
set_option maxRecDepth 100000 in
theorem k_L_absent_x2 (l : Launch) (E : bd_E) (xm ym : bd_M) (om : Nat → Int64) (a : Int32) (b : Int32) {fr lo mc ms : Nat} (hM : bd_Xt l yX5_absent cX5_absent 5 (some .int) fr lo mc ms E [.ref (bd_ea E 0 0 0), .int a, .int b] xm ym om "java/lang/IllegalArgumentException") : bd_CL l yL_absent cL_absent 5 [(0, 10, 13, 25), (0, 10, 17, 13)] (fr + 1) (24 + lo) mc ms E [.ref (bd_ea E 0 0 0), .int a, .int b, .ref (bd_ea E 30 0 0)] xm ym om xm ym om 2 := by
  refine bd_openL RL rfl rfl (Nat.le_of_ble_eq_true rfl) ?_
  intro p e s m args below meth c ls C Z N ht hr hlk hS hR hl
  have hx := C.1.1
  have hb := C.1.2.1
  have hl : lv_has ls 5 [(0, .ref (bd_ea E 0 0 0)), (1, .int a), (2, .int b), (3, .ref (bd_ea E 30 0 0))] := hl
  refine lv_aload_n hx hb dL_absent_0 rfl (lv_at hl 3 rfl) ?_
  refine lv_iconst (v := 0) hx hb dL_absent_1 (by decide) ?_
  refine lv_aload_n hx hb dL_absent_2 rfl (lv_at hl 0 rfl) ?_
  refine lv_iload_n hx hb dL_absent_3 rfl (lv_at hl 1 rfl) ?_
  refine lv_iload_n hx hb dL_absent_4 rfl (lv_at hl 2 rfl) ?_
  refine bd_xC [.int a, .int b] [.int 0, .ref (bd_ea E 30 0 0)] C Z hM hR hS (bd_recv C.2 hR ⟨by decide, (by decide), (by decide)⟩ rfl rfl) qm_L_30 qi_X5_absent qs_X5_absent qz_X5 qc_X5_absent qp_X5_absent ⟨Nat.le_refl _, Nat.le_refl _⟩ hl.1 (Nat.le_of_ble_eq_true rfl) dL_absent_5 ⟨by show 0 + mc ≤ mc; omega, by show 0 + ms ≤ ms; omega⟩ (fun H locs q9 ce hR hS hce hcv hcl => ?_)
  refine vx_catch (own := RL) (name := "java/lang/IllegalArgumentException") (E := "java/lang/IllegalArgumentException") C.1.2.2.2.1 [⟨0, 10, 13, 25⟩] ⟨0, 10, 17, 13⟩ [] ht (fun z hz => by obtain rfl := List.mem_singleton.mp hz; exact Or.inr ⟨by decide, _, C.1.2.2.2.2 _ qk_L_25, N.2.2⟩) rfl (by decide) (C.1.2.2.2.2 _ qk_L_13) (va_Nw.use (bd_BX_t _ (List.mem_of_getElem? (i := 3) rfl)) (Z.2.2.1 _ (List.mem_of_getElem? (i := 3) rfl))) hce hcv hcl ?_
  refine lv_astore (lv' := [(4, .ref q9), (0, .ref (bd_ea E 0 0 0)), (1, .int a), (2, .int b), (3, .ref (bd_ea E 30 0 0))]) hx hb dL_absent_17 hl (by decide) rfl (fun ls hl => ?_)
  refine lv_iconst (v := 2) hx hb dL_absent_19 (by decide) ?_
  exact bd_ri C hr hlk hR hS (by omega) (by omega) dL_absent_20 rfl

set_option maxHeartbeats 4000000 in
set_option maxRecDepth 100000 in
theorem k_L_rehearse_ok (l : Launch) (E : bd_E) (xm ym xm' : bd_M) (om : Nat → Int64) (a : Int32) {fr lo mc ms : Nat} {v : Int32} (hM : bd_Ct l yX5_rehearse cX5_rehearse 3 (some .int) fr lo mc ms E [.ref (bd_ea E 0 0 0), .int a] xm ym om xm' ym om (some (.int v))) : bd_CL l yL_rehearse cL_rehearse 4 [(0, 9, 12, 25)] (fr + 1) (22 + lo) mc ms E [.ref (bd_ea E 0 0 0), .int a, .ref (bd_ea E 30 0 0)] xm ym om xm' ym (vp_updL om 0 v.toInt64) 0 := by
  refine bd_openL RL rfl rfl (Nat.le_of_ble_eq_true rfl) ?_
  intro p e s m args below meth c ls C Z N ht hr hlk hS hR hl
  have hx := C.1.1
  have hb := C.1.2.1
  have hl : lv_has ls 4 [(0, .ref (bd_ea E 0 0 0)), (1, .int a), (2, .ref (bd_ea E 30 0 0))] := hl
  refine lv_aload_n hx hb dL_rehearse_0 rfl (lv_at hl 2 rfl) ?_
  refine lv_iconst (v := 0) hx hb dL_rehearse_1 (by decide) ?_
  refine lv_aload_n hx hb dL_rehearse_2 rfl (lv_at hl 0 rfl) ?_
  refine lv_iload_n hx hb dL_rehearse_3 rfl (lv_at hl 1 rfl) ?_
  refine bd_cV1 [.int a] [.int 0, .ref (bd_ea E 30 0 0)] C hM hR hS (bd_recv C.2 hR ⟨by decide, (by decide), (by decide)⟩ rfl rfl) qm_L_34 qi_X5_rehearse qs_X5_rehearse qz_X5 qc_X5_rehearse qp_X5_rehearse ⟨Nat.le_refl _, Nat.le_refl _⟩ hl.1 (Nat.le_of_ble_eq_true rfl) dL_rehearse_4 ⟨by show 0 + mc ≤ mc; omega, by show 0 + ms ≤ ms; omega⟩ (fun H locs hR hS hz => ?_)
  refine lv_i2l (v := v.toInt64) hx hb dL_rehearse_7 rfl ?_
  refine bd_stO C hR hS dL_rehearse_8 (fun H locs hR hS => ?_)
  refine lv_goto (tgt := 15) hx hb dL_rehearse_9 (by decide) ?_
  refine lv_iconst (v := 0) hx hb dL_rehearse_15 (by decide) ?_
  exact bd_ri C hr hlk hR hS (by omega) (by omega) dL_rehearse_16 rfl

set_option maxHeartbeats 4000000 in
set_option maxRecDepth 100000 in
theorem k_L_rehearse_x1 (l : Launch) (E : bd_E) (xm ym : bd_M) (om : Nat → Int64) (a : Int32) {fr lo mc ms : Nat} (hM : bd_Xt l yX5_rehearse cX5_rehearse 3 (some .int) fr lo mc ms E [.ref (bd_ea E 0 0 0), .int a] xm ym om "java/lang/IndexOutOfBoundsException") : bd_CL l yL_rehearse cL_rehearse 4 [(0, 9, 12, 25)] (fr + 1) (22 + lo) mc ms E [.ref (bd_ea E 0 0 0), .int a, .ref (bd_ea E 30 0 0)] xm ym om xm ym om 1 := by
  refine bd_openL RL rfl rfl (Nat.le_of_ble_eq_true rfl) ?_
  intro p e s m args below meth c ls C Z N ht hr hlk hS hR hl
  have hx := C.1.1
  have hb := C.1.2.1
  have hl : lv_has ls 4 [(0, .ref (bd_ea E 0 0 0)), (1, .int a), (2, .ref (bd_ea E 30 0 0))] := hl
  refine lv_aload_n hx hb dL_rehearse_0 rfl (lv_at hl 2 rfl) ?_
  refine lv_iconst (v := 0) hx hb dL_rehearse_1 (by decide) ?_
  refine lv_aload_n hx hb dL_rehearse_2 rfl (lv_at hl 0 rfl) ?_
  refine lv_iload_n hx hb dL_rehearse_3 rfl (lv_at hl 1 rfl) ?_
  refine bd_xC [.int a] [.int 0, .ref (bd_ea E 30 0 0)] C Z hM hR hS (bd_recv C.2 hR ⟨by decide, (by decide), (by decide)⟩ rfl rfl) qm_L_34 qi_X5_rehearse qs_X5_rehearse qz_X5 qc_X5_rehearse qp_X5_rehearse ⟨Nat.le_refl _, Nat.le_refl _⟩ hl.1 (Nat.le_of_ble_eq_true rfl) dL_rehearse_4 ⟨by show 0 + mc ≤ mc; omega, by show 0 + ms ≤ ms; omega⟩ (fun H locs q9 ce hR hS hce hcv hcl => ?_)
  refine vx_catch (own := RL) (name := "java/lang/IndexOutOfBoundsException") (E := "java/lang/IndexOutOfBoundsException") C.1.2.2.2.1 [] ⟨0, 9, 12, 25⟩ [] ht (fun z hz => absurd hz List.not_mem_nil) rfl (by decide) (C.1.2.2.2.2 _ qk_L_25) (va_Nw.use (bd_BX_t _ (List.mem_of_getElem? (i := 5) rfl)) (Z.2.2.1 _ (List.mem_of_getElem? (i := 5) rfl))) hce hcv hcl ?_
  refine lv_astore_n (lv' := [(3, .ref q9), (0, .ref (bd_ea E 0 0 0)), (1, .int a), (2, .ref (bd_ea E 30 0 0))]) hx hb dL_rehearse_12 rfl hl (by decide) rfl (fun ls hl => ?_)
  refine lv_iconst (v := 1) hx hb dL_rehearse_13 (by decide) ?_
  exact bd_ri C hr hlk hR hS (by omega) (by omega) dL_rehearse_14 rfl

set_option maxHeartbeats 4000000 in
set_option maxRecDepth 100000 in
theorem k_L_setPiece_ok (l : Launch) (E : bd_E) (xm ym xm' : bd_M) (om : Nat → Int64) (a : Int32) (b : Int32) {fr lo mc ms : Nat} {v : Int32} (hM : bd_Ct l yX5_setPiece cX5_setPiece 4 (some .int) fr lo mc ms E [.ref (bd_ea E 0 0 0), .int a, .int b] xm ym om xm' ym om (some (.int v))) : bd_CL l yL_setPiece cL_setPiece 5 [(0, 10, 13, 25), (0, 10, 17, 13)] (fr + 1) (23 + lo) mc ms E [.ref (bd_ea E 0 0 0), .int a, .int b, .ref (bd_ea E 30 0 0)] xm ym om xm' ym (vp_updL om 0 v.toInt64) 0 := by
  refine bd_openL RL rfl rfl (Nat.le_of_ble_eq_true rfl) ?_
  intro p e s m args below meth c ls C Z N ht hr hlk hS hR hl
  have hx := C.1.1
  have hb := C.1.2.1
  have hl : lv_has ls 5 [(0, .ref (bd_ea E 0 0 0)), (1, .int a), (2, .int b), (3, .ref (bd_ea E 30 0 0))] := hl
  refine lv_aload_n hx hb dL_setPiece_0 rfl (lv_at hl 3 rfl) ?_
  refine lv_iconst (v := 0) hx hb dL_setPiece_1 (by decide) ?_
  refine lv_aload_n hx hb dL_setPiece_2 rfl (lv_at hl 0 rfl) ?_
  refine lv_iload_n hx hb dL_setPiece_3 rfl (lv_at hl 1 rfl) ?_
  refine lv_iload_n hx hb dL_setPiece_4 rfl (lv_at hl 2 rfl) ?_
  refine bd_cV1 [.int a, .int b] [.int 0, .ref (bd_ea E 30 0 0)] C hM hR hS (bd_recv C.2 hR ⟨by decide, (by decide), (by decide)⟩ rfl rfl) qm_L_37 qi_X5_setPiece qs_X5_setPiece qz_X5 qc_X5_setPiece qp_X5_setPiece ⟨Nat.le_refl _, Nat.le_refl _⟩ hl.1 (Nat.le_of_ble_eq_true rfl) dL_setPiece_5 ⟨by show 0 + mc ≤ mc; omega, by show 0 + ms ≤ ms; omega⟩ (fun H locs hR hS hz => ?_)
  refine lv_i2l (v := v.toInt64) hx hb dL_setPiece_8 rfl ?_
  refine bd_stO C hR hS dL_setPiece_9 (fun H locs hR hS => ?_)
  refine lv_goto (tgt := 21) hx hb dL_setPiece_10 (by decide) ?_
  refine lv_iconst (v := 0) hx hb dL_setPiece_21 (by decide) ?_
  exact bd_ri C hr hlk hR hS (by omega) (by omega) dL_setPiece_22 rfl

set_option maxHeartbeats 4000000 in
set_option maxRecDepth 100000 in
theorem k_L_setPiece_x1 (l : Launch) (E : bd_E) (xm ym : bd_M) (om : Nat → Int64) (a : Int32) (b : Int32) {fr lo mc ms : Nat} (hM : bd_Xt l yX5_setPiece cX5_setPiece 4 (some .int) fr lo mc ms E [.ref (bd_ea E 0 0 0), .int a, .int b] xm ym om "java/lang/IndexOutOfBoundsException") : bd_CL l yL_setPiece cL_setPiece 5 [(0, 10, 13, 25), (0, 10, 17, 13)] (fr + 1) (23 + lo) mc ms E [.ref (bd_ea E 0 0 0), .int a, .int b, .ref (bd_ea E 30 0 0)] xm ym om xm ym om 1 := by
  refine bd_openL RL rfl rfl (Nat.le_of_ble_eq_true rfl) ?_
  intro p e s m args below meth c ls C Z N ht hr hlk hS hR hl
  have hx := C.1.1
  have hb := C.1.2.1
  have hl : lv_has ls 5 [(0, .ref (bd_ea E 0 0 0)), (1, .int a), (2, .int b), (3, .ref (bd_ea E 30 0 0))] := hl
  refine lv_aload_n hx hb dL_setPiece_0 rfl (lv_at hl 3 rfl) ?_
  refine lv_iconst (v := 0) hx hb dL_setPiece_1 (by decide) ?_
  refine lv_aload_n hx hb dL_setPiece_2 rfl (lv_at hl 0 rfl) ?_
  refine lv_iload_n hx hb dL_setPiece_3 rfl (lv_at hl 1 rfl) ?_
  refine lv_iload_n hx hb dL_setPiece_4 rfl (lv_at hl 2 rfl) ?_
  refine bd_xC [.int a, .int b] [.int 0, .ref (bd_ea E 30 0 0)] C Z hM hR hS (bd_recv C.2 hR ⟨by decide, (by decide), (by decide)⟩ rfl rfl) qm_L_37 qi_X5_setPiece qs_X5_setPiece qz_X5 qc_X5_setPiece qp_X5_setPiece ⟨Nat.le_refl _, Nat.le_refl _⟩ hl.1 (Nat.le_of_ble_eq_true rfl) dL_setPiece_5 ⟨by show 0 + mc ≤ mc; omega, by show 0 + ms ≤ ms; omega⟩ (fun H locs q9 ce hR hS hce hcv hcl => ?_)
  refine vx_catch (own := RL) (name := "java/lang/IndexOutOfBoundsException") (E := "java/lang/IndexOutOfBoundsException") C.1.2.2.2.1 [] ⟨0, 10, 13, 25⟩ [⟨0, 10, 17, 13⟩] ht (fun z hz => absurd hz List.not_mem_nil) rfl (by decide) (C.1.2.2.2.2 _ qk_L_25) (va_Nw.use (bd_BX_t _ (List.mem_of_getElem? (i := 5) rfl)) (Z.2.2.1 _ (List.mem_of_getElem? (i := 5) rfl))) hce hcv hcl ?_
  refine lv_astore (lv' := [(4, .ref q9), (0, .ref (bd_ea E 0 0 0)), (1, .int a), (2, .int b), (3, .ref (bd_ea E 30 0 0))]) hx hb dL_setPiece_13 hl (by decide) rfl (fun ls hl => ?_)
  refine lv_iconst (v := 1) hx hb dL_setPiece_15 (by decide) ?_
  exact bd_ri C hr hlk hR hS (by omega) (by omega) dL_setPiece_16 rfl

set_option maxHeartbeats 4000000 in
set_option maxRecDepth 100000 in
theorem k_L_setPiece_x2 (l : Launch) (E : bd_E) (xm ym : bd_M) (om : Nat → Int64) (a : Int32) (b : Int32) {fr lo mc ms : Nat} (hM : bd_Xt l yX5_setPiece cX5_setPiece 4 (some .int) fr lo mc ms E [.ref (bd_ea E 0 0 0), .int a, .int b] xm ym om "java/lang/IllegalArgumentException") : bd_CL l yL_setPiece cL_setPiece 5 [(0, 10, 13, 25), (0, 10, 17, 13)] (fr + 1) (23 + lo) mc ms E [.ref (bd_ea E 0 0 0), .int a, .int b, .ref (bd_ea E 30 0 0)] xm ym om xm ym om 2 := by
  refine bd_openL RL rfl rfl (Nat.le_of_ble_eq_true rfl) ?_
  intro p e s m args below meth c ls C Z N ht hr hlk hS hR hl
  have hx := C.1.1
  have hb := C.1.2.1
  have hl : lv_has ls 5 [(0, .ref (bd_ea E 0 0 0)), (1, .int a), (2, .int b), (3, .ref (bd_ea E 30 0 0))] := hl
  refine lv_aload_n hx hb dL_setPiece_0 rfl (lv_at hl 3 rfl) ?_
  refine lv_iconst (v := 0) hx hb dL_setPiece_1 (by decide) ?_
  refine lv_aload_n hx hb dL_setPiece_2 rfl (lv_at hl 0 rfl) ?_
  refine lv_iload_n hx hb dL_setPiece_3 rfl (lv_at hl 1 rfl) ?_
  refine lv_iload_n hx hb dL_setPiece_4 rfl (lv_at hl 2 rfl) ?_
  refine bd_xC [.int a, .int b] [.int 0, .ref (bd_ea E 30 0 0)] C Z hM hR hS (bd_recv C.2 hR ⟨by decide, (by decide), (by decide)⟩ rfl rfl) qm_L_37 qi_X5_setPiece qs_X5_setPiece qz_X5 qc_X5_setPiece qp_X5_setPiece ⟨Nat.le_refl _, Nat.le_refl _⟩ hl.1 (Nat.le_of_ble_eq_true rfl) dL_setPiece_5 ⟨by show 0 + mc ≤ mc; omega, by show 0 + ms ≤ ms; omega⟩ (fun H locs q9 ce hR hS hce hcv hcl => ?_)
  refine vx_catch (own := RL) (name := "java/lang/IllegalArgumentException") (E := "java/lang/IllegalArgumentException") C.1.2.2.2.1 [⟨0, 10, 13, 25⟩] ⟨0, 10, 17, 13⟩ [] ht (fun z hz => by obtain rfl := List.mem_singleton.mp hz; exact Or.inr ⟨by decide, _, C.1.2.2.2.2 _ qk_L_25, N.2.2⟩) rfl (by decide) (C.1.2.2.2.2 _ qk_L_13) (va_Nw.use (bd_BX_t _ (List.mem_of_getElem? (i := 3) rfl)) (Z.2.2.1 _ (List.mem_of_getElem? (i := 3) rfl))) hce hcv hcl ?_
  refine lv_astore (lv' := [(4, .ref q9), (0, .ref (bd_ea E 0 0 0)), (1, .int a), (2, .int b), (3, .ref (bd_ea E 30 0 0))]) hx hb dL_setPiece_17 hl (by decide) rfl (fun ls hl => ?_)
  refine lv_iconst (v := 2) hx hb dL_setPiece_19 (by decide) ?_
  exact bd_ri C hr hlk hR hS (by omega) (by omega) dL_setPiece_20 rfl

set_option maxHeartbeats 4000000 in
set_option maxRecDepth 100000 in
theorem k_L_setTaste_ok (l : Launch) (E : bd_E) (xm ym xm' : bd_M) (om : Nat → Int64) (a : Int32) (b : Int32) {fr lo mc ms : Nat} {v : Int32} (hM : bd_Ct l yX5_setTaste cX5_setTaste 4 (some .int) fr lo mc ms E [.ref (bd_ea E 0 0 0), .int a, .int b] xm ym om xm' ym om (some (.int v))) : bd_CL l yL_setTaste cL_setTaste 5 [(0, 10, 13, 25), (0, 10, 17, 13)] (fr + 1) (23 + lo) mc ms E [.ref (bd_ea E 0 0 0), .int a, .int b, .ref (bd_ea E 30 0 0)] xm ym om xm' ym (vp_updL om 0 v.toInt64) 0 := by
  refine bd_openL RL rfl rfl (Nat.le_of_ble_eq_true rfl) ?_
  intro p e s m args below meth c ls C Z N ht hr hlk hS hR hl
  have hx := C.1.1
  have hb := C.1.2.1
  have hl : lv_has ls 5 [(0, .ref (bd_ea E 0 0 0)), (1, .int a), (2, .int b), (3, .ref (bd_ea E 30 0 0))] := hl
  refine lv_aload_n hx hb dL_setTaste_0 rfl (lv_at hl 3 rfl) ?_
  refine lv_iconst (v := 0) hx hb dL_setTaste_1 (by decide) ?_
  refine lv_aload_n hx hb dL_setTaste_2 rfl (lv_at hl 0 rfl) ?_
  refine lv_iload_n hx hb dL_setTaste_3 rfl (lv_at hl 1 rfl) ?_
  refine lv_iload_n hx hb dL_setTaste_4 rfl (lv_at hl 2 rfl) ?_
  refine bd_cV1 [.int a, .int b] [.int 0, .ref (bd_ea E 30 0 0)] C hM hR hS (bd_recv C.2 hR ⟨by decide, (by decide), (by decide)⟩ rfl rfl) qm_L_40 qi_X5_setTaste qs_X5_setTaste qz_X5 qc_X5_setTaste qp_X5_setTaste ⟨Nat.le_refl _, Nat.le_refl _⟩ hl.1 (Nat.le_of_ble_eq_true rfl) dL_setTaste_5 ⟨by show 0 + mc ≤ mc; omega, by show 0 + ms ≤ ms; omega⟩ (fun H locs hR hS hz => ?_)
  refine lv_i2l (v := v.toInt64) hx hb dL_setTaste_8 rfl ?_
  refine bd_stO C hR hS dL_setTaste_9 (fun H locs hR hS => ?_)
  refine lv_goto (tgt := 21) hx hb dL_setTaste_10 (by decide) ?_
  refine lv_iconst (v := 0) hx hb dL_setTaste_21 (by decide) ?_
  exact bd_ri C hr hlk hR hS (by omega) (by omega) dL_setTaste_22 rfl

set_option maxHeartbeats 4000000 in
set_option maxRecDepth 100000 in
theorem k_L_setTaste_x1 (l : Launch) (E : bd_E) (xm ym : bd_M) (om : Nat → Int64) (a : Int32) (b : Int32) {fr lo mc ms : Nat} (hM : bd_Xt l yX5_setTaste cX5_setTaste 4 (some .int) fr lo mc ms E [.ref (bd_ea E 0 0 0), .int a, .int b] xm ym om "java/lang/IndexOutOfBoundsException") : bd_CL l yL_setTaste cL_setTaste 5 [(0, 10, 13, 25), (0, 10, 17, 13)] (fr + 1) (23 + lo) mc ms E [.ref (bd_ea E 0 0 0), .int a, .int b, .ref (bd_ea E 30 0 0)] xm ym om xm ym om 1 := by
  refine bd_openL RL rfl rfl (Nat.le_of_ble_eq_true rfl) ?_
  intro p e s m args below meth c ls C Z N ht hr hlk hS hR hl
  have hx := C.1.1
  have hb := C.1.2.1
  have hl : lv_has ls 5 [(0, .ref (bd_ea E 0 0 0)), (1, .int a), (2, .int b), (3, .ref (bd_ea E 30 0 0))] := hl
  refine lv_aload_n hx hb dL_setTaste_0 rfl (lv_at hl 3 rfl) ?_
  refine lv_iconst (v := 0) hx hb dL_setTaste_1 (by decide) ?_
  refine lv_aload_n hx hb dL_setTaste_2 rfl (lv_at hl 0 rfl) ?_
  refine lv_iload_n hx hb dL_setTaste_3 rfl (lv_at hl 1 rfl) ?_
  refine lv_iload_n hx hb dL_setTaste_4 rfl (lv_at hl 2 rfl) ?_
  refine bd_xC [.int a, .int b] [.int 0, .ref (bd_ea E 30 0 0)] C Z hM hR hS (bd_recv C.2 hR ⟨by decide, (by decide), (by decide)⟩ rfl rfl) qm_L_40 qi_X5_setTaste qs_X5_setTaste qz_X5 qc_X5_setTaste qp_X5_setTaste ⟨Nat.le_refl _, Nat.le_refl _⟩ hl.1 (Nat.le_of_ble_eq_true rfl) dL_setTaste_5 ⟨by show 0 + mc ≤ mc; omega, by show 0 + ms ≤ ms; omega⟩ (fun H locs q9 ce hR hS hce hcv hcl => ?_)
  refine vx_catch (own := RL) (name := "java/lang/IndexOutOfBoundsException") (E := "java/lang/IndexOutOfBoundsException") C.1.2.2.2.1 [] ⟨0, 10, 13, 25⟩ [⟨0, 10, 17, 13⟩] ht (fun z hz => absurd hz List.not_mem_nil) rfl (by decide) (C.1.2.2.2.2 _ qk_L_25) (va_Nw.use (bd_BX_t _ (List.mem_of_getElem? (i := 5) rfl)) (Z.2.2.1 _ (List.mem_of_getElem? (i := 5) rfl))) hce hcv hcl ?_
  refine lv_astore (lv' := [(4, .ref q9), (0, .ref (bd_ea E 0 0 0)), (1, .int a), (2, .int b), (3, .ref (bd_ea E 30 0 0))]) hx hb dL_setTaste_13 hl (by decide) rfl (fun ls hl => ?_)
  refine lv_iconst (v := 1) hx hb dL_setTaste_15 (by decide) ?_
  exact bd_ri C hr hlk hR hS (by omega) (by omega) dL_setTaste_16 rfl

set_option maxHeartbeats 4000000 in
set_option maxRecDepth 100000 in
theorem k_L_setTaste_x2 (l : Launch) (E : bd_E) (xm ym : bd_M) (om : Nat → Int64) (a : Int32) (b : Int32) {fr lo mc ms : Nat} (hM : bd_Xt l yX5_setTaste cX5_setTaste 4 (some .int) fr lo mc ms E [.ref (bd_ea E 0 0 0), .int a, .int b] xm ym om "java/lang/IllegalArgumentException") : bd_CL l yL_setTaste cL_setTaste 5 [(0, 10, 13, 25), (0, 10, 17, 13)] (fr + 1) (23 + lo) mc ms E [.ref (bd_ea E 0 0 0), .int a, .int b, .ref (bd_ea E 30 0 0)] xm ym om xm ym om 2 := by
  refine bd_openL RL rfl rfl (Nat.le_of_ble_eq_true rfl) ?_
  intro p e s m args below meth c ls C Z N ht hr hlk hS hR hl
  have hx := C.1.1
  have hb := C.1.2.1
  have hl : lv_has ls 5 [(0, .ref (bd_ea E 0 0 0)), (1, .int a), (2, .int b), (3, .ref (bd_ea E 30 0 0))] := hl
  refine lv_aload_n hx hb dL_setTaste_0 rfl (lv_at hl 3 rfl) ?_
  refine lv_iconst (v := 0) hx hb dL_setTaste_1 (by decide) ?_
  refine lv_aload_n hx hb dL_setTaste_2 rfl (lv_at hl 0 rfl) ?_
  refine lv_iload_n hx hb dL_setTaste_3 rfl (lv_at hl 1 rfl) ?_
  refine lv_iload_n hx hb dL_setTaste_4 rfl (lv_at hl 2 rfl) ?_
  refine bd_xC [.int a, .int b] [.int 0, .ref (bd_ea E 30 0 0)] C Z hM hR hS (bd_recv C.2 hR ⟨by decide, (by decide), (by decide)⟩ rfl rfl) qm_L_40 qi_X5_setTaste qs_X5_setTaste qz_X5 qc_X5_setTaste qp_X5_setTaste ⟨Nat.le_refl _, Nat.le_refl _⟩ hl.1 (Nat.le_of_ble_eq_true rfl) dL_setTaste_5 ⟨by show 0 + mc ≤ mc; omega, by show 0 + ms ≤ ms; omega⟩ (fun H locs q9 ce hR hS hce hcv hcl => ?_)
  refine vx_catch (own := RL) (name := "java/lang/IllegalArgumentException") (E := "java/lang/IllegalArgumentException") C.1.2.2.2.1 [⟨0, 10, 13, 25⟩] ⟨0, 10, 17, 13⟩ [] ht (fun z hz => by obtain rfl := List.mem_singleton.mp hz; exact Or.inr ⟨by decide, _, C.1.2.2.2.2 _ qk_L_25, N.2.2⟩) rfl (by decide) (C.1.2.2.2.2 _ qk_L_13) (va_Nw.use (bd_BX_t _ (List.mem_of_getElem? (i := 3) rfl)) (Z.2.2.1 _ (List.mem_of_getElem? (i := 3) rfl))) hce hcv hcl ?_
  refine lv_astore (lv' := [(4, .ref q9), (0, .ref (bd_ea E 0 0 0)), (1, .int a), (2, .int b), (3, .ref (bd_ea E 30 0 0))]) hx hb dL_setTaste_17 hl (by decide) rfl (fun ls hl => ?_)
  refine lv_iconst (v := 2) hx hb dL_setTaste_19 (by decide) ?_
  exact bd_ri C hr hlk hR hS (by omega) (by omega) dL_setTaste_20 rfl

set_option maxHeartbeats 4000000 in
set_option maxRecDepth 100000 in
theorem k_L_player_ok (l : Launch) (E : bd_E) (xm ym xm' : bd_M) (om : Nat → Int64) (a : Int32) (b : Int32) {fr lo mc ms : Nat} {v : Int32} (hM : bd_Ct l yX5_player cX5_player 4 (some .int) fr lo mc ms E [.ref (bd_ea E 0 0 0), .int a, .int b] xm ym om xm' ym om (some (.int v))) : bd_CL l yL_player cL_player 5 [(0, 10, 13, 25)] (fr + 1) (23 + lo) mc ms E [.ref (bd_ea E 0 0 0), .int a, .int b, .ref (bd_ea E 30 0 0)] xm ym om xm' ym (vp_updL om 0 v.toInt64) 0 := by
  refine bd_openL RL rfl rfl (Nat.le_of_ble_eq_true rfl) ?_
  intro p e s m args below meth c ls C Z N ht hr hlk hS hR hl
  have hx := C.1.1
  have hb := C.1.2.1
  have hl : lv_has ls 5 [(0, .ref (bd_ea E 0 0 0)), (1, .int a), (2, .int b), (3, .ref (bd_ea E 30 0 0))] := hl
  refine lv_aload_n hx hb dL_player_0 rfl (lv_at hl 3 rfl) ?_
  refine lv_iconst (v := 0) hx hb dL_player_1 (by decide) ?_
  refine lv_aload_n hx hb dL_player_2 rfl (lv_at hl 0 rfl) ?_
  refine lv_iload_n hx hb dL_player_3 rfl (lv_at hl 1 rfl) ?_
  refine lv_iload_n hx hb dL_player_4 rfl (lv_at hl 2 rfl) ?_
  refine bd_cV1 [.int a, .int b] [.int 0, .ref (bd_ea E 30 0 0)] C hM hR hS (bd_recv C.2 hR ⟨by decide, (by decide), (by decide)⟩ rfl rfl) qm_L_43 qi_X5_player qs_X5_player qz_X5 qc_X5_player qp_X5_player ⟨Nat.le_refl _, Nat.le_refl _⟩ hl.1 (Nat.le_of_ble_eq_true rfl) dL_player_5 ⟨by show 0 + mc ≤ mc; omega, by show 0 + ms ≤ ms; omega⟩ (fun H locs hR hS hz => ?_)
  refine lv_i2l (v := v.toInt64) hx hb dL_player_8 rfl ?_
  refine bd_stO C hR hS dL_player_9 (fun H locs hR hS => ?_)
  refine lv_goto (tgt := 17) hx hb dL_player_10 (by decide) ?_
  refine lv_iconst (v := 0) hx hb dL_player_17 (by decide) ?_
  exact bd_ri C hr hlk hR hS (by omega) (by omega) dL_player_18 rfl

set_option maxHeartbeats 4000000 in
set_option maxRecDepth 100000 in
theorem k_L_player_x1 (l : Launch) (E : bd_E) (xm ym : bd_M) (om : Nat → Int64) (a : Int32) (b : Int32) {fr lo mc ms : Nat} (hM : bd_Xt l yX5_player cX5_player 4 (some .int) fr lo mc ms E [.ref (bd_ea E 0 0 0), .int a, .int b] xm ym om "java/lang/IndexOutOfBoundsException") : bd_CL l yL_player cL_player 5 [(0, 10, 13, 25)] (fr + 1) (23 + lo) mc ms E [.ref (bd_ea E 0 0 0), .int a, .int b, .ref (bd_ea E 30 0 0)] xm ym om xm ym om 1 := by
  refine bd_openL RL rfl rfl (Nat.le_of_ble_eq_true rfl) ?_
  intro p e s m args below meth c ls C Z N ht hr hlk hS hR hl
  have hx := C.1.1
  have hb := C.1.2.1
  have hl : lv_has ls 5 [(0, .ref (bd_ea E 0 0 0)), (1, .int a), (2, .int b), (3, .ref (bd_ea E 30 0 0))] := hl
  refine lv_aload_n hx hb dL_player_0 rfl (lv_at hl 3 rfl) ?_
  refine lv_iconst (v := 0) hx hb dL_player_1 (by decide) ?_
  refine lv_aload_n hx hb dL_player_2 rfl (lv_at hl 0 rfl) ?_
  refine lv_iload_n hx hb dL_player_3 rfl (lv_at hl 1 rfl) ?_
  refine lv_iload_n hx hb dL_player_4 rfl (lv_at hl 2 rfl) ?_
  refine bd_xC [.int a, .int b] [.int 0, .ref (bd_ea E 30 0 0)] C Z hM hR hS (bd_recv C.2 hR ⟨by decide, (by decide), (by decide)⟩ rfl rfl) qm_L_43 qi_X5_player qs_X5_player qz_X5 qc_X5_player qp_X5_player ⟨Nat.le_refl _, Nat.le_refl _⟩ hl.1 (Nat.le_of_ble_eq_true rfl) dL_player_5 ⟨by show 0 + mc ≤ mc; omega, by show 0 + ms ≤ ms; omega⟩ (fun H locs q9 ce hR hS hce hcv hcl => ?_)
  refine vx_catch (own := RL) (name := "java/lang/IndexOutOfBoundsException") (E := "java/lang/IndexOutOfBoundsException") C.1.2.2.2.1 [] ⟨0, 10, 13, 25⟩ [] ht (fun z hz => absurd hz List.not_mem_nil) rfl (by decide) (C.1.2.2.2.2 _ qk_L_25) (va_Nw.use (bd_BX_t _ (List.mem_of_getElem? (i := 5) rfl)) (Z.2.2.1 _ (List.mem_of_getElem? (i := 5) rfl))) hce hcv hcl ?_
  refine lv_astore (lv' := [(4, .ref q9), (0, .ref (bd_ea E 0 0 0)), (1, .int a), (2, .int b), (3, .ref (bd_ea E 30 0 0))]) hx hb dL_player_13 hl (by decide) rfl (fun ls hl => ?_)
  refine lv_iconst (v := 1) hx hb dL_player_15 (by decide) ?_
  exact bd_ri C hr hlk hR hS (by omega) (by omega) dL_player_16 rfl

set_option maxHeartbeats 4000000 in
set_option maxRecDepth 100000 in
theorem k_L_band_ok (l : Launch) (E : bd_E) (xm ym xm' : bd_M) (om : Nat → Int64) (a : Int32) (b : Int32) {fr lo mc ms : Nat} {v : Int32} (hM : bd_Ct l yX5_band cX5_band 4 (some .int) fr lo mc ms E [.ref (bd_ea E 0 0 0), .int a, .int b] xm ym om xm' ym om (some (.int v))) : bd_CL l yL_band cL_band 5 [(0, 10, 13, 25)] (fr + 1) (23 + lo) mc ms E [.ref (bd_ea E 0 0 0), .int a, .int b, .ref (bd_ea E 30 0 0)] xm ym om xm' ym (vp_updL om 0 v.toInt64) 0 := by
  refine bd_openL RL rfl rfl (Nat.le_of_ble_eq_true rfl) ?_
  intro p e s m args below meth c ls C Z N ht hr hlk hS hR hl
  have hx := C.1.1
  have hb := C.1.2.1
  have hl : lv_has ls 5 [(0, .ref (bd_ea E 0 0 0)), (1, .int a), (2, .int b), (3, .ref (bd_ea E 30 0 0))] := hl
  refine lv_aload_n hx hb dL_band_0 rfl (lv_at hl 3 rfl) ?_
  refine lv_iconst (v := 0) hx hb dL_band_1 (by decide) ?_
  refine lv_aload_n hx hb dL_band_2 rfl (lv_at hl 0 rfl) ?_
  refine lv_iload_n hx hb dL_band_3 rfl (lv_at hl 1 rfl) ?_
  refine lv_iload_n hx hb dL_band_4 rfl (lv_at hl 2 rfl) ?_
  refine bd_cV1 [.int a, .int b] [.int 0, .ref (bd_ea E 30 0 0)] C hM hR hS (bd_recv C.2 hR ⟨by decide, (by decide), (by decide)⟩ rfl rfl) qm_L_46 qi_X5_band qs_X5_band qz_X5 qc_X5_band qp_X5_band ⟨Nat.le_refl _, Nat.le_refl _⟩ hl.1 (Nat.le_of_ble_eq_true rfl) dL_band_5 ⟨by show 0 + mc ≤ mc; omega, by show 0 + ms ≤ ms; omega⟩ (fun H locs hR hS hz => ?_)
  refine lv_i2l (v := v.toInt64) hx hb dL_band_8 rfl ?_
  refine bd_stO C hR hS dL_band_9 (fun H locs hR hS => ?_)
  refine lv_goto (tgt := 17) hx hb dL_band_10 (by decide) ?_
  refine lv_iconst (v := 0) hx hb dL_band_17 (by decide) ?_
  exact bd_ri C hr hlk hR hS (by omega) (by omega) dL_band_18 rfl

set_option maxHeartbeats 4000000 in
set_option maxRecDepth 100000 in
theorem k_L_band_x1 (l : Launch) (E : bd_E) (xm ym : bd_M) (om : Nat → Int64) (a : Int32) (b : Int32) {fr lo mc ms : Nat} (hM : bd_Xt l yX5_band cX5_band 4 (some .int) fr lo mc ms E [.ref (bd_ea E 0 0 0), .int a, .int b] xm ym om "java/lang/IndexOutOfBoundsException") : bd_CL l yL_band cL_band 5 [(0, 10, 13, 25)] (fr + 1) (23 + lo) mc ms E [.ref (bd_ea E 0 0 0), .int a, .int b, .ref (bd_ea E 30 0 0)] xm ym om xm ym om 1 := by
  refine bd_openL RL rfl rfl (Nat.le_of_ble_eq_true rfl) ?_
  intro p e s m args below meth c ls C Z N ht hr hlk hS hR hl
  have hx := C.1.1
  have hb := C.1.2.1
  have hl : lv_has ls 5 [(0, .ref (bd_ea E 0 0 0)), (1, .int a), (2, .int b), (3, .ref (bd_ea E 30 0 0))] := hl
  refine lv_aload_n hx hb dL_band_0 rfl (lv_at hl 3 rfl) ?_
  refine lv_iconst (v := 0) hx hb dL_band_1 (by decide) ?_
  refine lv_aload_n hx hb dL_band_2 rfl (lv_at hl 0 rfl) ?_
  refine lv_iload_n hx hb dL_band_3 rfl (lv_at hl 1 rfl) ?_
  refine lv_iload_n hx hb dL_band_4 rfl (lv_at hl 2 rfl) ?_
  refine bd_xC [.int a, .int b] [.int 0, .ref (bd_ea E 30 0 0)] C Z hM hR hS (bd_recv C.2 hR ⟨by decide, (by decide), (by decide)⟩ rfl rfl) qm_L_46 qi_X5_band qs_X5_band qz_X5 qc_X5_band qp_X5_band ⟨Nat.le_refl _, Nat.le_refl _⟩ hl.1 (Nat.le_of_ble_eq_true rfl) dL_band_5 ⟨by show 0 + mc ≤ mc; omega, by show 0 + ms ≤ ms; omega⟩ (fun H locs q9 ce hR hS hce hcv hcl => ?_)
  refine vx_catch (own := RL) (name := "java/lang/IndexOutOfBoundsException") (E := "java/lang/IndexOutOfBoundsException") C.1.2.2.2.1 [] ⟨0, 10, 13, 25⟩ [] ht (fun z hz => absurd hz List.not_mem_nil) rfl (by decide) (C.1.2.2.2.2 _ qk_L_25) (va_Nw.use (bd_BX_t _ (List.mem_of_getElem? (i := 5) rfl)) (Z.2.2.1 _ (List.mem_of_getElem? (i := 5) rfl))) hce hcv hcl ?_
  refine lv_astore (lv' := [(4, .ref q9), (0, .ref (bd_ea E 0 0 0)), (1, .int a), (2, .int b), (3, .ref (bd_ea E 30 0 0))]) hx hb dL_band_13 hl (by decide) rfl (fun ls hl => ?_)
  refine lv_iconst (v := 1) hx hb dL_band_15 (by decide) ?_
  exact bd_ri C hr hlk hR hS (by omega) (by omega) dL_band_16 rfl

set_option maxHeartbeats 4000000 in
set_option maxRecDepth 100000 in
theorem k_L_chair_ok (l : Launch) (E : bd_E) (xm ym xm' : bd_M) (om : Nat → Int64) (a : Int32) (b : Int32) (c2 : Int32) {fr lo mc ms : Nat} {v : Int32} (hM : bd_Ct l yX5_chair cX5_chair 5 (some .int) fr lo mc ms E [.ref (bd_ea E 0 0 0), .int a, .int b, .int c2] xm ym om xm' ym om (some (.int v))) : bd_CL l yL_chair cL_chair 6 [(0, 12, 15, 25)] (fr + 1) (24 + lo) mc ms E [.ref (bd_ea E 0 0 0), .int a, .int b, .int c2, .ref (bd_ea E 30 0 0)] xm ym om xm' ym (vp_updL om 0 v.toInt64) 0 := by
  refine bd_openL RL rfl rfl (Nat.le_of_ble_eq_true rfl) ?_
  intro p e s m args below meth c ls C Z N ht hr hlk hS hR hl
  have hx := C.1.1
  have hb := C.1.2.1
  have hl : lv_has ls 6 [(0, .ref (bd_ea E 0 0 0)), (1, .int a), (2, .int b), (3, .int c2), (4, .ref (bd_ea E 30 0 0))] := hl
  refine lv_aload hx hb dL_chair_0 (lv_at hl 4 rfl) ?_
  refine lv_iconst (v := 0) hx hb dL_chair_2 (by decide) ?_
  refine lv_aload_n hx hb dL_chair_3 rfl (lv_at hl 0 rfl) ?_
  refine lv_iload_n hx hb dL_chair_4 rfl (lv_at hl 1 rfl) ?_
  refine lv_iload_n hx hb dL_chair_5 rfl (lv_at hl 2 rfl) ?_
  refine lv_iload_n hx hb dL_chair_6 rfl (lv_at hl 3 rfl) ?_
  refine bd_cV1 [.int a, .int b, .int c2] [.int 0, .ref (bd_ea E 30 0 0)] C hM hR hS (bd_recv C.2 hR ⟨by decide, (by decide), (by decide)⟩ rfl rfl) qm_L_49 qi_X5_chair qs_X5_chair qz_X5 qc_X5_chair qp_X5_chair ⟨Nat.le_refl _, Nat.le_refl _⟩ hl.1 (Nat.le_of_ble_eq_true rfl) dL_chair_7 ⟨by show 0 + mc ≤ mc; omega, by show 0 + ms ≤ ms; omega⟩ (fun H locs hR hS hz => ?_)
  refine lv_i2l (v := v.toInt64) hx hb dL_chair_10 rfl ?_
  refine bd_stO C hR hS dL_chair_11 (fun H locs hR hS => ?_)
  refine lv_goto (tgt := 19) hx hb dL_chair_12 (by decide) ?_
  refine lv_iconst (v := 0) hx hb dL_chair_19 (by decide) ?_
  exact bd_ri C hr hlk hR hS (by omega) (by omega) dL_chair_20 rfl

set_option maxHeartbeats 4000000 in
set_option maxRecDepth 100000 in
theorem k_L_chair_x1 (l : Launch) (E : bd_E) (xm ym : bd_M) (om : Nat → Int64) (a : Int32) (b : Int32) (c2 : Int32) {fr lo mc ms : Nat} (hM : bd_Xt l yX5_chair cX5_chair 5 (some .int) fr lo mc ms E [.ref (bd_ea E 0 0 0), .int a, .int b, .int c2] xm ym om "java/lang/IndexOutOfBoundsException") : bd_CL l yL_chair cL_chair 6 [(0, 12, 15, 25)] (fr + 1) (24 + lo) mc ms E [.ref (bd_ea E 0 0 0), .int a, .int b, .int c2, .ref (bd_ea E 30 0 0)] xm ym om xm ym om 1 := by
  refine bd_openL RL rfl rfl (Nat.le_of_ble_eq_true rfl) ?_
  intro p e s m args below meth c ls C Z N ht hr hlk hS hR hl
  have hx := C.1.1
  have hb := C.1.2.1
  have hl : lv_has ls 6 [(0, .ref (bd_ea E 0 0 0)), (1, .int a), (2, .int b), (3, .int c2), (4, .ref (bd_ea E 30 0 0))] := hl
  refine lv_aload hx hb dL_chair_0 (lv_at hl 4 rfl) ?_
  refine lv_iconst (v := 0) hx hb dL_chair_2 (by decide) ?_
  refine lv_aload_n hx hb dL_chair_3 rfl (lv_at hl 0 rfl) ?_
  refine lv_iload_n hx hb dL_chair_4 rfl (lv_at hl 1 rfl) ?_
  refine lv_iload_n hx hb dL_chair_5 rfl (lv_at hl 2 rfl) ?_
  refine lv_iload_n hx hb dL_chair_6 rfl (lv_at hl 3 rfl) ?_
  refine bd_xC [.int a, .int b, .int c2] [.int 0, .ref (bd_ea E 30 0 0)] C Z hM hR hS (bd_recv C.2 hR ⟨by decide, (by decide), (by decide)⟩ rfl rfl) qm_L_49 qi_X5_chair qs_X5_chair qz_X5 qc_X5_chair qp_X5_chair ⟨Nat.le_refl _, Nat.le_refl _⟩ hl.1 (Nat.le_of_ble_eq_true rfl) dL_chair_7 ⟨by show 0 + mc ≤ mc; omega, by show 0 + ms ≤ ms; omega⟩ (fun H locs q9 ce hR hS hce hcv hcl => ?_)
  refine vx_catch (own := RL) (name := "java/lang/IndexOutOfBoundsException") (E := "java/lang/IndexOutOfBoundsException") C.1.2.2.2.1 [] ⟨0, 12, 15, 25⟩ [] ht (fun z hz => absurd hz List.not_mem_nil) rfl (by decide) (C.1.2.2.2.2 _ qk_L_25) (va_Nw.use (bd_BX_t _ (List.mem_of_getElem? (i := 5) rfl)) (Z.2.2.1 _ (List.mem_of_getElem? (i := 5) rfl))) hce hcv hcl ?_
  refine lv_astore (lv' := [(5, .ref q9), (0, .ref (bd_ea E 0 0 0)), (1, .int a), (2, .int b), (3, .int c2), (4, .ref (bd_ea E 30 0 0))]) hx hb dL_chair_15 hl (by decide) rfl (fun ls hl => ?_)
  refine lv_iconst (v := 1) hx hb dL_chair_17 (by decide) ?_
  exact bd_ri C hr hlk hR hS (by omega) (by omega) dL_chair_18 rfl

set_option maxHeartbeats 4000000 in
set_option maxRecDepth 100000 in
theorem k_L_contest_ok (l : Launch) (E : bd_E) (xm ym xm' : bd_M) (om : Nat → Int64) {fr lo mc ms : Nat} {v : Int32} (hM : bd_Ct l yX5_contest cX5_contest 1 (some .int) fr lo mc ms E [.ref (bd_ea E 0 0 0)] xm ym om xm' ym om (some (.int v))) : bd_CL l yL_contest cL_contest 3 [(0, 8, 11, 15)] (fr + 1) (20 + lo) mc ms E [.ref (bd_ea E 0 0 0), .ref (bd_ea E 30 0 0)] xm ym om xm' ym (vp_updL om 0 v.toInt64) 0 := by
  refine bd_openL RL rfl rfl (Nat.le_of_ble_eq_true rfl) ?_
  intro p e s m args below meth c ls C Z N ht hr hlk hS hR hl
  have hx := C.1.1
  have hb := C.1.2.1
  have hl : lv_has ls 3 [(0, .ref (bd_ea E 0 0 0)), (1, .ref (bd_ea E 30 0 0))] := hl
  refine lv_aload_n hx hb dL_contest_0 rfl (lv_at hl 1 rfl) ?_
  refine lv_iconst (v := 0) hx hb dL_contest_1 (by decide) ?_
  refine lv_aload_n hx hb dL_contest_2 rfl (lv_at hl 0 rfl) ?_
  refine bd_cV1 [] [.int 0, .ref (bd_ea E 30 0 0)] C hM hR hS (bd_recv C.2 hR ⟨by decide, (by decide), (by decide)⟩ rfl rfl) qm_L_52 qi_X5_contest qs_X5_contest qz_X5 qc_X5_contest qp_X5_contest ⟨Nat.le_refl _, Nat.le_refl _⟩ hl.1 (Nat.le_of_ble_eq_true rfl) dL_contest_3 ⟨by show 0 + mc ≤ mc; omega, by show 0 + ms ≤ ms; omega⟩ (fun H locs hR hS hz => ?_)
  refine lv_i2l (v := v.toInt64) hx hb dL_contest_6 rfl ?_
  refine bd_stO C hR hS dL_contest_7 (fun H locs hR hS => ?_)
  refine lv_goto (tgt := 14) hx hb dL_contest_8 (by decide) ?_
  refine lv_iconst (v := 0) hx hb dL_contest_14 (by decide) ?_
  exact bd_ri C hr hlk hR hS (by omega) (by omega) dL_contest_15 rfl

set_option maxHeartbeats 4000000 in
set_option maxRecDepth 100000 in
theorem k_L_contest_x1 (l : Launch) (E : bd_E) (xm ym : bd_M) (om : Nat → Int64) {fr lo mc ms : Nat} (hM : bd_Xt l yX5_contest cX5_contest 1 (some .int) fr lo mc ms E [.ref (bd_ea E 0 0 0)] xm ym om "java/lang/IllegalStateException") : bd_CL l yL_contest cL_contest 3 [(0, 8, 11, 15)] (fr + 1) (20 + lo) mc ms E [.ref (bd_ea E 0 0 0), .ref (bd_ea E 30 0 0)] xm ym om xm ym om 1 := by
  refine bd_openL RL rfl rfl (Nat.le_of_ble_eq_true rfl) ?_
  intro p e s m args below meth c ls C Z N ht hr hlk hS hR hl
  have hx := C.1.1
  have hb := C.1.2.1
  have hl : lv_has ls 3 [(0, .ref (bd_ea E 0 0 0)), (1, .ref (bd_ea E 30 0 0))] := hl
  refine lv_aload_n hx hb dL_contest_0 rfl (lv_at hl 1 rfl) ?_
  refine lv_iconst (v := 0) hx hb dL_contest_1 (by decide) ?_
  refine lv_aload_n hx hb dL_contest_2 rfl (lv_at hl 0 rfl) ?_
  refine bd_xC [] [.int 0, .ref (bd_ea E 30 0 0)] C Z hM hR hS (bd_recv C.2 hR ⟨by decide, (by decide), (by decide)⟩ rfl rfl) qm_L_52 qi_X5_contest qs_X5_contest qz_X5 qc_X5_contest qp_X5_contest ⟨Nat.le_refl _, Nat.le_refl _⟩ hl.1 (Nat.le_of_ble_eq_true rfl) dL_contest_3 ⟨by show 0 + mc ≤ mc; omega, by show 0 + ms ≤ ms; omega⟩ (fun H locs q9 ce hR hS hce hcv hcl => ?_)
  refine vx_catch (own := RL) (name := "java/lang/IllegalStateException") (E := "java/lang/IllegalStateException") C.1.2.2.2.1 [] ⟨0, 8, 11, 15⟩ [] ht (fun z hz => absurd hz List.not_mem_nil) rfl (by decide) (C.1.2.2.2.2 _ qk_L_15) (va_Nw.use (bd_BX_t _ (List.mem_of_getElem? (i := 4) rfl)) (Z.2.2.1 _ (List.mem_of_getElem? (i := 4) rfl))) hce hcv hcl ?_
  refine lv_astore_n (lv' := [(2, .ref q9), (0, .ref (bd_ea E 0 0 0)), (1, .ref (bd_ea E 30 0 0))]) hx hb dL_contest_11 rfl hl (by decide) rfl (fun ls hl => ?_)
  refine lv_iconst (v := 1) hx hb dL_contest_12 (by decide) ?_
  exact bd_ri C hr hlk hR hS (by omega) (by omega) dL_contest_13 rfl

set_option maxHeartbeats 4000000 in
set_option maxRecDepth 100000 in
theorem k_L_rank_ok (l : Launch) (E : bd_E) (xm ym xm' : bd_M) (om : Nat → Int64) (a : Int32) {fr lo mc ms : Nat} {v : Int32} (hM : bd_Ct l yX5_rank cX5_rank 2 (some .int) fr lo mc ms E [.ref (bd_ea E 0 0 0), .int a] xm ym om xm' ym om (some (.int v))) : bd_CL l yL_rank cL_rank 4 [(0, 9, 12, 25)] (fr + 1) (21 + lo) mc ms E [.ref (bd_ea E 0 0 0), .int a, .ref (bd_ea E 30 0 0)] xm ym om xm' ym (vp_updL om 0 v.toInt64) 0 := by
  refine bd_openL RL rfl rfl (Nat.le_of_ble_eq_true rfl) ?_
  intro p e s m args below meth c ls C Z N ht hr hlk hS hR hl
  have hx := C.1.1
  have hb := C.1.2.1
  have hl : lv_has ls 4 [(0, .ref (bd_ea E 0 0 0)), (1, .int a), (2, .ref (bd_ea E 30 0 0))] := hl
  refine lv_aload_n hx hb dL_rank_0 rfl (lv_at hl 2 rfl) ?_
  refine lv_iconst (v := 0) hx hb dL_rank_1 (by decide) ?_
  refine lv_aload_n hx hb dL_rank_2 rfl (lv_at hl 0 rfl) ?_
  refine lv_iload_n hx hb dL_rank_3 rfl (lv_at hl 1 rfl) ?_
  refine bd_cV1 [.int a] [.int 0, .ref (bd_ea E 30 0 0)] C hM hR hS (bd_recv C.2 hR ⟨by decide, (by decide), (by decide)⟩ rfl rfl) qm_L_56 qi_X5_rank qs_X5_rank qz_X5 qc_X5_rank qp_X5_rank ⟨Nat.le_refl _, Nat.le_refl _⟩ hl.1 (Nat.le_of_ble_eq_true rfl) dL_rank_4 ⟨by show 0 + mc ≤ mc; omega, by show 0 + ms ≤ ms; omega⟩ (fun H locs hR hS hz => ?_)
  refine lv_i2l (v := v.toInt64) hx hb dL_rank_7 rfl ?_
  refine bd_stO C hR hS dL_rank_8 (fun H locs hR hS => ?_)
  refine lv_goto (tgt := 15) hx hb dL_rank_9 (by decide) ?_
  refine lv_iconst (v := 0) hx hb dL_rank_15 (by decide) ?_
  exact bd_ri C hr hlk hR hS (by omega) (by omega) dL_rank_16 rfl

set_option maxHeartbeats 4000000 in
set_option maxRecDepth 100000 in
theorem k_L_rank_x1 (l : Launch) (E : bd_E) (xm ym : bd_M) (om : Nat → Int64) (a : Int32) {fr lo mc ms : Nat} (hM : bd_Xt l yX5_rank cX5_rank 2 (some .int) fr lo mc ms E [.ref (bd_ea E 0 0 0), .int a] xm ym om "java/lang/IndexOutOfBoundsException") : bd_CL l yL_rank cL_rank 4 [(0, 9, 12, 25)] (fr + 1) (21 + lo) mc ms E [.ref (bd_ea E 0 0 0), .int a, .ref (bd_ea E 30 0 0)] xm ym om xm ym om 1 := by
  refine bd_openL RL rfl rfl (Nat.le_of_ble_eq_true rfl) ?_
  intro p e s m args below meth c ls C Z N ht hr hlk hS hR hl
  have hx := C.1.1
  have hb := C.1.2.1
  have hl : lv_has ls 4 [(0, .ref (bd_ea E 0 0 0)), (1, .int a), (2, .ref (bd_ea E 30 0 0))] := hl
  refine lv_aload_n hx hb dL_rank_0 rfl (lv_at hl 2 rfl) ?_
  refine lv_iconst (v := 0) hx hb dL_rank_1 (by decide) ?_
  refine lv_aload_n hx hb dL_rank_2 rfl (lv_at hl 0 rfl) ?_
  refine lv_iload_n hx hb dL_rank_3 rfl (lv_at hl 1 rfl) ?_
  refine bd_xC [.int a] [.int 0, .ref (bd_ea E 30 0 0)] C Z hM hR hS (bd_recv C.2 hR ⟨by decide, (by decide), (by decide)⟩ rfl rfl) qm_L_56 qi_X5_rank qs_X5_rank qz_X5 qc_X5_rank qp_X5_rank ⟨Nat.le_refl _, Nat.le_refl _⟩ hl.1 (Nat.le_of_ble_eq_true rfl) dL_rank_4 ⟨by show 0 + mc ≤ mc; omega, by show 0 + ms ≤ ms; omega⟩ (fun H locs q9 ce hR hS hce hcv hcl => ?_)
  refine vx_catch (own := RL) (name := "java/lang/IndexOutOfBoundsException") (E := "java/lang/IndexOutOfBoundsException") C.1.2.2.2.1 [] ⟨0, 9, 12, 25⟩ [] ht (fun z hz => absurd hz List.not_mem_nil) rfl (by decide) (C.1.2.2.2.2 _ qk_L_25) (va_Nw.use (bd_BX_t _ (List.mem_of_getElem? (i := 5) rfl)) (Z.2.2.1 _ (List.mem_of_getElem? (i := 5) rfl))) hce hcv hcl ?_
  refine lv_astore_n (lv' := [(3, .ref q9), (0, .ref (bd_ea E 0 0 0)), (1, .int a), (2, .ref (bd_ea E 30 0 0))]) hx hb dL_rank_12 rfl hl (by decide) rfl (fun ls hl => ?_)
  refine lv_iconst (v := 1) hx hb dL_rank_13 (by decide) ?_
  exact bd_ri C hr hlk hR hS (by omega) (by omega) dL_rank_14 rfl

set_option maxHeartbeats 4000000 in
set_option maxRecDepth 100000 in
theorem k_L_count_ok (l : Launch) (E : bd_E) (xm ym xm' : bd_M) (om : Nat → Int64) (a : Int32) {fr lo mc ms : Nat} {v : Int32} (hM : bd_Ct l yX5_count cX5_count 2 (some .int) fr lo mc ms E [.ref (bd_ea E 0 0 0), .int a] xm ym om xm' ym om (some (.int v))) : bd_CL l yL_count cL_count 4 [(0, 9, 12, 25)] (fr + 1) (21 + lo) mc ms E [.ref (bd_ea E 0 0 0), .int a, .ref (bd_ea E 30 0 0)] xm ym om xm' ym (vp_updL om 0 v.toInt64) 0 := by
  refine bd_openL RL rfl rfl (Nat.le_of_ble_eq_true rfl) ?_
  intro p e s m args below meth c ls C Z N ht hr hlk hS hR hl
  have hx := C.1.1
  have hb := C.1.2.1
  have hl : lv_has ls 4 [(0, .ref (bd_ea E 0 0 0)), (1, .int a), (2, .ref (bd_ea E 30 0 0))] := hl
  refine lv_aload_n hx hb dL_count_0 rfl (lv_at hl 2 rfl) ?_
  refine lv_iconst (v := 0) hx hb dL_count_1 (by decide) ?_
  refine lv_aload_n hx hb dL_count_2 rfl (lv_at hl 0 rfl) ?_
  refine lv_iload_n hx hb dL_count_3 rfl (lv_at hl 1 rfl) ?_
  refine bd_cV1 [.int a] [.int 0, .ref (bd_ea E 30 0 0)] C hM hR hS (bd_recv C.2 hR ⟨by decide, (by decide), (by decide)⟩ rfl rfl) qm_L_59 qi_X5_count qs_X5_count qz_X5 qc_X5_count qp_X5_count ⟨Nat.le_refl _, Nat.le_refl _⟩ hl.1 (Nat.le_of_ble_eq_true rfl) dL_count_4 ⟨by show 0 + mc ≤ mc; omega, by show 0 + ms ≤ ms; omega⟩ (fun H locs hR hS hz => ?_)
  refine lv_i2l (v := v.toInt64) hx hb dL_count_7 rfl ?_
  refine bd_stO C hR hS dL_count_8 (fun H locs hR hS => ?_)
  refine lv_goto (tgt := 15) hx hb dL_count_9 (by decide) ?_
  refine lv_iconst (v := 0) hx hb dL_count_15 (by decide) ?_
  exact bd_ri C hr hlk hR hS (by omega) (by omega) dL_count_16 rfl

set_option maxHeartbeats 4000000 in
set_option maxRecDepth 100000 in
theorem k_L_count_x1 (l : Launch) (E : bd_E) (xm ym : bd_M) (om : Nat → Int64) (a : Int32) {fr lo mc ms : Nat} (hM : bd_Xt l yX5_count cX5_count 2 (some .int) fr lo mc ms E [.ref (bd_ea E 0 0 0), .int a] xm ym om "java/lang/IndexOutOfBoundsException") : bd_CL l yL_count cL_count 4 [(0, 9, 12, 25)] (fr + 1) (21 + lo) mc ms E [.ref (bd_ea E 0 0 0), .int a, .ref (bd_ea E 30 0 0)] xm ym om xm ym om 1 := by
  refine bd_openL RL rfl rfl (Nat.le_of_ble_eq_true rfl) ?_
  intro p e s m args below meth c ls C Z N ht hr hlk hS hR hl
  have hx := C.1.1
  have hb := C.1.2.1
  have hl : lv_has ls 4 [(0, .ref (bd_ea E 0 0 0)), (1, .int a), (2, .ref (bd_ea E 30 0 0))] := hl
  refine lv_aload_n hx hb dL_count_0 rfl (lv_at hl 2 rfl) ?_
  refine lv_iconst (v := 0) hx hb dL_count_1 (by decide) ?_
  refine lv_aload_n hx hb dL_count_2 rfl (lv_at hl 0 rfl) ?_
  refine lv_iload_n hx hb dL_count_3 rfl (lv_at hl 1 rfl) ?_
  refine bd_xC [.int a] [.int 0, .ref (bd_ea E 30 0 0)] C Z hM hR hS (bd_recv C.2 hR ⟨by decide, (by decide), (by decide)⟩ rfl rfl) qm_L_59 qi_X5_count qs_X5_count qz_X5 qc_X5_count qp_X5_count ⟨Nat.le_refl _, Nat.le_refl _⟩ hl.1 (Nat.le_of_ble_eq_true rfl) dL_count_4 ⟨by show 0 + mc ≤ mc; omega, by show 0 + ms ≤ ms; omega⟩ (fun H locs q9 ce hR hS hce hcv hcl => ?_)
  refine vx_catch (own := RL) (name := "java/lang/IndexOutOfBoundsException") (E := "java/lang/IndexOutOfBoundsException") C.1.2.2.2.1 [] ⟨0, 9, 12, 25⟩ [] ht (fun z hz => absurd hz List.not_mem_nil) rfl (by decide) (C.1.2.2.2.2 _ qk_L_25) (va_Nw.use (bd_BX_t _ (List.mem_of_getElem? (i := 5) rfl)) (Z.2.2.1 _ (List.mem_of_getElem? (i := 5) rfl))) hce hcv hcl ?_
  refine lv_astore_n (lv' := [(3, .ref q9), (0, .ref (bd_ea E 0 0 0)), (1, .int a), (2, .ref (bd_ea E 30 0 0))]) hx hb dL_count_12 rfl hl (by decide) rfl (fun ls hl => ?_)
  refine lv_iconst (v := 1) hx hb dL_count_13 (by decide) ?_
  exact bd_ri C hr hlk hR hS (by omega) (by omega) dL_count_14 rfl

set_option maxHeartbeats 4000000 in
set_option maxRecDepth 100000 in
theorem k_L_foresee_ok (l : Launch) (E : bd_E) (xm ym xm' : bd_M) (om : Nat → Int64) (a : Int32) (b : Int32) (c2 : Int32) {fr lo mc ms : Nat} {v : Int32} (hM : bd_Ct l yX5_foresee cX5_foresee 5 (some .int) fr lo mc ms E [.ref (bd_ea E 0 0 0), .int a, .int b, .int c2] xm ym om xm' ym om (some (.int v))) : bd_CL l yL_foresee cL_foresee 6 [(0, 12, 15, 25), (0, 12, 19, 13)] (fr + 1) (24 + lo) mc ms E [.ref (bd_ea E 0 0 0), .int a, .int b, .int c2, .ref (bd_ea E 30 0 0)] xm ym om xm' ym (vp_updL om 0 v.toInt64) 0 := by
  refine bd_openL RL rfl rfl (Nat.le_of_ble_eq_true rfl) ?_
  intro p e s m args below meth c ls C Z N ht hr hlk hS hR hl
  have hx := C.1.1
  have hb := C.1.2.1
  have hl : lv_has ls 6 [(0, .ref (bd_ea E 0 0 0)), (1, .int a), (2, .int b), (3, .int c2), (4, .ref (bd_ea E 30 0 0))] := hl
  refine lv_aload hx hb dL_foresee_0 (lv_at hl 4 rfl) ?_
  refine lv_iconst (v := 0) hx hb dL_foresee_2 (by decide) ?_
  refine lv_aload_n hx hb dL_foresee_3 rfl (lv_at hl 0 rfl) ?_
  refine lv_iload_n hx hb dL_foresee_4 rfl (lv_at hl 1 rfl) ?_
  refine lv_iload_n hx hb dL_foresee_5 rfl (lv_at hl 2 rfl) ?_
  refine lv_iload_n hx hb dL_foresee_6 rfl (lv_at hl 3 rfl) ?_
  refine bd_cV1 [.int a, .int b, .int c2] [.int 0, .ref (bd_ea E 30 0 0)] C hM hR hS (bd_recv C.2 hR ⟨by decide, (by decide), (by decide)⟩ rfl rfl) qm_L_62 qi_X5_foresee qs_X5_foresee qz_X5 qc_X5_foresee qp_X5_foresee ⟨Nat.le_refl _, Nat.le_refl _⟩ hl.1 (Nat.le_of_ble_eq_true rfl) dL_foresee_7 ⟨by show 0 + mc ≤ mc; omega, by show 0 + ms ≤ ms; omega⟩ (fun H locs hR hS hz => ?_)
  refine lv_i2l (v := v.toInt64) hx hb dL_foresee_10 rfl ?_
  refine bd_stO C hR hS dL_foresee_11 (fun H locs hR hS => ?_)
  refine lv_goto (tgt := 23) hx hb dL_foresee_12 (by decide) ?_
  refine lv_iconst (v := 0) hx hb dL_foresee_23 (by decide) ?_
  exact bd_ri C hr hlk hR hS (by omega) (by omega) dL_foresee_24 rfl

set_option maxHeartbeats 4000000 in
set_option maxRecDepth 100000 in
theorem k_L_foresee_x1 (l : Launch) (E : bd_E) (xm ym : bd_M) (om : Nat → Int64) (a : Int32) (b : Int32) (c2 : Int32) {fr lo mc ms : Nat} (hM : bd_Xt l yX5_foresee cX5_foresee 5 (some .int) fr lo mc ms E [.ref (bd_ea E 0 0 0), .int a, .int b, .int c2] xm ym om "java/lang/IndexOutOfBoundsException") : bd_CL l yL_foresee cL_foresee 6 [(0, 12, 15, 25), (0, 12, 19, 13)] (fr + 1) (24 + lo) mc ms E [.ref (bd_ea E 0 0 0), .int a, .int b, .int c2, .ref (bd_ea E 30 0 0)] xm ym om xm ym om 1 := by
  refine bd_openL RL rfl rfl (Nat.le_of_ble_eq_true rfl) ?_
  intro p e s m args below meth c ls C Z N ht hr hlk hS hR hl
  have hx := C.1.1
  have hb := C.1.2.1
  have hl : lv_has ls 6 [(0, .ref (bd_ea E 0 0 0)), (1, .int a), (2, .int b), (3, .int c2), (4, .ref (bd_ea E 30 0 0))] := hl
  refine lv_aload hx hb dL_foresee_0 (lv_at hl 4 rfl) ?_
  refine lv_iconst (v := 0) hx hb dL_foresee_2 (by decide) ?_
  refine lv_aload_n hx hb dL_foresee_3 rfl (lv_at hl 0 rfl) ?_
  refine lv_iload_n hx hb dL_foresee_4 rfl (lv_at hl 1 rfl) ?_
  refine lv_iload_n hx hb dL_foresee_5 rfl (lv_at hl 2 rfl) ?_
  refine lv_iload_n hx hb dL_foresee_6 rfl (lv_at hl 3 rfl) ?_
  refine bd_xC [.int a, .int b, .int c2] [.int 0, .ref (bd_ea E 30 0 0)] C Z hM hR hS (bd_recv C.2 hR ⟨by decide, (by decide), (by decide)⟩ rfl rfl) qm_L_62 qi_X5_foresee qs_X5_foresee qz_X5 qc_X5_foresee qp_X5_foresee ⟨Nat.le_refl _, Nat.le_refl _⟩ hl.1 (Nat.le_of_ble_eq_true rfl) dL_foresee_7 ⟨by show 0 + mc ≤ mc; omega, by show 0 + ms ≤ ms; omega⟩ (fun H locs q9 ce hR hS hce hcv hcl => ?_)
  refine vx_catch (own := RL) (name := "java/lang/IndexOutOfBoundsException") (E := "java/lang/IndexOutOfBoundsException") C.1.2.2.2.1 [] ⟨0, 12, 15, 25⟩ [⟨0, 12, 19, 13⟩] ht (fun z hz => absurd hz List.not_mem_nil) rfl (by decide) (C.1.2.2.2.2 _ qk_L_25) (va_Nw.use (bd_BX_t _ (List.mem_of_getElem? (i := 5) rfl)) (Z.2.2.1 _ (List.mem_of_getElem? (i := 5) rfl))) hce hcv hcl ?_
  refine lv_astore (lv' := [(5, .ref q9), (0, .ref (bd_ea E 0 0 0)), (1, .int a), (2, .int b), (3, .int c2), (4, .ref (bd_ea E 30 0 0))]) hx hb dL_foresee_15 hl (by decide) rfl (fun ls hl => ?_)
  refine lv_iconst (v := 1) hx hb dL_foresee_17 (by decide) ?_
  exact bd_ri C hr hlk hR hS (by omega) (by omega) dL_foresee_18 rfl

set_option maxHeartbeats 4000000 in
set_option maxRecDepth 100000 in
theorem k_L_foresee_x2 (l : Launch) (E : bd_E) (xm ym : bd_M) (om : Nat → Int64) (a : Int32) (b : Int32) (c2 : Int32) {fr lo mc ms : Nat} (hM : bd_Xt l yX5_foresee cX5_foresee 5 (some .int) fr lo mc ms E [.ref (bd_ea E 0 0 0), .int a, .int b, .int c2] xm ym om "java/lang/IllegalArgumentException") : bd_CL l yL_foresee cL_foresee 6 [(0, 12, 15, 25), (0, 12, 19, 13)] (fr + 1) (24 + lo) mc ms E [.ref (bd_ea E 0 0 0), .int a, .int b, .int c2, .ref (bd_ea E 30 0 0)] xm ym om xm ym om 2 := by
  refine bd_openL RL rfl rfl (Nat.le_of_ble_eq_true rfl) ?_
  intro p e s m args below meth c ls C Z N ht hr hlk hS hR hl
  have hx := C.1.1
  have hb := C.1.2.1
  have hl : lv_has ls 6 [(0, .ref (bd_ea E 0 0 0)), (1, .int a), (2, .int b), (3, .int c2), (4, .ref (bd_ea E 30 0 0))] := hl
  refine lv_aload hx hb dL_foresee_0 (lv_at hl 4 rfl) ?_
  refine lv_iconst (v := 0) hx hb dL_foresee_2 (by decide) ?_
  refine lv_aload_n hx hb dL_foresee_3 rfl (lv_at hl 0 rfl) ?_
  refine lv_iload_n hx hb dL_foresee_4 rfl (lv_at hl 1 rfl) ?_
  refine lv_iload_n hx hb dL_foresee_5 rfl (lv_at hl 2 rfl) ?_
  refine lv_iload_n hx hb dL_foresee_6 rfl (lv_at hl 3 rfl) ?_
  refine bd_xC [.int a, .int b, .int c2] [.int 0, .ref (bd_ea E 30 0 0)] C Z hM hR hS (bd_recv C.2 hR ⟨by decide, (by decide), (by decide)⟩ rfl rfl) qm_L_62 qi_X5_foresee qs_X5_foresee qz_X5 qc_X5_foresee qp_X5_foresee ⟨Nat.le_refl _, Nat.le_refl _⟩ hl.1 (Nat.le_of_ble_eq_true rfl) dL_foresee_7 ⟨by show 0 + mc ≤ mc; omega, by show 0 + ms ≤ ms; omega⟩ (fun H locs q9 ce hR hS hce hcv hcl => ?_)
  refine vx_catch (own := RL) (name := "java/lang/IllegalArgumentException") (E := "java/lang/IllegalArgumentException") C.1.2.2.2.1 [⟨0, 12, 15, 25⟩] ⟨0, 12, 19, 13⟩ [] ht (fun z hz => by obtain rfl := List.mem_singleton.mp hz; exact Or.inr ⟨by decide, _, C.1.2.2.2.2 _ qk_L_25, N.2.2⟩) rfl (by decide) (C.1.2.2.2.2 _ qk_L_13) (va_Nw.use (bd_BX_t _ (List.mem_of_getElem? (i := 3) rfl)) (Z.2.2.1 _ (List.mem_of_getElem? (i := 3) rfl))) hce hcv hcl ?_
  refine lv_astore (lv' := [(5, .ref q9), (0, .ref (bd_ea E 0 0 0)), (1, .int a), (2, .int b), (3, .int c2), (4, .ref (bd_ea E 30 0 0))]) hx hb dL_foresee_19 hl (by decide) rfl (fun ls hl => ?_)
  refine lv_iconst (v := 2) hx hb dL_foresee_21 (by decide) ?_
  exact bd_ri C hr hlk hR hS (by omega) (by omega) dL_foresee_22 rfl

set_option maxHeartbeats 4000000 in
set_option maxRecDepth 100000 in
theorem k_L_advise_ok (l : Launch) (E : bd_E) (xm ym xm' : bd_M) (om : Nat → Int64) (a : Int32) {fr lo mc ms : Nat} {v : Int32} (hM : bd_Ct l yX5_advise cX5_advise 2 (some .int) fr lo mc ms E [.ref (bd_ea E 0 0 0), .int a] xm ym om xm' ym om (some (.int v))) : bd_CL l yL_advise cL_advise 4 [(0, 9, 12, 25)] (fr + 1) (21 + lo) mc ms E [.ref (bd_ea E 0 0 0), .int a, .ref (bd_ea E 30 0 0)] xm ym om xm' ym (vp_updL om 0 v.toInt64) 0 := by
  refine bd_openL RL rfl rfl (Nat.le_of_ble_eq_true rfl) ?_
  intro p e s m args below meth c ls C Z N ht hr hlk hS hR hl
  have hx := C.1.1
  have hb := C.1.2.1
  have hl : lv_has ls 4 [(0, .ref (bd_ea E 0 0 0)), (1, .int a), (2, .ref (bd_ea E 30 0 0))] := hl
  refine lv_aload_n hx hb dL_advise_0 rfl (lv_at hl 2 rfl) ?_
  refine lv_iconst (v := 0) hx hb dL_advise_1 (by decide) ?_
  refine lv_aload_n hx hb dL_advise_2 rfl (lv_at hl 0 rfl) ?_
  refine lv_iload_n hx hb dL_advise_3 rfl (lv_at hl 1 rfl) ?_
  refine bd_cV1 [.int a] [.int 0, .ref (bd_ea E 30 0 0)] C hM hR hS (bd_recv C.2 hR ⟨by decide, (by decide), (by decide)⟩ rfl rfl) qm_L_65 qi_X5_advise qs_X5_advise qz_X5 qc_X5_advise qp_X5_advise ⟨Nat.le_refl _, Nat.le_refl _⟩ hl.1 (Nat.le_of_ble_eq_true rfl) dL_advise_4 ⟨by show 0 + mc ≤ mc; omega, by show 0 + ms ≤ ms; omega⟩ (fun H locs hR hS hz => ?_)
  refine lv_i2l (v := v.toInt64) hx hb dL_advise_7 rfl ?_
  refine bd_stO C hR hS dL_advise_8 (fun H locs hR hS => ?_)
  refine lv_goto (tgt := 15) hx hb dL_advise_9 (by decide) ?_
  refine lv_iconst (v := 0) hx hb dL_advise_15 (by decide) ?_
  exact bd_ri C hr hlk hR hS (by omega) (by omega) dL_advise_16 rfl

set_option maxHeartbeats 4000000 in
set_option maxRecDepth 100000 in
theorem k_L_advise_x1 (l : Launch) (E : bd_E) (xm ym : bd_M) (om : Nat → Int64) (a : Int32) {fr lo mc ms : Nat} (hM : bd_Xt l yX5_advise cX5_advise 2 (some .int) fr lo mc ms E [.ref (bd_ea E 0 0 0), .int a] xm ym om "java/lang/IndexOutOfBoundsException") : bd_CL l yL_advise cL_advise 4 [(0, 9, 12, 25)] (fr + 1) (21 + lo) mc ms E [.ref (bd_ea E 0 0 0), .int a, .ref (bd_ea E 30 0 0)] xm ym om xm ym om 1 := by
  refine bd_openL RL rfl rfl (Nat.le_of_ble_eq_true rfl) ?_
  intro p e s m args below meth c ls C Z N ht hr hlk hS hR hl
  have hx := C.1.1
  have hb := C.1.2.1
  have hl : lv_has ls 4 [(0, .ref (bd_ea E 0 0 0)), (1, .int a), (2, .ref (bd_ea E 30 0 0))] := hl
  refine lv_aload_n hx hb dL_advise_0 rfl (lv_at hl 2 rfl) ?_
  refine lv_iconst (v := 0) hx hb dL_advise_1 (by decide) ?_
  refine lv_aload_n hx hb dL_advise_2 rfl (lv_at hl 0 rfl) ?_
  refine lv_iload_n hx hb dL_advise_3 rfl (lv_at hl 1 rfl) ?_
  refine bd_xC [.int a] [.int 0, .ref (bd_ea E 30 0 0)] C Z hM hR hS (bd_recv C.2 hR ⟨by decide, (by decide), (by decide)⟩ rfl rfl) qm_L_65 qi_X5_advise qs_X5_advise qz_X5 qc_X5_advise qp_X5_advise ⟨Nat.le_refl _, Nat.le_refl _⟩ hl.1 (Nat.le_of_ble_eq_true rfl) dL_advise_4 ⟨by show 0 + mc ≤ mc; omega, by show 0 + ms ≤ ms; omega⟩ (fun H locs q9 ce hR hS hce hcv hcl => ?_)
  refine vx_catch (own := RL) (name := "java/lang/IndexOutOfBoundsException") (E := "java/lang/IndexOutOfBoundsException") C.1.2.2.2.1 [] ⟨0, 9, 12, 25⟩ [] ht (fun z hz => absurd hz List.not_mem_nil) rfl (by decide) (C.1.2.2.2.2 _ qk_L_25) (va_Nw.use (bd_BX_t _ (List.mem_of_getElem? (i := 5) rfl)) (Z.2.2.1 _ (List.mem_of_getElem? (i := 5) rfl))) hce hcv hcl ?_
  refine lv_astore_n (lv' := [(3, .ref q9), (0, .ref (bd_ea E 0 0 0)), (1, .int a), (2, .ref (bd_ea E 30 0 0))]) hx hb dL_advise_12 rfl hl (by decide) rfl (fun ls hl => ?_)
  refine lv_iconst (v := 1) hx hb dL_advise_13 (by decide) ?_
  exact bd_ri C hr hlk hR hS (by omega) (by omega) dL_advise_14 rfl

set_option maxHeartbeats 4000000 in
set_option maxRecDepth 100000 in
theorem k_L_free_ok (l : Launch) (E : bd_E) (xm ym xm' : bd_M) (om : Nat → Int64) (a : Int32) {fr lo mc ms : Nat} {v : Int32} (hM : bd_Ct l yX5_free cX5_free 2 (some .int) fr lo mc ms E [.ref (bd_ea E 0 0 0), .int a] xm ym om xm' ym om (some (.int v))) : bd_CL l yL_free cL_free 4 [(0, 9, 12, 25)] (fr + 1) (21 + lo) mc ms E [.ref (bd_ea E 0 0 0), .int a, .ref (bd_ea E 30 0 0)] xm ym om xm' ym (vp_updL om 0 v.toInt64) 0 := by
  refine bd_openL RL rfl rfl (Nat.le_of_ble_eq_true rfl) ?_
  intro p e s m args below meth c ls C Z N ht hr hlk hS hR hl
  have hx := C.1.1
  have hb := C.1.2.1
  have hl : lv_has ls 4 [(0, .ref (bd_ea E 0 0 0)), (1, .int a), (2, .ref (bd_ea E 30 0 0))] := hl
  refine lv_aload_n hx hb dL_free_0 rfl (lv_at hl 2 rfl) ?_
  refine lv_iconst (v := 0) hx hb dL_free_1 (by decide) ?_
  refine lv_aload_n hx hb dL_free_2 rfl (lv_at hl 0 rfl) ?_
  refine lv_iload_n hx hb dL_free_3 rfl (lv_at hl 1 rfl) ?_
  refine bd_cV1 [.int a] [.int 0, .ref (bd_ea E 30 0 0)] C hM hR hS (bd_recv C.2 hR ⟨by decide, (by decide), (by decide)⟩ rfl rfl) qm_L_68 qi_X5_free qs_X5_free qz_X5 qc_X5_free qp_X5_free ⟨Nat.le_refl _, Nat.le_refl _⟩ hl.1 (Nat.le_of_ble_eq_true rfl) dL_free_4 ⟨by show 0 + mc ≤ mc; omega, by show 0 + ms ≤ ms; omega⟩ (fun H locs hR hS hz => ?_)
  refine lv_i2l (v := v.toInt64) hx hb dL_free_7 rfl ?_
  refine bd_stO C hR hS dL_free_8 (fun H locs hR hS => ?_)
  refine lv_goto (tgt := 15) hx hb dL_free_9 (by decide) ?_
  refine lv_iconst (v := 0) hx hb dL_free_15 (by decide) ?_
  exact bd_ri C hr hlk hR hS (by omega) (by omega) dL_free_16 rfl

set_option maxHeartbeats 4000000 in
set_option maxRecDepth 100000 in
theorem k_L_free_x1 (l : Launch) (E : bd_E) (xm ym : bd_M) (om : Nat → Int64) (a : Int32) {fr lo mc ms : Nat} (hM : bd_Xt l yX5_free cX5_free 2 (some .int) fr lo mc ms E [.ref (bd_ea E 0 0 0), .int a] xm ym om "java/lang/IndexOutOfBoundsException") : bd_CL l yL_free cL_free 4 [(0, 9, 12, 25)] (fr + 1) (21 + lo) mc ms E [.ref (bd_ea E 0 0 0), .int a, .ref (bd_ea E 30 0 0)] xm ym om xm ym om 1 := by
  refine bd_openL RL rfl rfl (Nat.le_of_ble_eq_true rfl) ?_
  intro p e s m args below meth c ls C Z N ht hr hlk hS hR hl
  have hx := C.1.1
  have hb := C.1.2.1
  have hl : lv_has ls 4 [(0, .ref (bd_ea E 0 0 0)), (1, .int a), (2, .ref (bd_ea E 30 0 0))] := hl
  refine lv_aload_n hx hb dL_free_0 rfl (lv_at hl 2 rfl) ?_
  refine lv_iconst (v := 0) hx hb dL_free_1 (by decide) ?_
  refine lv_aload_n hx hb dL_free_2 rfl (lv_at hl 0 rfl) ?_
  refine lv_iload_n hx hb dL_free_3 rfl (lv_at hl 1 rfl) ?_
  refine bd_xC [.int a] [.int 0, .ref (bd_ea E 30 0 0)] C Z hM hR hS (bd_recv C.2 hR ⟨by decide, (by decide), (by decide)⟩ rfl rfl) qm_L_68 qi_X5_free qs_X5_free qz_X5 qc_X5_free qp_X5_free ⟨Nat.le_refl _, Nat.le_refl _⟩ hl.1 (Nat.le_of_ble_eq_true rfl) dL_free_4 ⟨by show 0 + mc ≤ mc; omega, by show 0 + ms ≤ ms; omega⟩ (fun H locs q9 ce hR hS hce hcv hcl => ?_)
  refine vx_catch (own := RL) (name := "java/lang/IndexOutOfBoundsException") (E := "java/lang/IndexOutOfBoundsException") C.1.2.2.2.1 [] ⟨0, 9, 12, 25⟩ [] ht (fun z hz => absurd hz List.not_mem_nil) rfl (by decide) (C.1.2.2.2.2 _ qk_L_25) (va_Nw.use (bd_BX_t _ (List.mem_of_getElem? (i := 5) rfl)) (Z.2.2.1 _ (List.mem_of_getElem? (i := 5) rfl))) hce hcv hcl ?_
  refine lv_astore_n (lv' := [(3, .ref q9), (0, .ref (bd_ea E 0 0 0)), (1, .int a), (2, .ref (bd_ea E 30 0 0))]) hx hb dL_free_12 rfl hl (by decide) rfl (fun ls hl => ?_)
  refine lv_iconst (v := 1) hx hb dL_free_13 (by decide) ?_
  exact bd_ri C hr hlk hR hS (by omega) (by omega) dL_free_14 rfl

