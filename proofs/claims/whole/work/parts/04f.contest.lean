/-! A CONTEST OF THE REFERENCE -/
set_option maxHeartbeats 4000000 in
set_option maxRecDepth 100000 in
theorem k_X6_play (l : Launch) (E : bd_E) (xm ym : bd_M) (om : Nat → Int64) (w : Nat) (n : Nat) (nb : Nat) (z : (Nat→Nat)) (b : Nat) (hw : w < 2) (hy : ry_Sh ym n nb z) (hb : b < nb) (hm : ry_Mb ym w n nb z) : bd_Ct l yX6_play cX6_play 12 none 2 52 1 4 E [.ref (bd_ea E 18 w 0), .int (nI b)] xm ym om xm (ry_play ym w n b (z b)) om (none) := by
  refine bd_open RX6 rfl (by decide) (Nat.le_of_ble_eq_true rfl) ?_
  intro p e s m args below meth c ls C hr hlk hS hR hl
  have hx := C.1.1
  have hb := C.1.2.1
  have hy24 := hy.2.1
  have hy6 := hy.2.2.2.1
  have z8 := (hy.2.2.2.2.1 b (by omega)).2
  have hyO := hy
  have hl : lv_has ls 12 [(0, .ref (bd_ea E 18 w 0)), (1, .int (nI b))] := hl
  refine lv_bipush (v := 8) hx hb dX6_play_0 (by decide) ?_
  refine lv_iload_n hx hb dX6_play_2 rfl (lv_at hl 1 rfl) ?_
  refine lv_imul hx hb dX6_play_3 ?_
  refine bd_ti (j := 8 * b) (pk_mul 8 b) ?_
  refine lv_istore_n (lv' := [(2, .int (nI (8 * b))), (0, .ref (bd_ea E 18 w 0)), (1, .int (nI b))]) hx hb dX6_play_4 rfl hl (by decide) rfl (fun ls hl => ?_)
  refine lv_iload_n hx hb dX6_play_5 rfl (lv_at hl 0 rfl) ?_
  refine lv_aload_n hx hb dX6_play_6 rfl (lv_at hl 1 rfl) ?_
  refine bd_g_X6_this_0 C hR (by omega) qf_X6_3 dX6_play_7 ?_
  refine bd_gN_X7_seats C hR  (List.mem_of_getElem? (i := 14) rfl) dX6_play_10 ?_
  refine lv_iload_n hx hb dX6_play_13 rfl (lv_at hl 2 rfl) ?_
  refine bd_ld_14 C hR  (j := b) (by omega) dX6_play_14 ?_
  have zz14 := ((show ry_Sh ym n nb z from hy).2.2.2.2.1 b (by omega)).2
  rw [show ym 14 0 b = nI (z b) from ((show ry_Sh ym n nb z from hy).2.2.2.2.1 b (by omega)).1]
  refine lv_iadd hx hb dX6_play_15 ?_
  refine bd_ti (j := (8 * b) + (z b)) (nI_add (8 * b) (z b)) ?_
  refine lv_istore_n (lv' := [(3, .int (nI ((8 * b) + (z b)))), (2, .int (nI (8 * b))), (0, .ref (bd_ea E 18 w 0)), (1, .int (nI b))]) hx hb dX6_play_16 rfl hl (by decide) rfl (fun ls hl => ?_)
  refine lv_iconst (v := 0) hx hb dX6_play_17 (by decide) ?_
  refine lv_istore (lv' := [(4, .int 0), (3, .int (nI ((8 * b) + (z b)))), (2, .int (nI (8 * b))), (0, .ref (bd_ea E 18 w 0)), (1, .int (nI b))]) hx hb dX6_play_18 hl (by decide) rfl (fun ls hl => ?_)
  refine lv_iconst (v := 0) hx hb dX6_play_20 (by decide) ?_
  refine lv_istore (lv' := [(5, .int 0), (4, .int 0), (3, .int (nI ((8 * b) + (z b)))), (2, .int (nI (8 * b))), (0, .ref (bd_ea E 18 w 0)), (1, .int (nI b))]) hx hb dX6_play_21 hl (by decide) rfl (fun ls hl => ?_)
  refine lv_iload_n hx hb dX6_play_23 rfl (lv_at hl 3 rfl) ?_
  refine lv_istore (lv' := [(6, .int (nI (8 * b))), (5, .int 0), (4, .int 0), (3, .int (nI ((8 * b) + (z b)))), (2, .int (nI (8 * b))), (0, .ref (bd_ea E 18 w 0)), (1, .int (nI b))]) hx hb dX6_play_24 hl (by decide) rfl (fun ls hl => ?_)
  have lp1 : ∀ (t1 j : Nat), j ≤ z b → (z b) - j < t1 → ∀ (H : Heap) (locs : List Loc), bd_Rep E xm (ry_pA ym w b j) om H → va_S (bd_A E) s.heap H locs → ∀ (ls : Array Slot), lv_has ls 12 [(6, .int (nI (8 * b + j))), (5, .int 0), (4, .int 0), (3, .int (nI ((8 * b) + (z b)))), (2, .int (nI (8 * b))), (0, .ref (bd_ea E 18 w 0)), (1, .int (nI b))] → W p l e { frames := 2, cells := 1, slots := 4, locals := 52 } s m args below meth c H locs 0 0 (MQ below (bd_Q E xm (ry_play ym w n b (z b)) om (none)) args s 1 4 (bd_A E)) (F0 m 26 ls []) := by
    intro t1
    induction t1 with
    | zero => intro j h1 h2; exact absurd h2 (Nat.not_lt_zero _)
    | succ t1 ih1 =>
      intro j hj1 hj2 H locs hR hS ls hl
      refine lv_iload hx hb dX6_play_26 (lv_at hl 0 rfl) ?_
      refine lv_iload_n hx hb dX6_play_28 rfl (lv_at hl 3 rfl) ?_
      refine lv_icmp_ge (tgt := 82) hx hb dX6_play_29 (by decide) (fun c29 => ?_) (fun c29 => ?_)
      · skip
        have nc29 : ((8 * b) + (z b)) ≤ (8 * b + j) := (nI_leI (a := ((8 * b) + (z b))) (b := (8 * b + j)) (by omega) (by omega)).mp c29
        obtain rfl : z b = j := by omega
        refine lv_iconst (v := 0) hx hb dX6_play_82 (by decide) ?_
        refine lv_istore (lv' := [(6, .int 0), (5, .int 0), (4, .int 0), (3, .int (nI ((8 * b) + (z b)))), (2, .int (nI (8 * b))), (0, .ref (bd_ea E 18 w 0)), (1, .int (nI b))]) hx hb dX6_play_83 hl (by decide) rfl (fun ls hl => ?_)
        refine lv_iload_n hx hb dX6_play_85 rfl (lv_at hl 4 rfl) ?_
        refine lv_istore (lv' := [(7, .int (nI (8 * b))), (6, .int 0), (5, .int 0), (4, .int 0), (3, .int (nI ((8 * b) + (z b)))), (2, .int (nI (8 * b))), (0, .ref (bd_ea E 18 w 0)), (1, .int (nI b))]) hx hb dX6_play_86 hl (by decide) rfl (fun ls hl => ?_)
        have lp2 : ∀ (t2 j : Nat), j ≤ z b → (z b) - j < t2 → ∀ (H : Heap) (locs : List Loc), bd_Rep E xm (ry_pA ym w b (z b)) om H → va_S (bd_A E) s.heap H locs → ∀ (ls : Array Slot), lv_has ls 12 [(7, .int (nI (8 * b + j))), (6, .int (ry_pB (ry_pA ym w b (z b)) w b j)), (5, .int 0), (4, .int 0), (3, .int (nI ((8 * b) + (z b)))), (2, .int (nI (8 * b))), (0, .ref (bd_ea E 18 w 0)), (1, .int (nI b))] → W p l e { frames := 2, cells := 1, slots := 4, locals := 52 } s m args below meth c H locs 0 0 (MQ below (bd_Q E xm (ry_play ym w n b (z b)) om (none)) args s 1 4 (bd_A E)) (F0 m 88 ls []) := by
          intro t2
          induction t2 with
          | zero => intro j h1 h2; exact absurd h2 (Nat.not_lt_zero _)
          | succ t2 ih2 =>
            intro j hj1 hj2 H locs hR hS ls hl
            refine lv_iload hx hb dX6_play_88 (lv_at hl 0 rfl) ?_
            refine lv_iload_n hx hb dX6_play_90 rfl (lv_at hl 4 rfl) ?_
            refine lv_icmp_ge (tgt := 121) hx hb dX6_play_91 (by decide) (fun c91 => ?_) (fun c91 => ?_)
            · skip
              have nc91 : ((8 * b) + (z b)) ≤ (8 * b + j) := (nI_leI (a := ((8 * b) + (z b))) (b := (8 * b + j)) (by omega) (by omega)).mp c91
              obtain rfl : z b = j := by omega
              refine lv_iload_n hx hb dX6_play_121 rfl (lv_at hl 5 rfl) ?_
              refine lv_istore (lv' := [(7, .int (nI (8 * b))), (6, .int (ry_pB (ry_pA ym w b (z b)) w b (z b))), (5, .int 0), (4, .int 0), (3, .int (nI ((8 * b) + (z b)))), (2, .int (nI (8 * b))), (0, .ref (bd_ea E 18 w 0)), (1, .int (nI b))]) hx hb dX6_play_122 hl (by decide) rfl (fun ls hl => ?_)
              have lp3 : ∀ (t3 j : Nat), j ≤ z b → (z b) - j < t3 → ∀ (H : Heap) (locs : List Loc), bd_Rep E xm ((ry_pC (ry_pA ym w b (z b)) w n b (z b) j).1) om H → va_S (bd_A E) s.heap H locs → ∀ (ls : Array Slot), lv_has ls 12 [(7, .int (nI (8 * b + j))), (6, .int (ry_pB (ry_pA ym w b (z b)) w b (z b))), (5, .int ((ry_pC (ry_pA ym w b (z b)) w n b (z b) j).2.2)), (4, .int ((ry_pC (ry_pA ym w b (z b)) w n b (z b) j).2.1)), (3, .int (nI ((8 * b) + (z b)))), (2, .int (nI (8 * b))), (0, .ref (bd_ea E 18 w 0)), (1, .int (nI b))] → W p l e { frames := 2, cells := 1, slots := 4, locals := 52 } s m args below meth c H locs 0 0 (MQ below (bd_Q E xm (ry_play ym w n b (z b)) om (none)) args s 1 4 (bd_A E)) (F0 m 124 ls []) := by
                intro t3
                induction t3 with
                | zero => intro j h1 h2; exact absurd h2 (Nat.not_lt_zero _)
                | succ t3 ih3 =>
                  intro j hj1 hj2 H locs hR hS ls hl
                  refine lv_iload hx hb dX6_play_124 (lv_at hl 0 rfl) ?_
                  refine lv_iload_n hx hb dX6_play_126 rfl (lv_at hl 4 rfl) ?_
                  refine lv_icmp_ge (tgt := 216) hx hb dX6_play_127 (by decide) (fun c127 => ?_) (fun c127 => ?_)
                  · skip
                    have nc127 : ((8 * b) + (z b)) ≤ (8 * b + j) := (nI_leI (a := ((8 * b) + (z b))) (b := (8 * b + j)) (by omega) (by omega)).mp c127
                    obtain rfl : z b = j := by omega
                    refine lv_iload hx hb dX6_play_216 (lv_at hl 1 rfl) ?_
                    refine lv_aload_n hx hb dX6_play_218 rfl (lv_at hl 6 rfl) ?_
                    refine bd_g_X6_spirit C hR (by omega) qf_X6_34 dX6_play_219 ?_
                    refine lv_iload_n hx hb dX6_play_222 rfl (lv_at hl 7 rfl) ?_
                    refine bd_ld_25 C hR (by omega) (j := b) (by omega) dX6_play_223 ?_
                    refine lv_iconst (v := 5) hx hb dX6_play_224 (by decide) ?_
                    refine lv_idiv hx hb dX6_play_225 (by decide) ?_
                    refine lv_iadd hx hb dX6_play_226 ?_
                    refine lv_iconst (v := 5) hx hb dX6_play_227 (by decide) ?_
                    refine lv_iload hx hb dX6_play_228 (lv_at hl 2 rfl) ?_
                    refine lv_imul hx hb dX6_play_230 ?_
                    refine lv_isub hx hb dX6_play_231 ?_
                    rw [show (((ry_pB (ry_pA ym w b (z b)) w b (z b)) + ((((ry_pC (ry_pA ym w b (z b)) w n b (z b) (z b)).1) 25 w b) / 5)) - (5 * ((ry_pC (ry_pA ym w b (z b)) w n b (z b) (z b)).2.2)) : Int32) = ry_m0 (ry_pA ym w b (z b)) w b (z b) (ry_pC (ry_pA ym w b (z b)) w n b (z b) (z b)) from rfl]
                    refine lv_istore (lv' := [(7, .int (ry_m0 (ry_pA ym w b (z b)) w b (z b) (ry_pC (ry_pA ym w b (z b)) w n b (z b) (z b)))), (6, .int (ry_pB (ry_pA ym w b (z b)) w b (z b))), (5, .int ((ry_pC (ry_pA ym w b (z b)) w n b (z b) (z b)).2.2)), (4, .int ((ry_pC (ry_pA ym w b (z b)) w n b (z b) (z b)).2.1)), (3, .int (nI ((8 * b) + (z b)))), (2, .int (nI (8 * b))), (0, .ref (bd_ea E 18 w 0)), (1, .int (nI b))]) hx hb dX6_play_232 hl (by decide) rfl (fun ls hl => ?_)
                    refine lv_iload_n hx hb dX6_play_234 rfl (lv_at hl 5 rfl) ?_
                    refine lv_istore (lv' := [(8, .int (nI (8 * b))), (7, .int (ry_m0 (ry_pA ym w b (z b)) w b (z b) (ry_pC (ry_pA ym w b (z b)) w n b (z b) (z b)))), (6, .int (ry_pB (ry_pA ym w b (z b)) w b (z b))), (5, .int ((ry_pC (ry_pA ym w b (z b)) w n b (z b) (z b)).2.2)), (4, .int ((ry_pC (ry_pA ym w b (z b)) w n b (z b) (z b)).2.1)), (3, .int (nI ((8 * b) + (z b)))), (2, .int (nI (8 * b))), (0, .ref (bd_ea E 18 w 0)), (1, .int (nI b))]) hx hb dX6_play_235 hl (by decide) rfl (fun ls hl => ?_)
                    have lp4 : ∀ (t4 j : Nat), j ≤ z b → (z b) - j < t4 → ∀ (H : Heap) (locs : List Loc), bd_Rep E xm ((ry_pC (ry_pA ym w b (z b)) w n b (z b) (z b)).1) om H → va_S (bd_A E) s.heap H locs → ∀ (ls : Array Slot), lv_has ls 12 [(8, .int (nI (8 * b + j))), (7, .int (ry_pD ((ry_pC (ry_pA ym w b (z b)) w n b (z b) (z b)).1) w b (ry_m0 (ry_pA ym w b (z b)) w b (z b) (ry_pC (ry_pA ym w b (z b)) w n b (z b) (z b))) j)), (6, .int (ry_pB (ry_pA ym w b (z b)) w b (z b))), (5, .int ((ry_pC (ry_pA ym w b (z b)) w n b (z b) (z b)).2.2)), (4, .int ((ry_pC (ry_pA ym w b (z b)) w n b (z b) (z b)).2.1)), (3, .int (nI ((8 * b) + (z b)))), (2, .int (nI (8 * b))), (0, .ref (bd_ea E 18 w 0)), (1, .int (nI b))] → W p l e { frames := 2, cells := 1, slots := 4, locals := 52 } s m args below meth c H locs 0 0 (MQ below (bd_Q E xm (ry_play ym w n b (z b)) om (none)) args s 1 4 (bd_A E)) (F0 m 237 ls []) := by
                      intro t4
                      induction t4 with
                      | zero => intro j h1 h2; exact absurd h2 (Nat.not_lt_zero _)
                      | succ t4 ih4 =>
                        intro j hj1 hj2 H locs hR hS ls hl
                        refine lv_iload hx hb dX6_play_237 (lv_at hl 0 rfl) ?_
                        refine lv_iload_n hx hb dX6_play_239 rfl (lv_at hl 5 rfl) ?_
                        refine lv_icmp_ge (tgt := 354) hx hb dX6_play_240 (by decide) (fun c240 => ?_) (fun c240 => ?_)
                        · skip
                          have nc240 : ((8 * b) + (z b)) ≤ (8 * b + j) := (nI_leI (a := ((8 * b) + (z b))) (b := (8 * b + j)) (by omega) (by omega)).mp c240
                          obtain rfl : z b = j := by omega
                          refine lv_iload hx hb dX6_play_354 (lv_at hl 4 rfl) ?_
                          refine lv_iconst (v := 3) hx hb dX6_play_356 (by decide) ?_
                          refine lv_icmp_le (tgt := 364) hx hb dX6_play_357 (by decide) (fun c357 => ?_) (fun c357 => ?_)
                          · skip
                            refine lv_iconst (v := 0) hx hb dX6_play_364 (by decide) ?_
                            refine lv_istore (lv' := [(8, .int 0), (7, .int (ry_pD ((ry_pC (ry_pA ym w b (z b)) w n b (z b) (z b)).1) w b (ry_m0 (ry_pA ym w b (z b)) w b (z b) (ry_pC (ry_pA ym w b (z b)) w n b (z b) (z b))) (z b))), (6, .int (ry_pB (ry_pA ym w b (z b)) w b (z b))), (5, .int ((ry_pC (ry_pA ym w b (z b)) w n b (z b) (z b)).2.2)), (4, .int ((ry_pC (ry_pA ym w b (z b)) w n b (z b) (z b)).2.1)), (3, .int (nI ((8 * b) + (z b)))), (2, .int (nI (8 * b))), (0, .ref (bd_ea E 18 w 0)), (1, .int (nI b))]) hx hb dX6_play_365 hl (by decide) rfl (fun ls hl => ?_)
                            refine lv_iconst (v := 4) hx hb dX6_play_367 (by decide) ?_
                            refine bd_tnew (n := 4) C hR hS (by omega) ⟨by show 0 + 1 ≤ 1; omega, by show 0 + 4 ≤ 4; omega⟩ dX6_play_368 (fun q5 H hR hT hS => ?_)
                            refine lv_dup hx hb dX6_play_370 rfl ?_
                            refine lv_iconst (v := 0) hx hb dX6_play_371 (by decide) ?_
                            refine lv_iload hx hb dX6_play_372 (lv_at hl 0 rfl) ?_
                            refine lv_if_eq (tgt := 381) hx hb dX6_play_374 (by decide) (fun _ => ?_) (fun q9 => absurd rfl q9)
                            refine lv_iconst (v := 0) hx hb dX6_play_381 (by decide) ?_
                            refine lv_iload hx hb dX6_play_382 (lv_at hl 1 rfl) ?_
                            refine bd_max C hl.1 qm_X6_95 ⟨Nat.le_of_ble_eq_true rfl, Nat.le_of_ble_eq_true rfl⟩ ⟨by show (0 + 1) + 0 ≤ 1; omega, by show (0 + 4) + 0 ≤ 4; omega⟩ dX6_play_384 ?_
                            refine bd_ti2 (j := 0) rfl ?_
                            refine bd_tst (j := 0) C hR hT hS (by omega) (by omega) dX6_play_387 (fun H locs hR hT hS => ?_)
                            refine lv_dup hx hb dX6_play_388 rfl ?_
                            refine lv_iconst (v := 1) hx hb dX6_play_389 (by decide) ?_
                            refine lv_iconst (v := (-1)) hx hb dX6_play_390 (by decide) ?_
                            refine bd_ti2 (j := 1) rfl ?_
                            refine bd_tst (j := 1) C hR hT hS (by omega) (by omega) dX6_play_391 (fun H locs hR hT hS => ?_)
                            refine lv_dup hx hb dX6_play_392 rfl ?_
                            refine lv_iconst (v := 2) hx hb dX6_play_393 (by decide) ?_
                            refine lv_iload hx hb dX6_play_394 (lv_at hl 4 rfl) ?_
                            refine bd_ti2 (j := 2) rfl ?_
                            refine bd_tst (j := 2) C hR hT hS (by omega) (by omega) dX6_play_396 (fun H locs hR hT hS => ?_)
                            refine lv_dup hx hb dX6_play_397 rfl ?_
                            refine lv_iconst (v := 3) hx hb dX6_play_398 (by decide) ?_
                            refine lv_iload hx hb dX6_play_399 (lv_at hl 3 rfl) ?_
                            refine bd_ti2 (j := 3) rfl ?_
                            refine bd_tst (j := 3) C hR hT hS (by omega) (by omega) dX6_play_401 (fun H locs hR hT hS => ?_)
                            refine lv_astore (lv' := [(9, .ref q5), (8, .int 0), (7, .int (ry_pD ((ry_pC (ry_pA ym w b (z b)) w n b (z b) (z b)).1) w b (ry_m0 (ry_pA ym w b (z b)) w b (z b) (ry_pC (ry_pA ym w b (z b)) w n b (z b) (z b))) (z b))), (6, .int (ry_pB (ry_pA ym w b (z b)) w b (z b))), (5, .int ((ry_pC (ry_pA ym w b (z b)) w n b (z b) (z b)).2.2)), (4, .int ((ry_pC (ry_pA ym w b (z b)) w n b (z b) (z b)).2.1)), (3, .int (nI ((8 * b) + (z b)))), (2, .int (nI (8 * b))), (0, .ref (bd_ea E 18 w 0)), (1, .int (nI b))]) hx hb dX6_play_402 hl (by decide) rfl (fun ls hl => ?_)
                            refine lv_aload hx hb dX6_play_404 (lv_at hl 0 rfl) ?_
                            refine lv_iconst (v := 0) hx hb dX6_play_406 (by decide) ?_
                            refine lv_aload_n hx hb dX6_play_407 rfl (lv_at hl 8 rfl) ?_
                            refine bd_g_X6_latest C hR (by omega) qf_X6_43 dX6_play_408 ?_
                            refine lv_iconst (v := 4) hx hb dX6_play_411 (by decide) ?_
                            refine lv_iload_n hx hb dX6_play_412 rfl (lv_at hl 9 rfl) ?_
                            refine lv_imul hx hb dX6_play_413 ?_
                            refine bd_ti (j := 4 * b) (pk_mul 4 b) ?_
                            refine lv_iconst (v := 4) hx hb dX6_play_414 (by decide) ?_
                            refine bd_tcp (n := 4) (dp := (4 * b)) C hR hT hS hl.1 qm_X6_49 (f2 := 28) ⟨by decide, show w < 2 by omega, (by decide)⟩ rfl (by omega) (by omega) (by omega) (by omega) bd_ro28 ⟨Nat.le_of_ble_eq_true rfl, Nat.le_of_ble_eq_true rfl⟩ dX6_play_415 (fun H locs hR hS => ?_)
                            have hR : bd_Rep E xm (ry_pT ((ry_pC (ry_pA ym w b (z b)) w n b (z b) (z b)).1) w b (ry_pD ((ry_pC (ry_pA ym w b (z b)) w n b (z b) (z b)).1) w b (ry_m0 (ry_pA ym w b (z b)) w b (z b) (ry_pC (ry_pA ym w b (z b)) w n b (z b) (z b))) (z b)) (ry_pC (ry_pA ym w b (z b)) w n b (z b) (z b)).2.1 (ry_pC (ry_pA ym w b (z b)) w n b (z b) (z b)).2.2) om H := hR.eq rfl (by rw [ry_pT, if_pos c357])
                            refine lv_aload_n hx hb dX6_play_418 rfl (lv_at hl 8 rfl) ?_
                            refine bd_g_X6_outs C hR (by omega) qf_X6_40 dX6_play_419 ?_
                            refine lv_iload_n hx hb dX6_play_422 rfl (lv_at hl 9 rfl) ?_
                            refine lv_dup2_11 hx hb dX6_play_423 rfl rfl ?_
                            refine bd_ld_27 C hR (by omega) (j := b) (by omega) dX6_play_424 ?_
                            refine lv_iload hx hb dX6_play_425 (lv_at hl 1 rfl) ?_
                            refine lv_if_eq (tgt := 434) hx hb dX6_play_427 (by decide) (fun _ => ?_) (fun q9 => absurd rfl q9)
                            refine lv_iconst (v := 0) hx hb dX6_play_434 (by decide) ?_
                            refine lv_iadd hx hb dX6_play_435 ?_
                            refine bd_st_27 C hR hS (by omega) (j := b) (by omega) dX6_play_436 (fun H locs hR hS => ?_)
                            have hR : bd_Rep E xm (ry_pO (ry_pT ((ry_pC (ry_pA ym w b (z b)) w n b (z b) (z b)).1) w b (ry_pD ((ry_pC (ry_pA ym w b (z b)) w n b (z b) (z b)).1) w b (ry_m0 (ry_pA ym w b (z b)) w b (z b) (ry_pC (ry_pA ym w b (z b)) w n b (z b) (z b))) (z b)) (ry_pC (ry_pA ym w b (z b)) w n b (z b) (z b)).2.1 (ry_pC (ry_pA ym w b (z b)) w n b (z b) (z b)).2.2) w b (ry_pC (ry_pA ym w b (z b)) w n b (z b) (z b)).2.1) om H := hR.eq rfl (by rw [ry_pO, if_pos c357])
                            refine lv_aload_n hx hb dX6_play_437 rfl (lv_at hl 8 rfl) ?_
                            refine lv_dup hx hb dX6_play_438 rfl ?_
                            refine bd_g_X6_deputies C hR (by omega) qf_X6_59 dX6_play_439 ?_
                            refine lv_iload hx hb dX6_play_442 (lv_at hl 5 rfl) ?_
                            refine lv_iadd hx hb dX6_play_444 ?_
                            refine bd_p_X6_deputies C hR hS (by omega) qf_X6_59 dX6_play_445 (fun H locs hR hS => ?_)
                            refine lv_aload_n hx hb dX6_play_448 rfl (lv_at hl 8 rfl) ?_
                            refine lv_dup hx hb dX6_play_449 rfl ?_
                            refine bd_g_X6_empties C hR (by omega) qf_X6_62 dX6_play_450 ?_
                            refine lv_iload hx hb dX6_play_453 (lv_at hl 4 rfl) ?_
                            refine lv_iadd hx hb dX6_play_455 ?_
                            refine bd_p_X6_empties C hR hS (by omega) qf_X6_62 dX6_play_456 (fun H locs hR hS => ?_)
                            have hR : bd_Rep E xm (ry_pF (ry_pO (ry_pT ((ry_pC (ry_pA ym w b (z b)) w n b (z b) (z b)).1) w b (ry_pD ((ry_pC (ry_pA ym w b (z b)) w n b (z b) (z b)).1) w b (ry_m0 (ry_pA ym w b (z b)) w b (z b) (ry_pC (ry_pA ym w b (z b)) w n b (z b) (z b))) (z b)) (ry_pC (ry_pA ym w b (z b)) w n b (z b) (z b)).2.1 (ry_pC (ry_pA ym w b (z b)) w n b (z b) (z b)).2.2) w b (ry_pC (ry_pA ym w b (z b)) w n b (z b) (z b)).2.1) w (ry_pC (ry_pA ym w b (z b)) w n b (z b) (z b)).2.1 (ry_pC (ry_pA ym w b (z b)) w n b (z b) (z b)).2.2) om H := hR.eq rfl (by rfl)
                            refine lv_iconst (v := 0) hx hb dX6_play_459 (by decide) ?_
                            refine lv_istore (lv' := [(10, .int 0), (9, .ref q5), (8, .int 0), (7, .int (ry_pD ((ry_pC (ry_pA ym w b (z b)) w n b (z b) (z b)).1) w b (ry_m0 (ry_pA ym w b (z b)) w b (z b) (ry_pC (ry_pA ym w b (z b)) w n b (z b) (z b))) (z b))), (6, .int (ry_pB (ry_pA ym w b (z b)) w b (z b))), (5, .int ((ry_pC (ry_pA ym w b (z b)) w n b (z b) (z b)).2.2)), (4, .int ((ry_pC (ry_pA ym w b (z b)) w n b (z b) (z b)).2.1)), (3, .int (nI ((8 * b) + (z b)))), (2, .int (nI (8 * b))), (0, .ref (bd_ea E 18 w 0)), (1, .int (nI b))]) hx hb dX6_play_460 hl (by decide) rfl (fun ls hl => ?_)
                            have lp6 : ∀ (t6 j : Nat), j ≤ n → n - j < t6 → ∀ (H : Heap) (locs : List Loc), bd_Rep E xm (ry_pE (ry_pF (ry_pO (ry_pT ((ry_pC (ry_pA ym w b (z b)) w n b (z b) (z b)).1) w b (ry_pD ((ry_pC (ry_pA ym w b (z b)) w n b (z b) (z b)).1) w b (ry_m0 (ry_pA ym w b (z b)) w b (z b) (ry_pC (ry_pA ym w b (z b)) w n b (z b) (z b))) (z b)) (ry_pC (ry_pA ym w b (z b)) w n b (z b) (z b)).2.1 (ry_pC (ry_pA ym w b (z b)) w n b (z b) (z b)).2.2) w b (ry_pC (ry_pA ym w b (z b)) w n b (z b) (z b)).2.1) w (ry_pC (ry_pA ym w b (z b)) w n b (z b) (z b)).2.1 (ry_pC (ry_pA ym w b (z b)) w n b (z b) (z b)).2.2) w b (z b) j) om H → va_S (bd_A E) s.heap H locs → ∀ (ls : Array Slot), lv_has ls 12 [(10, .int (nI j)), (9, .ref q5), (8, .int 0), (7, .int (ry_pD ((ry_pC (ry_pA ym w b (z b)) w n b (z b) (z b)).1) w b (ry_m0 (ry_pA ym w b (z b)) w b (z b) (ry_pC (ry_pA ym w b (z b)) w n b (z b) (z b))) (z b))), (6, .int (ry_pB (ry_pA ym w b (z b)) w b (z b))), (5, .int ((ry_pC (ry_pA ym w b (z b)) w n b (z b) (z b)).2.2)), (4, .int ((ry_pC (ry_pA ym w b (z b)) w n b (z b) (z b)).2.1)), (3, .int (nI ((8 * b) + (z b)))), (2, .int (nI (8 * b))), (0, .ref (bd_ea E 18 w 0)), (1, .int (nI b))] → W p l e { frames := 2, cells := 1, slots := 4, locals := 52 } s m args below meth c H locs (0 + 1) (0 + 4) (MQ below (bd_Q E xm (ry_play ym w n b (z b)) om (none)) args s 1 4 (bd_A E)) (F0 m 462 ls []) := by
                              intro t6
                              induction t6 with
                              | zero => intro j h1 h2; exact absurd h2 (Nat.not_lt_zero _)
                              | succ t6 ih6 =>
                                intro j hj1 hj2 H locs hR hS ls hl
                                refine lv_iload hx hb dX6_play_462 (lv_at hl 0 rfl) ?_
                                refine lv_aload_n hx hb dX6_play_464 rfl (lv_at hl 9 rfl) ?_
                                refine bd_g_X6_this_0 C hR (by omega) qf_X6_3 dX6_play_465 ?_
                                refine bd_gN_X7_players C hR  (List.mem_of_getElem? (i := 17) rfl) dX6_play_468 ?_
                                rw [show (ry_pE (ry_pF (ry_pO (ry_pT ((ry_pC (ry_pA ym w b (z b)) w n b (z b) (z b)).1) w b (ry_pD ((ry_pC (ry_pA ym w b (z b)) w n b (z b) (z b)).1) w b (ry_m0 (ry_pA ym w b (z b)) w b (z b) (ry_pC (ry_pA ym w b (z b)) w n b (z b) (z b))) (z b)) (ry_pC (ry_pA ym w b (z b)) w n b (z b) (z b)).2.1 (ry_pC (ry_pA ym w b (z b)) w n b (z b) (z b)).2.2) w b (ry_pC (ry_pA ym w b (z b)) w n b (z b) (z b)).2.1) w (ry_pC (ry_pA ym w b (z b)) w n b (z b) (z b)).2.1 (ry_pC (ry_pA ym w b (z b)) w n b (z b) (z b)).2.2) w b (z b) j) 1 0 0 = nI n from (show ry_Sh (ry_pE (ry_pF (ry_pO (ry_pT ((ry_pC (ry_pA ym w b (z b)) w n b (z b) (z b)).1) w b (ry_pD ((ry_pC (ry_pA ym w b (z b)) w n b (z b) (z b)).1) w b (ry_m0 (ry_pA ym w b (z b)) w b (z b) (ry_pC (ry_pA ym w b (z b)) w n b (z b) (z b))) (z b)) (ry_pC (ry_pA ym w b (z b)) w n b (z b) (z b)).2.1 (ry_pC (ry_pA ym w b (z b)) w n b (z b) (z b)).2.2) w b (ry_pC (ry_pA ym w b (z b)) w n b (z b) (z b)).2.1) w (ry_pC (ry_pA ym w b (z b)) w n b (z b) (z b)).2.1 (ry_pC (ry_pA ym w b (z b)) w n b (z b) (z b)).2.2) w b (z b) j) n nb z from (ry_pE_sh (ry_pF_sh (ry_pO_sh (ry_pT_sh (ry_pC_sh (ry_pA_sh hyO (z b)) (z b))))) j)).1]
                                refine lv_icmp_ge (tgt := 553) hx hb dX6_play_471 (by decide) (fun c471 => ?_) (fun c471 => ?_)
                                · skip
                                  have nc471 : n ≤ j := (nI_leI (a := n) (b := j) (by omega) (by omega)).mp c471
                                  obtain rfl : n = j := by omega
                                  exact bd_rv C hr hlk (hR.eq rfl (by first | rfl | (rfl))) hS (by show (0 + 1) ≤ 1; omega) (by show (0 + 4) ≤ 4; omega) dX6_play_553
                                · skip
                                  have nc471 : ¬ n ≤ j := fun q9 => c471 ((nI_leI (a := n) (b := j) (by omega) (by omega)).mpr q9)
                                  refine lv_aload_n hx hb dX6_play_474 rfl (lv_at hl 9 rfl) ?_
                                  refine lv_iload_n hx hb dX6_play_475 rfl (lv_at hl 10 rfl) ?_
                                  refine lv_iload hx hb dX6_play_476 (lv_at hl 0 rfl) ?_
                                  refine bd_cV1 [.int (nI b), .int (nI j)] [] C (k_X6_sits l E xm (ry_pE (ry_pF (ry_pO (ry_pT ((ry_pC (ry_pA ym w b (z b)) w n b (z b) (z b)).1) w b (ry_pD ((ry_pC (ry_pA ym w b (z b)) w n b (z b) (z b)).1) w b (ry_m0 (ry_pA ym w b (z b)) w b (z b) (ry_pC (ry_pA ym w b (z b)) w n b (z b) (z b))) (z b)) (ry_pC (ry_pA ym w b (z b)) w n b (z b) (z b)).2.1 (ry_pC (ry_pA ym w b (z b)) w n b (z b) (z b)).2.2) w b (ry_pC (ry_pA ym w b (z b)) w n b (z b) (z b)).2.1) w (ry_pC (ry_pA ym w b (z b)) w n b (z b) (z b)).2.1 (ry_pC (ry_pA ym w b (z b)) w n b (z b) (z b)).2.2) w b (z b) j) om w n nb z b (nI j) (by omega) (ry_pE_sh (ry_pF_sh (ry_pO_sh (ry_pT_sh (ry_pC_sh (ry_pA_sh hyO (z b)) (z b))))) j) (by omega)) hR hS (bd_recv C.2 hR ⟨by decide, show w < 2 by omega, (by decide)⟩ rfl rfl) qm_X6_81 qi_X6_sits qs_X6_sits qz_X6 qc_X6_sits qp_X6_sits ⟨Nat.le_of_ble_eq_true rfl, Nat.le_of_ble_eq_true rfl⟩ hl.1 (Nat.le_of_ble_eq_true rfl) dX6_play_478 ⟨by show (0 + 1) + 0 ≤ 1; omega, by show (0 + 4) + 0 ≤ 4; omega⟩ (fun H locs hR hS hz478 => ?_)
                                  refine lv_istore (lv' := [(11, .int (if ry_in (ry_pE (ry_pF (ry_pO (ry_pT ((ry_pC (ry_pA ym w b (z b)) w n b (z b) (z b)).1) w b (ry_pD ((ry_pC (ry_pA ym w b (z b)) w n b (z b) (z b)).1) w b (ry_m0 (ry_pA ym w b (z b)) w b (z b) (ry_pC (ry_pA ym w b (z b)) w n b (z b) (z b))) (z b)) (ry_pC (ry_pA ym w b (z b)) w n b (z b) (z b)).2.1 (ry_pC (ry_pA ym w b (z b)) w n b (z b) (z b)).2.2) w b (ry_pC (ry_pA ym w b (z b)) w n b (z b) (z b)).2.1) w (ry_pC (ry_pA ym w b (z b)) w n b (z b) (z b)).2.1 (ry_pC (ry_pA ym w b (z b)) w n b (z b) (z b)).2.2) w b (z b) j) w b (nI j) (z b) = true then 1 else 0)), (10, .int (nI j)), (9, .ref q5), (8, .int 0), (7, .int (ry_pD ((ry_pC (ry_pA ym w b (z b)) w n b (z b) (z b)).1) w b (ry_m0 (ry_pA ym w b (z b)) w b (z b) (ry_pC (ry_pA ym w b (z b)) w n b (z b) (z b))) (z b))), (6, .int (ry_pB (ry_pA ym w b (z b)) w b (z b))), (5, .int ((ry_pC (ry_pA ym w b (z b)) w n b (z b) (z b)).2.2)), (4, .int ((ry_pC (ry_pA ym w b (z b)) w n b (z b) (z b)).2.1)), (3, .int (nI ((8 * b) + (z b)))), (2, .int (nI (8 * b))), (0, .ref (bd_ea E 18 w 0)), (1, .int (nI b))]) hx hb dX6_play_481 hl (by decide) rfl (fun ls hl => ?_)
                                  refine lv_aload_n hx hb dX6_play_483 rfl (lv_at hl 10 rfl) ?_
                                  refine bd_g_X6_tired C hR (by omega) qf_X6_15 dX6_play_484 ?_
                                  refine lv_iload hx hb dX6_play_487 (lv_at hl 1 rfl) ?_
                                  refine lv_iload hx hb dX6_play_489 (lv_at hl 0 rfl) ?_
                                  refine bd_ifeq (P := ry_in (ry_pE (ry_pF (ry_pO (ry_pT ((ry_pC (ry_pA ym w b (z b)) w n b (z b) (z b)).1) w b (ry_pD ((ry_pC (ry_pA ym w b (z b)) w n b (z b) (z b)).1) w b (ry_m0 (ry_pA ym w b (z b)) w b (z b) (ry_pC (ry_pA ym w b (z b)) w n b (z b) (z b))) (z b)) (ry_pC (ry_pA ym w b (z b)) w n b (z b) (z b)).2.1 (ry_pC (ry_pA ym w b (z b)) w n b (z b) (z b)).2.2) w b (ry_pC (ry_pA ym w b (z b)) w n b (z b) (z b)).2.1) w (ry_pC (ry_pA ym w b (z b)) w n b (z b) (z b)).2.1 (ry_pC (ry_pA ym w b (z b)) w n b (z b) (z b)).2.2) w b (z b) j) w b (nI j) (z b) = true) (tgt := 512) C dX6_play_491 (by decide) (fun c491 => ?_) (fun c491 => ?_)
                                  · skip
                                    refine lv_iconst (v := 0) hx hb dX6_play_512 (by decide) ?_
                                    refine lv_aload_n hx hb dX6_play_513 rfl (lv_at hl 10 rfl) ?_
                                    refine bd_g_X6_tired C hR (by omega) qf_X6_15 dX6_play_514 ?_
                                    refine lv_iload hx hb dX6_play_517 (lv_at hl 1 rfl) ?_
                                    refine bd_ld_19 C hR (by omega) (j := j) (by omega) dX6_play_519 ?_
                                    refine lv_bipush (v := 10) hx hb dX6_play_520 (by decide) ?_
                                    refine lv_isub hx hb dX6_play_522 ?_
                                    refine bd_max C hl.1 qm_X6_95 ⟨Nat.le_of_ble_eq_true rfl, Nat.le_of_ble_eq_true rfl⟩ ⟨by show (0 + 1) + 0 ≤ 1; omega, by show (0 + 4) + 0 ≤ 4; omega⟩ dX6_play_523 ?_
                                    refine bd_st_19 C hR hS (by omega) (j := j) (by omega) dX6_play_526 (fun H locs hR hS => ?_)
                                    refine lv_aload_n hx hb dX6_play_527 rfl (lv_at hl 10 rfl) ?_
                                    refine bd_g_X6_sat C hR (by omega) qf_X6_22 dX6_play_528 ?_
                                    refine lv_iload hx hb dX6_play_531 (lv_at hl 1 rfl) ?_
                                    refine lv_dup2_11 hx hb dX6_play_533 rfl rfl ?_
                                    refine bd_ld_21 C hR (by omega) (j := j) (by omega) dX6_play_534 ?_
                                    refine lv_iload hx hb dX6_play_535 (lv_at hl 0 rfl) ?_
                                    refine bd_ifeq (P := ry_in (ry_pE (ry_pF (ry_pO (ry_pT ((ry_pC (ry_pA ym w b (z b)) w n b (z b) (z b)).1) w b (ry_pD ((ry_pC (ry_pA ym w b (z b)) w n b (z b) (z b)).1) w b (ry_m0 (ry_pA ym w b (z b)) w b (z b) (ry_pC (ry_pA ym w b (z b)) w n b (z b) (z b))) (z b)) (ry_pC (ry_pA ym w b (z b)) w n b (z b) (z b)).2.1 (ry_pC (ry_pA ym w b (z b)) w n b (z b) (z b)).2.2) w b (ry_pC (ry_pA ym w b (z b)) w n b (z b) (z b)).2.1) w (ry_pC (ry_pA ym w b (z b)) w n b (z b) (z b)).2.1 (ry_pC (ry_pA ym w b (z b)) w n b (z b) (z b)).2.2) w b (z b) j) w b (nI j) (z b) = true) (tgt := 544) C dX6_play_537 (by decide) (fun q9 => ?_) (fun q9 => absurd q9 c491)
                                    refine lv_iconst (v := 0) hx hb dX6_play_544 (by decide) ?_
                                    refine lv_iadd hx hb dX6_play_545 ?_
                                    refine bd_st_21 C hR hS (by omega) (j := j) (by omega) dX6_play_546 (fun H locs hR hS => ?_)
                                    refine lv_iinc (v := nI (j + 1)) (lv' := [(10, .int (nI (j + 1))), (11, .int (if ry_in (ry_pE (ry_pF (ry_pO (ry_pT ((ry_pC (ry_pA ym w b (z b)) w n b (z b) (z b)).1) w b (ry_pD ((ry_pC (ry_pA ym w b (z b)) w n b (z b) (z b)).1) w b (ry_m0 (ry_pA ym w b (z b)) w b (z b) (ry_pC (ry_pA ym w b (z b)) w n b (z b) (z b))) (z b)) (ry_pC (ry_pA ym w b (z b)) w n b (z b) (z b)).2.1 (ry_pC (ry_pA ym w b (z b)) w n b (z b) (z b)).2.2) w b (ry_pC (ry_pA ym w b (z b)) w n b (z b) (z b)).2.1) w (ry_pC (ry_pA ym w b (z b)) w n b (z b) (z b)).2.1 (ry_pC (ry_pA ym w b (z b)) w n b (z b) (z b)).2.2) w b (z b) j) w b (nI j) (z b) = true then 1 else 0)), (9, .ref q5), (8, .int 0), (7, .int (ry_pD ((ry_pC (ry_pA ym w b (z b)) w n b (z b) (z b)).1) w b (ry_m0 (ry_pA ym w b (z b)) w b (z b) (ry_pC (ry_pA ym w b (z b)) w n b (z b) (z b))) (z b))), (6, .int (ry_pB (ry_pA ym w b (z b)) w b (z b))), (5, .int ((ry_pC (ry_pA ym w b (z b)) w n b (z b) (z b)).2.2)), (4, .int ((ry_pC (ry_pA ym w b (z b)) w n b (z b) (z b)).2.1)), (3, .int (nI ((8 * b) + (z b)))), (2, .int (nI (8 * b))), (0, .ref (bd_ea E 18 w 0)), (1, .int (nI b))]) hx hb dX6_play_547 hl (k := 1) rfl (nI_1 j) (by decide) rfl (fun ls hl => ?_)
                                    refine lv_goto (tgt := 462) hx hb dX6_play_550 (by decide) ?_
                                    exact ih6 (j + 1) (by omega) (by omega) _ _ (hR.eq rfl (by first | (simp (config := { decide := true }) only [ry_pE, ry_pE1, eq_true c29, eq_true nc29, eq_true c91, eq_true nc91, eq_true c127, eq_true nc127, eq_true c240, eq_true nc240, eq_true c357, eq_false c471, eq_false nc471, eq_false c491, ↓reduceIte, not_true_eq_false, not_false_eq_true, and_self, and_true, true_and, and_false, false_and]; done) | rfl)) hS _ (lv_sub hl [0, 2, 3, 4, 5, 6, 7, 8, 9, 10, 11] rfl)
                                  · skip
                                    refine lv_bipush (v := 100) hx hb dX6_play_494 (by decide) ?_
                                    refine lv_aload_n hx hb dX6_play_496 rfl (lv_at hl 10 rfl) ?_
                                    refine bd_g_X6_tired C hR (by omega) qf_X6_15 dX6_play_497 ?_
                                    refine lv_iload hx hb dX6_play_500 (lv_at hl 1 rfl) ?_
                                    refine bd_ld_19 C hR (by omega) (j := j) (by omega) dX6_play_502 ?_
                                    refine lv_bipush (v := 15) hx hb dX6_play_503 (by decide) ?_
                                    refine lv_iadd hx hb dX6_play_505 ?_
                                    refine bd_min C hl.1 qm_X6_100 ⟨Nat.le_of_ble_eq_true rfl, Nat.le_of_ble_eq_true rfl⟩ ⟨by show (0 + 1) + 0 ≤ 1; omega, by show (0 + 4) + 0 ≤ 4; omega⟩ dX6_play_506 ?_
                                    refine lv_goto (tgt := 526) hx hb dX6_play_509 (by decide) ?_
                                    refine bd_st_19 C hR hS (by omega) (j := j) (by omega) dX6_play_526 (fun H locs hR hS => ?_)
                                    refine lv_aload_n hx hb dX6_play_527 rfl (lv_at hl 10 rfl) ?_
                                    refine bd_g_X6_sat C hR (by omega) qf_X6_22 dX6_play_528 ?_
                                    refine lv_iload hx hb dX6_play_531 (lv_at hl 1 rfl) ?_
                                    refine lv_dup2_11 hx hb dX6_play_533 rfl rfl ?_
                                    refine bd_ld_21 C hR (by omega) (j := j) (by omega) dX6_play_534 ?_
                                    refine lv_iload hx hb dX6_play_535 (lv_at hl 0 rfl) ?_
                                    refine bd_ifeq (P := ry_in (ry_pE (ry_pF (ry_pO (ry_pT ((ry_pC (ry_pA ym w b (z b)) w n b (z b) (z b)).1) w b (ry_pD ((ry_pC (ry_pA ym w b (z b)) w n b (z b) (z b)).1) w b (ry_m0 (ry_pA ym w b (z b)) w b (z b) (ry_pC (ry_pA ym w b (z b)) w n b (z b) (z b))) (z b)) (ry_pC (ry_pA ym w b (z b)) w n b (z b) (z b)).2.1 (ry_pC (ry_pA ym w b (z b)) w n b (z b) (z b)).2.2) w b (ry_pC (ry_pA ym w b (z b)) w n b (z b) (z b)).2.1) w (ry_pC (ry_pA ym w b (z b)) w n b (z b) (z b)).2.1 (ry_pC (ry_pA ym w b (z b)) w n b (z b) (z b)).2.2) w b (z b) j) w b (nI j) (z b) = true) (tgt := 544) C dX6_play_537 (by decide) (fun q9 => absurd c491 q9) (fun q9 => ?_)
                                    refine lv_iconst (v := 1) hx hb dX6_play_540 (by decide) ?_
                                    refine lv_goto (tgt := 545) hx hb dX6_play_541 (by decide) ?_
                                    refine lv_iadd hx hb dX6_play_545 ?_
                                    refine bd_st_21 C hR hS (by omega) (j := j) (by omega) dX6_play_546 (fun H locs hR hS => ?_)
                                    refine lv_iinc (v := nI (j + 1)) (lv' := [(10, .int (nI (j + 1))), (11, .int (if ry_in (ry_pE (ry_pF (ry_pO (ry_pT ((ry_pC (ry_pA ym w b (z b)) w n b (z b) (z b)).1) w b (ry_pD ((ry_pC (ry_pA ym w b (z b)) w n b (z b) (z b)).1) w b (ry_m0 (ry_pA ym w b (z b)) w b (z b) (ry_pC (ry_pA ym w b (z b)) w n b (z b) (z b))) (z b)) (ry_pC (ry_pA ym w b (z b)) w n b (z b) (z b)).2.1 (ry_pC (ry_pA ym w b (z b)) w n b (z b) (z b)).2.2) w b (ry_pC (ry_pA ym w b (z b)) w n b (z b) (z b)).2.1) w (ry_pC (ry_pA ym w b (z b)) w n b (z b) (z b)).2.1 (ry_pC (ry_pA ym w b (z b)) w n b (z b) (z b)).2.2) w b (z b) j) w b (nI j) (z b) = true then 1 else 0)), (9, .ref q5), (8, .int 0), (7, .int (ry_pD ((ry_pC (ry_pA ym w b (z b)) w n b (z b) (z b)).1) w b (ry_m0 (ry_pA ym w b (z b)) w b (z b) (ry_pC (ry_pA ym w b (z b)) w n b (z b) (z b))) (z b))), (6, .int (ry_pB (ry_pA ym w b (z b)) w b (z b))), (5, .int ((ry_pC (ry_pA ym w b (z b)) w n b (z b) (z b)).2.2)), (4, .int ((ry_pC (ry_pA ym w b (z b)) w n b (z b) (z b)).2.1)), (3, .int (nI ((8 * b) + (z b)))), (2, .int (nI (8 * b))), (0, .ref (bd_ea E 18 w 0)), (1, .int (nI b))]) hx hb dX6_play_547 hl (k := 1) rfl (nI_1 j) (by decide) rfl (fun ls hl => ?_)
                                    refine lv_goto (tgt := 462) hx hb dX6_play_550 (by decide) ?_
                                    exact ih6 (j + 1) (by omega) (by omega) _ _ (hR.eq rfl (by first | (simp (config := { decide := true }) only [ry_pE, ry_pE1, eq_true c29, eq_true nc29, eq_true c91, eq_true nc91, eq_true c127, eq_true nc127, eq_true c240, eq_true nc240, eq_true c357, eq_false c471, eq_false nc471, eq_true c491, ↓reduceIte, not_true_eq_false, not_false_eq_true, and_self, and_true, true_and, and_false, false_and]; done) | rfl)) hS _ (lv_sub hl [0, 2, 3, 4, 5, 6, 7, 8, 9, 10, 11] rfl)
                            exact lp6 (n + 1) 0 (by omega) (by omega) _ _ (hR.eq rfl rfl) hS _ (by first | exact lv_sub hl [0, 1, 2, 3, 4, 5, 6, 7, 8, 9, 10] rfl | (rw [show (nI 0 : Int32) = 0 from by first | rfl | decide | simp [nI_0]]; exact lv_sub hl [0, 1, 2, 3, 4, 5, 6, 7, 8, 9, 10] rfl))
                          · skip
                            refine lv_iconst (v := 1) hx hb dX6_play_360 (by decide) ?_
                            refine lv_goto (tgt := 365) hx hb dX6_play_361 (by decide) ?_
                            refine lv_istore (lv' := [(8, .int 1), (7, .int (ry_pD ((ry_pC (ry_pA ym w b (z b)) w n b (z b) (z b)).1) w b (ry_m0 (ry_pA ym w b (z b)) w b (z b) (ry_pC (ry_pA ym w b (z b)) w n b (z b) (z b))) (z b))), (6, .int (ry_pB (ry_pA ym w b (z b)) w b (z b))), (5, .int ((ry_pC (ry_pA ym w b (z b)) w n b (z b) (z b)).2.2)), (4, .int ((ry_pC (ry_pA ym w b (z b)) w n b (z b) (z b)).2.1)), (3, .int (nI ((8 * b) + (z b)))), (2, .int (nI (8 * b))), (0, .ref (bd_ea E 18 w 0)), (1, .int (nI b))]) hx hb dX6_play_365 hl (by decide) rfl (fun ls hl => ?_)
                            refine lv_iconst (v := 4) hx hb dX6_play_367 (by decide) ?_
                            refine bd_tnew (n := 4) C hR hS (by omega) ⟨by show 0 + 1 ≤ 1; omega, by show 0 + 4 ≤ 4; omega⟩ dX6_play_368 (fun q7 H hR hT hS => ?_)
                            refine lv_dup hx hb dX6_play_370 rfl ?_
                            refine lv_iconst (v := 0) hx hb dX6_play_371 (by decide) ?_
                            refine lv_iload hx hb dX6_play_372 (lv_at hl 0 rfl) ?_
                            refine lv_if_eq (tgt := 381) hx hb dX6_play_374 (by decide) (fun c374 => ?_) (fun c374 => ?_)
                            · exact absurd c374 (by decide)
                            · skip
                              refine lv_iconst (v := 0) hx hb dX6_play_377 (by decide) ?_
                              refine lv_goto (tgt := 387) hx hb dX6_play_378 (by decide) ?_
                              refine bd_ti2 (j := 0) rfl ?_
                              refine bd_tst (j := 0) C hR hT hS (by omega) (by omega) dX6_play_387 (fun H locs hR hT hS => ?_)
                              refine lv_dup hx hb dX6_play_388 rfl ?_
                              refine lv_iconst (v := 1) hx hb dX6_play_389 (by decide) ?_
                              refine lv_iconst (v := (-1)) hx hb dX6_play_390 (by decide) ?_
                              refine bd_ti2 (j := 1) rfl ?_
                              refine bd_tst (j := 1) C hR hT hS (by omega) (by omega) dX6_play_391 (fun H locs hR hT hS => ?_)
                              refine lv_dup hx hb dX6_play_392 rfl ?_
                              refine lv_iconst (v := 2) hx hb dX6_play_393 (by decide) ?_
                              refine lv_iload hx hb dX6_play_394 (lv_at hl 4 rfl) ?_
                              refine bd_ti2 (j := 2) rfl ?_
                              refine bd_tst (j := 2) C hR hT hS (by omega) (by omega) dX6_play_396 (fun H locs hR hT hS => ?_)
                              refine lv_dup hx hb dX6_play_397 rfl ?_
                              refine lv_iconst (v := 3) hx hb dX6_play_398 (by decide) ?_
                              refine lv_iload hx hb dX6_play_399 (lv_at hl 3 rfl) ?_
                              refine bd_ti2 (j := 3) rfl ?_
                              refine bd_tst (j := 3) C hR hT hS (by omega) (by omega) dX6_play_401 (fun H locs hR hT hS => ?_)
                              refine lv_astore (lv' := [(9, .ref q7), (8, .int 1), (7, .int (ry_pD ((ry_pC (ry_pA ym w b (z b)) w n b (z b) (z b)).1) w b (ry_m0 (ry_pA ym w b (z b)) w b (z b) (ry_pC (ry_pA ym w b (z b)) w n b (z b) (z b))) (z b))), (6, .int (ry_pB (ry_pA ym w b (z b)) w b (z b))), (5, .int ((ry_pC (ry_pA ym w b (z b)) w n b (z b) (z b)).2.2)), (4, .int ((ry_pC (ry_pA ym w b (z b)) w n b (z b) (z b)).2.1)), (3, .int (nI ((8 * b) + (z b)))), (2, .int (nI (8 * b))), (0, .ref (bd_ea E 18 w 0)), (1, .int (nI b))]) hx hb dX6_play_402 hl (by decide) rfl (fun ls hl => ?_)
                              refine lv_aload hx hb dX6_play_404 (lv_at hl 0 rfl) ?_
                              refine lv_iconst (v := 0) hx hb dX6_play_406 (by decide) ?_
                              refine lv_aload_n hx hb dX6_play_407 rfl (lv_at hl 8 rfl) ?_
                              refine bd_g_X6_latest C hR (by omega) qf_X6_43 dX6_play_408 ?_
                              refine lv_iconst (v := 4) hx hb dX6_play_411 (by decide) ?_
                              refine lv_iload_n hx hb dX6_play_412 rfl (lv_at hl 9 rfl) ?_
                              refine lv_imul hx hb dX6_play_413 ?_
                              refine bd_ti (j := 4 * b) (pk_mul 4 b) ?_
                              refine lv_iconst (v := 4) hx hb dX6_play_414 (by decide) ?_
                              refine bd_tcp (n := 4) (dp := (4 * b)) C hR hT hS hl.1 qm_X6_49 (f2 := 28) ⟨by decide, show w < 2 by omega, (by decide)⟩ rfl (by omega) (by omega) (by omega) (by omega) bd_ro28 ⟨Nat.le_of_ble_eq_true rfl, Nat.le_of_ble_eq_true rfl⟩ dX6_play_415 (fun H locs hR hS => ?_)
                              have hR : bd_Rep E xm (ry_pT ((ry_pC (ry_pA ym w b (z b)) w n b (z b) (z b)).1) w b (ry_pD ((ry_pC (ry_pA ym w b (z b)) w n b (z b) (z b)).1) w b (ry_m0 (ry_pA ym w b (z b)) w b (z b) (ry_pC (ry_pA ym w b (z b)) w n b (z b) (z b))) (z b)) (ry_pC (ry_pA ym w b (z b)) w n b (z b) (z b)).2.1 (ry_pC (ry_pA ym w b (z b)) w n b (z b) (z b)).2.2) om H := hR.eq rfl (by rw [ry_pT, if_neg c357])
                              refine lv_aload_n hx hb dX6_play_418 rfl (lv_at hl 8 rfl) ?_
                              refine bd_g_X6_outs C hR (by omega) qf_X6_40 dX6_play_419 ?_
                              refine lv_iload_n hx hb dX6_play_422 rfl (lv_at hl 9 rfl) ?_
                              refine lv_dup2_11 hx hb dX6_play_423 rfl rfl ?_
                              refine bd_ld_27 C hR (by omega) (j := b) (by omega) dX6_play_424 ?_
                              refine lv_iload hx hb dX6_play_425 (lv_at hl 1 rfl) ?_
                              refine lv_if_eq (tgt := 434) hx hb dX6_play_427 (by decide) (fun q9 => absurd q9 c374) (fun _ => ?_)
                              refine lv_iconst (v := 1) hx hb dX6_play_430 (by decide) ?_
                              refine lv_goto (tgt := 435) hx hb dX6_play_431 (by decide) ?_
                              refine lv_iadd hx hb dX6_play_435 ?_
                              refine bd_st_27 C hR hS (by omega) (j := b) (by omega) dX6_play_436 (fun H locs hR hS => ?_)
                              have hR : bd_Rep E xm (ry_pO (ry_pT ((ry_pC (ry_pA ym w b (z b)) w n b (z b) (z b)).1) w b (ry_pD ((ry_pC (ry_pA ym w b (z b)) w n b (z b) (z b)).1) w b (ry_m0 (ry_pA ym w b (z b)) w b (z b) (ry_pC (ry_pA ym w b (z b)) w n b (z b) (z b))) (z b)) (ry_pC (ry_pA ym w b (z b)) w n b (z b) (z b)).2.1 (ry_pC (ry_pA ym w b (z b)) w n b (z b) (z b)).2.2) w b (ry_pC (ry_pA ym w b (z b)) w n b (z b) (z b)).2.1) om H := hR.eq rfl (by rw [ry_pO, if_neg c357])
                              refine lv_aload_n hx hb dX6_play_437 rfl (lv_at hl 8 rfl) ?_
                              refine lv_dup hx hb dX6_play_438 rfl ?_
                              refine bd_g_X6_deputies C hR (by omega) qf_X6_59 dX6_play_439 ?_
                              refine lv_iload hx hb dX6_play_442 (lv_at hl 5 rfl) ?_
                              refine lv_iadd hx hb dX6_play_444 ?_
                              refine bd_p_X6_deputies C hR hS (by omega) qf_X6_59 dX6_play_445 (fun H locs hR hS => ?_)
                              refine lv_aload_n hx hb dX6_play_448 rfl (lv_at hl 8 rfl) ?_
                              refine lv_dup hx hb dX6_play_449 rfl ?_
                              refine bd_g_X6_empties C hR (by omega) qf_X6_62 dX6_play_450 ?_
                              refine lv_iload hx hb dX6_play_453 (lv_at hl 4 rfl) ?_
                              refine lv_iadd hx hb dX6_play_455 ?_
                              refine bd_p_X6_empties C hR hS (by omega) qf_X6_62 dX6_play_456 (fun H locs hR hS => ?_)
                              have hR : bd_Rep E xm (ry_pF (ry_pO (ry_pT ((ry_pC (ry_pA ym w b (z b)) w n b (z b) (z b)).1) w b (ry_pD ((ry_pC (ry_pA ym w b (z b)) w n b (z b) (z b)).1) w b (ry_m0 (ry_pA ym w b (z b)) w b (z b) (ry_pC (ry_pA ym w b (z b)) w n b (z b) (z b))) (z b)) (ry_pC (ry_pA ym w b (z b)) w n b (z b) (z b)).2.1 (ry_pC (ry_pA ym w b (z b)) w n b (z b) (z b)).2.2) w b (ry_pC (ry_pA ym w b (z b)) w n b (z b) (z b)).2.1) w (ry_pC (ry_pA ym w b (z b)) w n b (z b) (z b)).2.1 (ry_pC (ry_pA ym w b (z b)) w n b (z b) (z b)).2.2) om H := hR.eq rfl (by rfl)
                              refine lv_iconst (v := 0) hx hb dX6_play_459 (by decide) ?_
                              refine lv_istore (lv' := [(10, .int 0), (9, .ref q7), (8, .int 1), (7, .int (ry_pD ((ry_pC (ry_pA ym w b (z b)) w n b (z b) (z b)).1) w b (ry_m0 (ry_pA ym w b (z b)) w b (z b) (ry_pC (ry_pA ym w b (z b)) w n b (z b) (z b))) (z b))), (6, .int (ry_pB (ry_pA ym w b (z b)) w b (z b))), (5, .int ((ry_pC (ry_pA ym w b (z b)) w n b (z b) (z b)).2.2)), (4, .int ((ry_pC (ry_pA ym w b (z b)) w n b (z b) (z b)).2.1)), (3, .int (nI ((8 * b) + (z b)))), (2, .int (nI (8 * b))), (0, .ref (bd_ea E 18 w 0)), (1, .int (nI b))]) hx hb dX6_play_460 hl (by decide) rfl (fun ls hl => ?_)
                              have lp8 : ∀ (t8 j : Nat), j ≤ n → n - j < t8 → ∀ (H : Heap) (locs : List Loc), bd_Rep E xm (ry_pE (ry_pF (ry_pO (ry_pT ((ry_pC (ry_pA ym w b (z b)) w n b (z b) (z b)).1) w b (ry_pD ((ry_pC (ry_pA ym w b (z b)) w n b (z b) (z b)).1) w b (ry_m0 (ry_pA ym w b (z b)) w b (z b) (ry_pC (ry_pA ym w b (z b)) w n b (z b) (z b))) (z b)) (ry_pC (ry_pA ym w b (z b)) w n b (z b) (z b)).2.1 (ry_pC (ry_pA ym w b (z b)) w n b (z b) (z b)).2.2) w b (ry_pC (ry_pA ym w b (z b)) w n b (z b) (z b)).2.1) w (ry_pC (ry_pA ym w b (z b)) w n b (z b) (z b)).2.1 (ry_pC (ry_pA ym w b (z b)) w n b (z b) (z b)).2.2) w b (z b) j) om H → va_S (bd_A E) s.heap H locs → ∀ (ls : Array Slot), lv_has ls 12 [(10, .int (nI j)), (9, .ref q7), (8, .int 1), (7, .int (ry_pD ((ry_pC (ry_pA ym w b (z b)) w n b (z b) (z b)).1) w b (ry_m0 (ry_pA ym w b (z b)) w b (z b) (ry_pC (ry_pA ym w b (z b)) w n b (z b) (z b))) (z b))), (6, .int (ry_pB (ry_pA ym w b (z b)) w b (z b))), (5, .int ((ry_pC (ry_pA ym w b (z b)) w n b (z b) (z b)).2.2)), (4, .int ((ry_pC (ry_pA ym w b (z b)) w n b (z b) (z b)).2.1)), (3, .int (nI ((8 * b) + (z b)))), (2, .int (nI (8 * b))), (0, .ref (bd_ea E 18 w 0)), (1, .int (nI b))] → W p l e { frames := 2, cells := 1, slots := 4, locals := 52 } s m args below meth c H locs (0 + 1) (0 + 4) (MQ below (bd_Q E xm (ry_play ym w n b (z b)) om (none)) args s 1 4 (bd_A E)) (F0 m 462 ls []) := by
                                intro t8
                                induction t8 with
                                | zero => intro j h1 h2; exact absurd h2 (Nat.not_lt_zero _)
                                | succ t8 ih8 =>
                                  intro j hj1 hj2 H locs hR hS ls hl
                                  refine lv_iload hx hb dX6_play_462 (lv_at hl 0 rfl) ?_
                                  refine lv_aload_n hx hb dX6_play_464 rfl (lv_at hl 9 rfl) ?_
                                  refine bd_g_X6_this_0 C hR (by omega) qf_X6_3 dX6_play_465 ?_
                                  refine bd_gN_X7_players C hR  (List.mem_of_getElem? (i := 17) rfl) dX6_play_468 ?_
                                  rw [show (ry_pE (ry_pF (ry_pO (ry_pT ((ry_pC (ry_pA ym w b (z b)) w n b (z b) (z b)).1) w b (ry_pD ((ry_pC (ry_pA ym w b (z b)) w n b (z b) (z b)).1) w b (ry_m0 (ry_pA ym w b (z b)) w b (z b) (ry_pC (ry_pA ym w b (z b)) w n b (z b) (z b))) (z b)) (ry_pC (ry_pA ym w b (z b)) w n b (z b) (z b)).2.1 (ry_pC (ry_pA ym w b (z b)) w n b (z b) (z b)).2.2) w b (ry_pC (ry_pA ym w b (z b)) w n b (z b) (z b)).2.1) w (ry_pC (ry_pA ym w b (z b)) w n b (z b) (z b)).2.1 (ry_pC (ry_pA ym w b (z b)) w n b (z b) (z b)).2.2) w b (z b) j) 1 0 0 = nI n from (show ry_Sh (ry_pE (ry_pF (ry_pO (ry_pT ((ry_pC (ry_pA ym w b (z b)) w n b (z b) (z b)).1) w b (ry_pD ((ry_pC (ry_pA ym w b (z b)) w n b (z b) (z b)).1) w b (ry_m0 (ry_pA ym w b (z b)) w b (z b) (ry_pC (ry_pA ym w b (z b)) w n b (z b) (z b))) (z b)) (ry_pC (ry_pA ym w b (z b)) w n b (z b) (z b)).2.1 (ry_pC (ry_pA ym w b (z b)) w n b (z b) (z b)).2.2) w b (ry_pC (ry_pA ym w b (z b)) w n b (z b) (z b)).2.1) w (ry_pC (ry_pA ym w b (z b)) w n b (z b) (z b)).2.1 (ry_pC (ry_pA ym w b (z b)) w n b (z b) (z b)).2.2) w b (z b) j) n nb z from (ry_pE_sh (ry_pF_sh (ry_pO_sh (ry_pT_sh (ry_pC_sh (ry_pA_sh hyO (z b)) (z b))))) j)).1]
                                  refine lv_icmp_ge (tgt := 553) hx hb dX6_play_471 (by decide) (fun c471 => ?_) (fun c471 => ?_)
                                  · skip
                                    have nc471 : n ≤ j := (nI_leI (a := n) (b := j) (by omega) (by omega)).mp c471
                                    obtain rfl : n = j := by omega
                                    exact bd_rv C hr hlk (hR.eq rfl (by first | rfl | (rfl))) hS (by show (0 + 1) ≤ 1; omega) (by show (0 + 4) ≤ 4; omega) dX6_play_553
                                  · skip
                                    have nc471 : ¬ n ≤ j := fun q9 => c471 ((nI_leI (a := n) (b := j) (by omega) (by omega)).mpr q9)
                                    refine lv_aload_n hx hb dX6_play_474 rfl (lv_at hl 9 rfl) ?_
                                    refine lv_iload_n hx hb dX6_play_475 rfl (lv_at hl 10 rfl) ?_
                                    refine lv_iload hx hb dX6_play_476 (lv_at hl 0 rfl) ?_
                                    refine bd_cV1 [.int (nI b), .int (nI j)] [] C (k_X6_sits l E xm (ry_pE (ry_pF (ry_pO (ry_pT ((ry_pC (ry_pA ym w b (z b)) w n b (z b) (z b)).1) w b (ry_pD ((ry_pC (ry_pA ym w b (z b)) w n b (z b) (z b)).1) w b (ry_m0 (ry_pA ym w b (z b)) w b (z b) (ry_pC (ry_pA ym w b (z b)) w n b (z b) (z b))) (z b)) (ry_pC (ry_pA ym w b (z b)) w n b (z b) (z b)).2.1 (ry_pC (ry_pA ym w b (z b)) w n b (z b) (z b)).2.2) w b (ry_pC (ry_pA ym w b (z b)) w n b (z b) (z b)).2.1) w (ry_pC (ry_pA ym w b (z b)) w n b (z b) (z b)).2.1 (ry_pC (ry_pA ym w b (z b)) w n b (z b) (z b)).2.2) w b (z b) j) om w n nb z b (nI j) (by omega) (ry_pE_sh (ry_pF_sh (ry_pO_sh (ry_pT_sh (ry_pC_sh (ry_pA_sh hyO (z b)) (z b))))) j) (by omega)) hR hS (bd_recv C.2 hR ⟨by decide, show w < 2 by omega, (by decide)⟩ rfl rfl) qm_X6_81 qi_X6_sits qs_X6_sits qz_X6 qc_X6_sits qp_X6_sits ⟨Nat.le_of_ble_eq_true rfl, Nat.le_of_ble_eq_true rfl⟩ hl.1 (Nat.le_of_ble_eq_true rfl) dX6_play_478 ⟨by show (0 + 1) + 0 ≤ 1; omega, by show (0 + 4) + 0 ≤ 4; omega⟩ (fun H locs hR hS hz478 => ?_)
                                    refine lv_istore (lv' := [(11, .int (if ry_in (ry_pE (ry_pF (ry_pO (ry_pT ((ry_pC (ry_pA ym w b (z b)) w n b (z b) (z b)).1) w b (ry_pD ((ry_pC (ry_pA ym w b (z b)) w n b (z b) (z b)).1) w b (ry_m0 (ry_pA ym w b (z b)) w b (z b) (ry_pC (ry_pA ym w b (z b)) w n b (z b) (z b))) (z b)) (ry_pC (ry_pA ym w b (z b)) w n b (z b) (z b)).2.1 (ry_pC (ry_pA ym w b (z b)) w n b (z b) (z b)).2.2) w b (ry_pC (ry_pA ym w b (z b)) w n b (z b) (z b)).2.1) w (ry_pC (ry_pA ym w b (z b)) w n b (z b) (z b)).2.1 (ry_pC (ry_pA ym w b (z b)) w n b (z b) (z b)).2.2) w b (z b) j) w b (nI j) (z b) = true then 1 else 0)), (10, .int (nI j)), (9, .ref q7), (8, .int 1), (7, .int (ry_pD ((ry_pC (ry_pA ym w b (z b)) w n b (z b) (z b)).1) w b (ry_m0 (ry_pA ym w b (z b)) w b (z b) (ry_pC (ry_pA ym w b (z b)) w n b (z b) (z b))) (z b))), (6, .int (ry_pB (ry_pA ym w b (z b)) w b (z b))), (5, .int ((ry_pC (ry_pA ym w b (z b)) w n b (z b) (z b)).2.2)), (4, .int ((ry_pC (ry_pA ym w b (z b)) w n b (z b) (z b)).2.1)), (3, .int (nI ((8 * b) + (z b)))), (2, .int (nI (8 * b))), (0, .ref (bd_ea E 18 w 0)), (1, .int (nI b))]) hx hb dX6_play_481 hl (by decide) rfl (fun ls hl => ?_)
                                    refine lv_aload_n hx hb dX6_play_483 rfl (lv_at hl 10 rfl) ?_
                                    refine bd_g_X6_tired C hR (by omega) qf_X6_15 dX6_play_484 ?_
                                    refine lv_iload hx hb dX6_play_487 (lv_at hl 1 rfl) ?_
                                    refine lv_iload hx hb dX6_play_489 (lv_at hl 0 rfl) ?_
                                    refine bd_ifeq (P := ry_in (ry_pE (ry_pF (ry_pO (ry_pT ((ry_pC (ry_pA ym w b (z b)) w n b (z b) (z b)).1) w b (ry_pD ((ry_pC (ry_pA ym w b (z b)) w n b (z b) (z b)).1) w b (ry_m0 (ry_pA ym w b (z b)) w b (z b) (ry_pC (ry_pA ym w b (z b)) w n b (z b) (z b))) (z b)) (ry_pC (ry_pA ym w b (z b)) w n b (z b) (z b)).2.1 (ry_pC (ry_pA ym w b (z b)) w n b (z b) (z b)).2.2) w b (ry_pC (ry_pA ym w b (z b)) w n b (z b) (z b)).2.1) w (ry_pC (ry_pA ym w b (z b)) w n b (z b) (z b)).2.1 (ry_pC (ry_pA ym w b (z b)) w n b (z b) (z b)).2.2) w b (z b) j) w b (nI j) (z b) = true) (tgt := 512) C dX6_play_491 (by decide) (fun c491 => ?_) (fun c491 => ?_)
                                    · skip
                                      refine lv_iconst (v := 0) hx hb dX6_play_512 (by decide) ?_
                                      refine lv_aload_n hx hb dX6_play_513 rfl (lv_at hl 10 rfl) ?_
                                      refine bd_g_X6_tired C hR (by omega) qf_X6_15 dX6_play_514 ?_
                                      refine lv_iload hx hb dX6_play_517 (lv_at hl 1 rfl) ?_
                                      refine bd_ld_19 C hR (by omega) (j := j) (by omega) dX6_play_519 ?_
                                      refine lv_bipush (v := 10) hx hb dX6_play_520 (by decide) ?_
                                      refine lv_isub hx hb dX6_play_522 ?_
                                      refine bd_max C hl.1 qm_X6_95 ⟨Nat.le_of_ble_eq_true rfl, Nat.le_of_ble_eq_true rfl⟩ ⟨by show (0 + 1) + 0 ≤ 1; omega, by show (0 + 4) + 0 ≤ 4; omega⟩ dX6_play_523 ?_
                                      refine bd_st_19 C hR hS (by omega) (j := j) (by omega) dX6_play_526 (fun H locs hR hS => ?_)
                                      refine lv_aload_n hx hb dX6_play_527 rfl (lv_at hl 10 rfl) ?_
                                      refine bd_g_X6_sat C hR (by omega) qf_X6_22 dX6_play_528 ?_
                                      refine lv_iload hx hb dX6_play_531 (lv_at hl 1 rfl) ?_
                                      refine lv_dup2_11 hx hb dX6_play_533 rfl rfl ?_
                                      refine bd_ld_21 C hR (by omega) (j := j) (by omega) dX6_play_534 ?_
                                      refine lv_iload hx hb dX6_play_535 (lv_at hl 0 rfl) ?_
                                      refine bd_ifeq (P := ry_in (ry_pE (ry_pF (ry_pO (ry_pT ((ry_pC (ry_pA ym w b (z b)) w n b (z b) (z b)).1) w b (ry_pD ((ry_pC (ry_pA ym w b (z b)) w n b (z b) (z b)).1) w b (ry_m0 (ry_pA ym w b (z b)) w b (z b) (ry_pC (ry_pA ym w b (z b)) w n b (z b) (z b))) (z b)) (ry_pC (ry_pA ym w b (z b)) w n b (z b) (z b)).2.1 (ry_pC (ry_pA ym w b (z b)) w n b (z b) (z b)).2.2) w b (ry_pC (ry_pA ym w b (z b)) w n b (z b) (z b)).2.1) w (ry_pC (ry_pA ym w b (z b)) w n b (z b) (z b)).2.1 (ry_pC (ry_pA ym w b (z b)) w n b (z b) (z b)).2.2) w b (z b) j) w b (nI j) (z b) = true) (tgt := 544) C dX6_play_537 (by decide) (fun q9 => ?_) (fun q9 => absurd q9 c491)
                                      refine lv_iconst (v := 0) hx hb dX6_play_544 (by decide) ?_
                                      refine lv_iadd hx hb dX6_play_545 ?_
                                      refine bd_st_21 C hR hS (by omega) (j := j) (by omega) dX6_play_546 (fun H locs hR hS => ?_)
                                      refine lv_iinc (v := nI (j + 1)) (lv' := [(10, .int (nI (j + 1))), (11, .int (if ry_in (ry_pE (ry_pF (ry_pO (ry_pT ((ry_pC (ry_pA ym w b (z b)) w n b (z b) (z b)).1) w b (ry_pD ((ry_pC (ry_pA ym w b (z b)) w n b (z b) (z b)).1) w b (ry_m0 (ry_pA ym w b (z b)) w b (z b) (ry_pC (ry_pA ym w b (z b)) w n b (z b) (z b))) (z b)) (ry_pC (ry_pA ym w b (z b)) w n b (z b) (z b)).2.1 (ry_pC (ry_pA ym w b (z b)) w n b (z b) (z b)).2.2) w b (ry_pC (ry_pA ym w b (z b)) w n b (z b) (z b)).2.1) w (ry_pC (ry_pA ym w b (z b)) w n b (z b) (z b)).2.1 (ry_pC (ry_pA ym w b (z b)) w n b (z b) (z b)).2.2) w b (z b) j) w b (nI j) (z b) = true then 1 else 0)), (9, .ref q7), (8, .int 1), (7, .int (ry_pD ((ry_pC (ry_pA ym w b (z b)) w n b (z b) (z b)).1) w b (ry_m0 (ry_pA ym w b (z b)) w b (z b) (ry_pC (ry_pA ym w b (z b)) w n b (z b) (z b))) (z b))), (6, .int (ry_pB (ry_pA ym w b (z b)) w b (z b))), (5, .int ((ry_pC (ry_pA ym w b (z b)) w n b (z b) (z b)).2.2)), (4, .int ((ry_pC (ry_pA ym w b (z b)) w n b (z b) (z b)).2.1)), (3, .int (nI ((8 * b) + (z b)))), (2, .int (nI (8 * b))), (0, .ref (bd_ea E 18 w 0)), (1, .int (nI b))]) hx hb dX6_play_547 hl (k := 1) rfl (nI_1 j) (by decide) rfl (fun ls hl => ?_)
                                      refine lv_goto (tgt := 462) hx hb dX6_play_550 (by decide) ?_
                                      exact ih8 (j + 1) (by omega) (by omega) _ _ (hR.eq rfl (by first | (simp (config := { decide := true }) only [ry_pE, ry_pE1, eq_true c29, eq_true nc29, eq_true c91, eq_true nc91, eq_true c127, eq_true nc127, eq_true c240, eq_true nc240, eq_false c357, eq_false c374, eq_false c471, eq_false nc471, eq_false c491, ↓reduceIte, not_true_eq_false, not_false_eq_true, and_self, and_true, true_and, and_false, false_and]; done) | rfl)) hS _ (lv_sub hl [0, 2, 3, 4, 5, 6, 7, 8, 9, 10, 11] rfl)
                                    · skip
                                      refine lv_bipush (v := 100) hx hb dX6_play_494 (by decide) ?_
                                      refine lv_aload_n hx hb dX6_play_496 rfl (lv_at hl 10 rfl) ?_
                                      refine bd_g_X6_tired C hR (by omega) qf_X6_15 dX6_play_497 ?_
                                      refine lv_iload hx hb dX6_play_500 (lv_at hl 1 rfl) ?_
                                      refine bd_ld_19 C hR (by omega) (j := j) (by omega) dX6_play_502 ?_
                                      refine lv_bipush (v := 15) hx hb dX6_play_503 (by decide) ?_
                                      refine lv_iadd hx hb dX6_play_505 ?_
                                      refine bd_min C hl.1 qm_X6_100 ⟨Nat.le_of_ble_eq_true rfl, Nat.le_of_ble_eq_true rfl⟩ ⟨by show (0 + 1) + 0 ≤ 1; omega, by show (0 + 4) + 0 ≤ 4; omega⟩ dX6_play_506 ?_
                                      refine lv_goto (tgt := 526) hx hb dX6_play_509 (by decide) ?_
                                      refine bd_st_19 C hR hS (by omega) (j := j) (by omega) dX6_play_526 (fun H locs hR hS => ?_)
                                      refine lv_aload_n hx hb dX6_play_527 rfl (lv_at hl 10 rfl) ?_
                                      refine bd_g_X6_sat C hR (by omega) qf_X6_22 dX6_play_528 ?_
                                      refine lv_iload hx hb dX6_play_531 (lv_at hl 1 rfl) ?_
                                      refine lv_dup2_11 hx hb dX6_play_533 rfl rfl ?_
                                      refine bd_ld_21 C hR (by omega) (j := j) (by omega) dX6_play_534 ?_
                                      refine lv_iload hx hb dX6_play_535 (lv_at hl 0 rfl) ?_
                                      refine bd_ifeq (P := ry_in (ry_pE (ry_pF (ry_pO (ry_pT ((ry_pC (ry_pA ym w b (z b)) w n b (z b) (z b)).1) w b (ry_pD ((ry_pC (ry_pA ym w b (z b)) w n b (z b) (z b)).1) w b (ry_m0 (ry_pA ym w b (z b)) w b (z b) (ry_pC (ry_pA ym w b (z b)) w n b (z b) (z b))) (z b)) (ry_pC (ry_pA ym w b (z b)) w n b (z b) (z b)).2.1 (ry_pC (ry_pA ym w b (z b)) w n b (z b) (z b)).2.2) w b (ry_pC (ry_pA ym w b (z b)) w n b (z b) (z b)).2.1) w (ry_pC (ry_pA ym w b (z b)) w n b (z b) (z b)).2.1 (ry_pC (ry_pA ym w b (z b)) w n b (z b) (z b)).2.2) w b (z b) j) w b (nI j) (z b) = true) (tgt := 544) C dX6_play_537 (by decide) (fun q9 => absurd c491 q9) (fun q9 => ?_)
                                      refine lv_iconst (v := 1) hx hb dX6_play_540 (by decide) ?_
                                      refine lv_goto (tgt := 545) hx hb dX6_play_541 (by decide) ?_
                                      refine lv_iadd hx hb dX6_play_545 ?_
                                      refine bd_st_21 C hR hS (by omega) (j := j) (by omega) dX6_play_546 (fun H locs hR hS => ?_)
                                      refine lv_iinc (v := nI (j + 1)) (lv' := [(10, .int (nI (j + 1))), (11, .int (if ry_in (ry_pE (ry_pF (ry_pO (ry_pT ((ry_pC (ry_pA ym w b (z b)) w n b (z b) (z b)).1) w b (ry_pD ((ry_pC (ry_pA ym w b (z b)) w n b (z b) (z b)).1) w b (ry_m0 (ry_pA ym w b (z b)) w b (z b) (ry_pC (ry_pA ym w b (z b)) w n b (z b) (z b))) (z b)) (ry_pC (ry_pA ym w b (z b)) w n b (z b) (z b)).2.1 (ry_pC (ry_pA ym w b (z b)) w n b (z b) (z b)).2.2) w b (ry_pC (ry_pA ym w b (z b)) w n b (z b) (z b)).2.1) w (ry_pC (ry_pA ym w b (z b)) w n b (z b) (z b)).2.1 (ry_pC (ry_pA ym w b (z b)) w n b (z b) (z b)).2.2) w b (z b) j) w b (nI j) (z b) = true then 1 else 0)), (9, .ref q7), (8, .int 1), (7, .int (ry_pD ((ry_pC (ry_pA ym w b (z b)) w n b (z b) (z b)).1) w b (ry_m0 (ry_pA ym w b (z b)) w b (z b) (ry_pC (ry_pA ym w b (z b)) w n b (z b) (z b))) (z b))), (6, .int (ry_pB (ry_pA ym w b (z b)) w b (z b))), (5, .int ((ry_pC (ry_pA ym w b (z b)) w n b (z b) (z b)).2.2)), (4, .int ((ry_pC (ry_pA ym w b (z b)) w n b (z b) (z b)).2.1)), (3, .int (nI ((8 * b) + (z b)))), (2, .int (nI (8 * b))), (0, .ref (bd_ea E 18 w 0)), (1, .int (nI b))]) hx hb dX6_play_547 hl (k := 1) rfl (nI_1 j) (by decide) rfl (fun ls hl => ?_)
                                      refine lv_goto (tgt := 462) hx hb dX6_play_550 (by decide) ?_
                                      exact ih8 (j + 1) (by omega) (by omega) _ _ (hR.eq rfl (by first | (simp (config := { decide := true }) only [ry_pE, ry_pE1, eq_true c29, eq_true nc29, eq_true c91, eq_true nc91, eq_true c127, eq_true nc127, eq_true c240, eq_true nc240, eq_false c357, eq_false c374, eq_false c471, eq_false nc471, eq_true c491, ↓reduceIte, not_true_eq_false, not_false_eq_true, and_self, and_true, true_and, and_false, false_and]; done) | rfl)) hS _ (lv_sub hl [0, 2, 3, 4, 5, 6, 7, 8, 9, 10, 11] rfl)
                              exact lp8 (n + 1) 0 (by omega) (by omega) _ _ (hR.eq rfl rfl) hS _ (by first | exact lv_sub hl [0, 1, 2, 3, 4, 5, 6, 7, 8, 9, 10] rfl | (rw [show (nI 0 : Int32) = 0 from by first | rfl | decide | simp [nI_0]]; exact lv_sub hl [0, 1, 2, 3, 4, 5, 6, 7, 8, 9, 10] rfl))
                        · skip
                          have nc240 : ¬ ((8 * b) + (z b)) ≤ (8 * b + j) := fun q9 => c240 ((nI_leI (a := ((8 * b) + (z b))) (b := (8 * b + j)) (by omega) (by omega)).mpr q9)
                          refine lv_aload_n hx hb dX6_play_243 rfl (lv_at hl 7 rfl) ?_
                          refine bd_g_X6_who C hR (by omega) qf_X6_31 dX6_play_244 ?_
                          refine lv_iload hx hb dX6_play_247 (lv_at hl 0 rfl) ?_
                          refine bd_ld_24 C hR (by omega) (j := (8 * b + j)) (by omega) dX6_play_249 ?_
                          refine lv_iconst (v := (-1)) hx hb dX6_play_250 (by decide) ?_
                          refine lv_icmp_eq (tgt := 348) hx hb dX6_play_251 (by decide) (fun c251 => ?_) (fun c251 => ?_)
                          · skip
                            refine lv_iinc (v := nI ((8 * b + j) + 1)) (lv' := [(8, .int (nI ((8 * b + j) + 1))), (7, .int (ry_pD ((ry_pC (ry_pA ym w b (z b)) w n b (z b) (z b)).1) w b (ry_m0 (ry_pA ym w b (z b)) w b (z b) (ry_pC (ry_pA ym w b (z b)) w n b (z b) (z b))) j)), (6, .int (ry_pB (ry_pA ym w b (z b)) w b (z b))), (5, .int ((ry_pC (ry_pA ym w b (z b)) w n b (z b) (z b)).2.2)), (4, .int ((ry_pC (ry_pA ym w b (z b)) w n b (z b) (z b)).2.1)), (3, .int (nI ((8 * b) + (z b)))), (2, .int (nI (8 * b))), (0, .ref (bd_ea E 18 w 0)), (1, .int (nI b))]) hx hb dX6_play_348 hl (k := 0) rfl (nI_1 (8 * b + j)) (by decide) rfl (fun ls hl => ?_)
                            refine lv_goto (tgt := 237) hx hb dX6_play_351 (by decide) ?_
                            exact ih4 (j + 1) (by omega) (by omega) _ _ (hR.eq rfl rfl) hS _ (by rw [show (nI (8 * b + (j + 1)) : Int32) = nI ((8 * b + j) + 1) from (by first | (simp (config := { decide := true }) only [ry_pD, ry_mk, eq_true c29, eq_true nc29, eq_true c91, eq_true nc91, eq_true c127, eq_true nc127, eq_false c240, eq_false nc240, eq_true c251, ↓reduceIte, not_true_eq_false, not_false_eq_true, and_self, and_true, true_and, and_false, false_and]; done) | rfl)]; rw [show (ry_pD ((ry_pC (ry_pA ym w b (z b)) w n b (z b) (z b)).1) w b (ry_m0 (ry_pA ym w b (z b)) w b (z b) (ry_pC (ry_pA ym w b (z b)) w n b (z b) (z b))) (j + 1) : Int32) = ry_pD ((ry_pC (ry_pA ym w b (z b)) w n b (z b) (z b)).1) w b (ry_m0 (ry_pA ym w b (z b)) w b (z b) (ry_pC (ry_pA ym w b (z b)) w n b (z b) (z b))) j from (by first | (simp (config := { decide := true }) only [ry_pD, ry_mk, eq_true c29, eq_true nc29, eq_true c91, eq_true nc91, eq_true c127, eq_true nc127, eq_false c240, eq_false nc240, eq_true c251, ↓reduceIte, not_true_eq_false, not_false_eq_true, and_self, and_true, true_and, and_false, false_and]; done) | rfl)]; exact lv_sub hl [0, 1, 2, 3, 4, 5, 6, 7, 8] rfl)
                          · skip
                            obtain ⟨hi1, hi2⟩ := (show ry_Sh ((ry_pC (ry_pA ym w b (z b)) w n b (z b) (z b)).1) n nb z from ry_pC_sh (ry_pA_sh hyO (z b)) (z b)).2.2.2.2.2.1 (8 * b + j) (by omega)
                            obtain ⟨hu1, hu2⟩ := (ry_pC_wh hy24 (ry_pA_wh (fun q9 h9 => hm b (by omega) q9 h9) (z b) (Nat.le_refl _)) (z b) j (by omega)).resolve_left c251
                            refine lv_iload hx hb dX6_play_254 (lv_at hl 1 rfl) ?_
                            refine lv_aload_n hx hb dX6_play_256 rfl (lv_at hl 7 rfl) ?_
                            refine bd_g_X6_this_0 C hR (by omega) qf_X6_3 dX6_play_257 ?_
                            refine bd_gN_X7_weight C hR  (List.mem_of_getElem? (i := 18) rfl) dX6_play_260 ?_
                            refine lv_aload_n hx hb dX6_play_263 rfl (lv_at hl 7 rfl) ?_
                            refine bd_g_X6_this_0 C hR (by omega) qf_X6_3 dX6_play_264 ?_
                            refine bd_gN_X7_instrument C hR  (List.mem_of_getElem? (i := 15) rfl) dX6_play_267 ?_
                            refine lv_iload hx hb dX6_play_270 (lv_at hl 0 rfl) ?_
                            refine bd_ld_15 C hR  (j := (8 * b + j)) (by omega) dX6_play_272 ?_
                            refine bd_ti (j := (((ry_pC (ry_pA ym w b (z b)) w n b (z b) (z b)).1) 15 0 (8 * b + j)).toNatClampNeg) (bd_tn hi1) ?_
                            refine bd_ld_17 C hR  (j := ((((ry_pC (ry_pA ym w b (z b)) w n b (z b) (z b)).1) 15 0 (8 * b + j)).toNatClampNeg)) (by omega) dX6_play_273 ?_
                            refine lv_iconst (v := 0) hx hb dX6_play_274 (by decide) ?_
                            refine lv_bipush (v := 10) hx hb dX6_play_275 (by decide) ?_
                            refine lv_aload_n hx hb dX6_play_277 rfl (lv_at hl 7 rfl) ?_
                            refine bd_g_X6_this_0 C hR (by omega) qf_X6_3 dX6_play_278 ?_
                            refine bd_gN_X7_skill C hR  (List.mem_of_getElem? (i := 16) rfl) dX6_play_281 ?_
                            refine lv_iconst (v := 4) hx hb dX6_play_284 (by decide) ?_
                            refine lv_aload_n hx hb dX6_play_285 rfl (lv_at hl 7 rfl) ?_
                            refine bd_g_X6_who C hR (by omega) qf_X6_31 dX6_play_286 ?_
                            refine lv_iload hx hb dX6_play_289 (lv_at hl 0 rfl) ?_
                            refine bd_ld_24 C hR (by omega) (j := (8 * b + j)) (by omega) dX6_play_291 ?_
                            refine lv_imul hx hb dX6_play_292 ?_
                            refine lv_aload_n hx hb dX6_play_293 rfl (lv_at hl 7 rfl) ?_
                            refine bd_g_X6_this_0 C hR (by omega) qf_X6_3 dX6_play_294 ?_
                            refine bd_gN_X7_instrument C hR  (List.mem_of_getElem? (i := 15) rfl) dX6_play_297 ?_
                            refine lv_iload hx hb dX6_play_300 (lv_at hl 0 rfl) ?_
                            refine bd_ld_15 C hR  (j := (8 * b + j)) (by omega) dX6_play_302 ?_
                            refine lv_iadd hx hb dX6_play_303 ?_
                            refine bd_ti (j := 4 * (((ry_pC (ry_pA ym w b (z b)) w n b (z b) (z b)).1) 24 w (8 * b + j)).toNatClampNeg + (((ry_pC (ry_pA ym w b (z b)) w n b (z b) (z b)).1) 15 0 (8 * b + j)).toNatClampNeg) (bd_ix4 hu1 hi1) ?_
                            refine bd_ld_13 C hR  (j := (4 * (((ry_pC (ry_pA ym w b (z b)) w n b (z b) (z b)).1) 24 w (8 * b + j)).toNatClampNeg + (((ry_pC (ry_pA ym w b (z b)) w n b (z b) (z b)).1) 15 0 (8 * b + j)).toNatClampNeg)) (by omega) dX6_play_304 ?_
                            refine lv_iadd hx hb dX6_play_305 ?_
                            refine lv_aload_n hx hb dX6_play_306 rfl (lv_at hl 7 rfl) ?_
                            refine bd_g_X6_this_0 C hR (by omega) qf_X6_3 dX6_play_307 ?_
                            refine bd_gN_X7_hard C hR  (List.mem_of_getElem? (i := 19) rfl) dX6_play_310 ?_
                            refine lv_aload_n hx hb dX6_play_313 rfl (lv_at hl 7 rfl) ?_
                            refine bd_g_X6_this_0 C hR (by omega) qf_X6_3 dX6_play_314 ?_
                            refine bd_gN_X7_instrument C hR  (List.mem_of_getElem? (i := 15) rfl) dX6_play_317 ?_
                            refine lv_iload hx hb dX6_play_320 (lv_at hl 0 rfl) ?_
                            refine bd_ld_15 C hR  (j := (8 * b + j)) (by omega) dX6_play_322 ?_
                            refine bd_ti (j := (((ry_pC (ry_pA ym w b (z b)) w n b (z b) (z b)).1) 15 0 (8 * b + j)).toNatClampNeg) (bd_tn hi1) ?_
                            refine bd_ld_16 C hR  (j := ((((ry_pC (ry_pA ym w b (z b)) w n b (z b) (z b)).1) 15 0 (8 * b + j)).toNatClampNeg)) (by omega) dX6_play_323 ?_
                            refine lv_isub hx hb dX6_play_324 ?_
                            refine lv_aload_n hx hb dX6_play_325 rfl (lv_at hl 7 rfl) ?_
                            refine bd_g_X6_tired C hR (by omega) qf_X6_15 dX6_play_326 ?_
                            refine lv_aload_n hx hb dX6_play_329 rfl (lv_at hl 7 rfl) ?_
                            refine bd_g_X6_who C hR (by omega) qf_X6_31 dX6_play_330 ?_
                            refine lv_iload hx hb dX6_play_333 (lv_at hl 0 rfl) ?_
                            refine bd_ld_24 C hR (by omega) (j := (8 * b + j)) (by omega) dX6_play_335 ?_
                            refine bd_ti (j := (((ry_pC (ry_pA ym w b (z b)) w n b (z b) (z b)).1) 24 w (8 * b + j)).toNatClampNeg) (bd_tn hu1) ?_
                            refine bd_ld_19 C hR (by omega) (j := ((((ry_pC (ry_pA ym w b (z b)) w n b (z b) (z b)).1) 24 w (8 * b + j)).toNatClampNeg)) (by omega) dX6_play_336 ?_
                            refine lv_bipush (v := 20) hx hb dX6_play_337 (by decide) ?_
                            refine lv_idiv hx hb dX6_play_339 (by decide) ?_
                            refine lv_isub hx hb dX6_play_340 ?_
                            refine bd_max C hl.1 qm_X6_95 ⟨Nat.le_of_ble_eq_true rfl, Nat.le_of_ble_eq_true rfl⟩ ⟨by show 0 + 0 ≤ 1; omega, by show 0 + 0 ≤ 4; omega⟩ dX6_play_341 ?_
                            refine lv_imul hx hb dX6_play_344 ?_
                            refine lv_iadd hx hb dX6_play_345 ?_
                            refine lv_istore (lv' := [(7, .int ((ry_pD ((ry_pC (ry_pA ym w b (z b)) w n b (z b) (z b)).1) w b (ry_m0 (ry_pA ym w b (z b)) w b (z b) (ry_pC (ry_pA ym w b (z b)) w n b (z b) (z b))) j) + ((((ry_pC (ry_pA ym w b (z b)) w n b (z b) (z b)).1) 17 0 ((((ry_pC (ry_pA ym w b (z b)) w n b (z b) (z b)).1) 15 0 (8 * b + j)).toNatClampNeg)) * (bd_mx 0 (((10 + (((ry_pC (ry_pA ym w b (z b)) w n b (z b) (z b)).1) 13 0 (4 * (((ry_pC (ry_pA ym w b (z b)) w n b (z b) (z b)).1) 24 w (8 * b + j)).toNatClampNeg + (((ry_pC (ry_pA ym w b (z b)) w n b (z b) (z b)).1) 15 0 (8 * b + j)).toNatClampNeg))) - (((ry_pC (ry_pA ym w b (z b)) w n b (z b) (z b)).1) 16 0 ((((ry_pC (ry_pA ym w b (z b)) w n b (z b) (z b)).1) 15 0 (8 * b + j)).toNatClampNeg))) - ((((ry_pC (ry_pA ym w b (z b)) w n b (z b) (z b)).1) 19 w ((((ry_pC (ry_pA ym w b (z b)) w n b (z b) (z b)).1) 24 w (8 * b + j)).toNatClampNeg)) / 20)))))), (8, .int (nI (8 * b + j))), (6, .int (ry_pB (ry_pA ym w b (z b)) w b (z b))), (5, .int ((ry_pC (ry_pA ym w b (z b)) w n b (z b) (z b)).2.2)), (4, .int ((ry_pC (ry_pA ym w b (z b)) w n b (z b) (z b)).2.1)), (3, .int (nI ((8 * b) + (z b)))), (2, .int (nI (8 * b))), (0, .ref (bd_ea E 18 w 0)), (1, .int (nI b))]) hx hb dX6_play_346 hl (by decide) rfl (fun ls hl => ?_)
                            refine lv_iinc (v := nI ((8 * b + j) + 1)) (lv' := [(8, .int (nI ((8 * b + j) + 1))), (7, .int ((ry_pD ((ry_pC (ry_pA ym w b (z b)) w n b (z b) (z b)).1) w b (ry_m0 (ry_pA ym w b (z b)) w b (z b) (ry_pC (ry_pA ym w b (z b)) w n b (z b) (z b))) j) + ((((ry_pC (ry_pA ym w b (z b)) w n b (z b) (z b)).1) 17 0 ((((ry_pC (ry_pA ym w b (z b)) w n b (z b) (z b)).1) 15 0 (8 * b + j)).toNatClampNeg)) * (bd_mx 0 (((10 + (((ry_pC (ry_pA ym w b (z b)) w n b (z b) (z b)).1) 13 0 (4 * (((ry_pC (ry_pA ym w b (z b)) w n b (z b) (z b)).1) 24 w (8 * b + j)).toNatClampNeg + (((ry_pC (ry_pA ym w b (z b)) w n b (z b) (z b)).1) 15 0 (8 * b + j)).toNatClampNeg))) - (((ry_pC (ry_pA ym w b (z b)) w n b (z b) (z b)).1) 16 0 ((((ry_pC (ry_pA ym w b (z b)) w n b (z b) (z b)).1) 15 0 (8 * b + j)).toNatClampNeg))) - ((((ry_pC (ry_pA ym w b (z b)) w n b (z b) (z b)).1) 19 w ((((ry_pC (ry_pA ym w b (z b)) w n b (z b) (z b)).1) 24 w (8 * b + j)).toNatClampNeg)) / 20)))))), (6, .int (ry_pB (ry_pA ym w b (z b)) w b (z b))), (5, .int ((ry_pC (ry_pA ym w b (z b)) w n b (z b) (z b)).2.2)), (4, .int ((ry_pC (ry_pA ym w b (z b)) w n b (z b) (z b)).2.1)), (3, .int (nI ((8 * b) + (z b)))), (2, .int (nI (8 * b))), (0, .ref (bd_ea E 18 w 0)), (1, .int (nI b))]) hx hb dX6_play_348 hl (k := 1) rfl (nI_1 (8 * b + j)) (by decide) rfl (fun ls hl => ?_)
                            refine lv_goto (tgt := 237) hx hb dX6_play_351 (by decide) ?_
                            exact ih4 (j + 1) (by omega) (by omega) _ _ (hR.eq rfl rfl) hS _ (by rw [show (nI (8 * b + (j + 1)) : Int32) = nI ((8 * b + j) + 1) from (by first | (simp (config := { decide := true }) only [ry_pD, ry_mk, eq_true c29, eq_true nc29, eq_true c91, eq_true nc91, eq_true c127, eq_true nc127, eq_false c240, eq_false nc240, eq_false c251, ↓reduceIte, not_true_eq_false, not_false_eq_true, and_self, and_true, true_and, and_false, false_and]; done) | rfl)]; rw [show (ry_pD ((ry_pC (ry_pA ym w b (z b)) w n b (z b) (z b)).1) w b (ry_m0 (ry_pA ym w b (z b)) w b (z b) (ry_pC (ry_pA ym w b (z b)) w n b (z b) (z b))) (j + 1) : Int32) = (ry_pD ((ry_pC (ry_pA ym w b (z b)) w n b (z b) (z b)).1) w b (ry_m0 (ry_pA ym w b (z b)) w b (z b) (ry_pC (ry_pA ym w b (z b)) w n b (z b) (z b))) j) + ((((ry_pC (ry_pA ym w b (z b)) w n b (z b) (z b)).1) 17 0 ((((ry_pC (ry_pA ym w b (z b)) w n b (z b) (z b)).1) 15 0 (8 * b + j)).toNatClampNeg)) * (bd_mx 0 (((10 + (((ry_pC (ry_pA ym w b (z b)) w n b (z b) (z b)).1) 13 0 (4 * (((ry_pC (ry_pA ym w b (z b)) w n b (z b) (z b)).1) 24 w (8 * b + j)).toNatClampNeg + (((ry_pC (ry_pA ym w b (z b)) w n b (z b) (z b)).1) 15 0 (8 * b + j)).toNatClampNeg))) - (((ry_pC (ry_pA ym w b (z b)) w n b (z b) (z b)).1) 16 0 ((((ry_pC (ry_pA ym w b (z b)) w n b (z b) (z b)).1) 15 0 (8 * b + j)).toNatClampNeg))) - ((((ry_pC (ry_pA ym w b (z b)) w n b (z b) (z b)).1) 19 w ((((ry_pC (ry_pA ym w b (z b)) w n b (z b) (z b)).1) 24 w (8 * b + j)).toNatClampNeg)) / 20)))) from (by first | (simp (config := { decide := true }) only [ry_pD, ry_mk, eq_true c29, eq_true nc29, eq_true c91, eq_true nc91, eq_true c127, eq_true nc127, eq_false c240, eq_false nc240, eq_false c251, ↓reduceIte, not_true_eq_false, not_false_eq_true, and_self, and_true, true_and, and_false, false_and]; done) | rfl)]; exact lv_sub hl [0, 1, 2, 3, 4, 5, 6, 7, 8] rfl)
                    exact lp4 ((z b) + 1) 0 (by omega) (by omega) _ _ (hR.eq rfl rfl) hS _ (by rw [show (nI (8 * b + 0) : Int32) = nI (8 * b) from by rfl]; rw [show (ry_pD ((ry_pC (ry_pA ym w b (z b)) w n b (z b) (z b)).1) w b (ry_m0 (ry_pA ym w b (z b)) w b (z b) (ry_pC (ry_pA ym w b (z b)) w n b (z b) (z b))) 0 : Int32) = ry_m0 (ry_pA ym w b (z b)) w b (z b) (ry_pC (ry_pA ym w b (z b)) w n b (z b) (z b)) from by rfl]; exact lv_sub hl [0, 1, 2, 3, 4, 5, 6, 7, 8] rfl)
                  · skip
                    have nc127 : ¬ ((8 * b) + (z b)) ≤ (8 * b + j) := fun q9 => c127 ((nI_leI (a := ((8 * b) + (z b))) (b := (8 * b + j)) (by omega) (by omega)).mpr q9)
                    refine lv_aload_n hx hb dX6_play_130 rfl (lv_at hl 6 rfl) ?_
                    refine bd_g_X6_who C hR (by omega) qf_X6_31 dX6_play_131 ?_
                    refine lv_iload hx hb dX6_play_134 (lv_at hl 0 rfl) ?_
                    refine bd_ld_24 C hR (by omega) (j := (8 * b + j)) (by omega) dX6_play_136 ?_
                    refine lv_iconst (v := (-1)) hx hb dX6_play_137 (by decide) ?_
                    refine lv_icmp_eq (tgt := 144) hx hb dX6_play_138 (by decide) (fun c138 => ?_) (fun c138 => ?_)
                    · skip
                      refine lv_aload_n hx hb dX6_play_144 rfl (lv_at hl 6 rfl) ?_
                      refine bd_g_X6_who C hR (by omega) qf_X6_31 dX6_play_145 ?_
                      refine lv_iload hx hb dX6_play_148 (lv_at hl 0 rfl) ?_
                      refine lv_aload_n hx hb dX6_play_150 rfl (lv_at hl 6 rfl) ?_
                      refine lv_iload_n hx hb dX6_play_151 rfl (lv_at hl 7 rfl) ?_
                      refine lv_iload hx hb dX6_play_152 (lv_at hl 0 rfl) ?_
                      refine bd_cV1 [.int (nI b), .int (nI (8 * b + j))] [.int (nI (8 * b + j)), .ref (bd_ea E 24 w 0)] C (k_X6_find l E xm ((ry_pC (ry_pA ym w b (z b)) w n b (z b) j).1) om w n nb z b (8 * b + j) (by omega) (ry_pC_sh (ry_pA_sh hyO (z b)) j) (by omega) (by omega) (by rw [ry_pC_f (by decide) (by decide) (by decide), ry_pA_f (by decide)]; exact hm b (by omega) j (by omega))) hR hS (bd_recv C.2 hR ⟨by decide, show w < 2 by omega, (by decide)⟩ rfl rfl) qm_X6_85 qi_X6_find qs_X6_find qz_X6 qc_X6_find qp_X6_find ⟨Nat.le_of_ble_eq_true rfl, Nat.le_of_ble_eq_true rfl⟩ hl.1 (Nat.le_of_ble_eq_true rfl) dX6_play_154 ⟨by show 0 + 0 ≤ 1; omega, by show 0 + 0 ≤ 4; omega⟩ (fun H locs hR hS hz154 => ?_)
                      refine bd_st_24 C hR hS (by omega) (j := (8 * b + j)) (by omega) dX6_play_157 (fun H locs hR hS => ?_)
                      refine lv_aload_n hx hb dX6_play_158 rfl (lv_at hl 6 rfl) ?_
                      refine bd_g_X6_who C hR (by omega) qf_X6_31 dX6_play_159 ?_
                      refine lv_iload hx hb dX6_play_162 (lv_at hl 0 rfl) ?_
                      refine bd_ld_24 C hR (by omega) (j := (8 * b + j)) (by omega) dX6_play_164 ?_
                      refine lv_iconst (v := (-1)) hx hb dX6_play_165 (by decide) ?_
                      refine lv_icmp_ne (tgt := 175) hx hb dX6_play_166 (by decide) (fun c166 => ?_) (fun c166 => ?_)
                      · skip
                        obtain ⟨hu1, hu2⟩ := (show ry_mv n ((bd_up ((ry_pC (ry_pA ym w b (z b)) w n b (z b) j).1) 24 w (8 * b + j) (ry_who ((ry_pC (ry_pA ym w b (z b)) w n b (z b) j).1) w n b (z b) (8 * b + j))) 24 w (8 * b + j)) by rw [bd_up_s]; exact ry_fi_mv hy24 n (Nat.le_refl n)).resolve_left c166
                        refine lv_iinc (v := ((ry_pC (ry_pA ym w b (z b)) w n b (z b) j).2.1) + 1) (lv' := [(4, .int (((ry_pC (ry_pA ym w b (z b)) w n b (z b) j).2.1) + 1)), (7, .int (nI (8 * b + j))), (6, .int (ry_pB (ry_pA ym w b (z b)) w b (z b))), (5, .int ((ry_pC (ry_pA ym w b (z b)) w n b (z b) j).2.2)), (3, .int (nI ((8 * b) + (z b)))), (2, .int (nI (8 * b))), (0, .ref (bd_ea E 18 w 0)), (1, .int (nI b))]) hx hb dX6_play_175 hl (k := 3) rfl rfl (by decide) rfl (fun ls hl => ?_)
                        refine lv_aload_n hx hb dX6_play_178 rfl (lv_at hl 6 rfl) ?_
                        refine bd_g_X6_times C hR (by omega) qf_X6_46 dX6_play_179 ?_
                        refine lv_aload_n hx hb dX6_play_182 rfl (lv_at hl 6 rfl) ?_
                        refine bd_g_X6_who C hR (by omega) qf_X6_31 dX6_play_183 ?_
                        refine lv_iload hx hb dX6_play_186 (lv_at hl 1 rfl) ?_
                        refine bd_ld_24 C hR (by omega) (j := (8 * b + j)) (by omega) dX6_play_188 ?_
                        refine lv_dup2_11 hx hb dX6_play_189 rfl rfl ?_
                        refine bd_ti (j := ((bd_up ((ry_pC (ry_pA ym w b (z b)) w n b (z b) j).1) 24 w (8 * b + j) (ry_who ((ry_pC (ry_pA ym w b (z b)) w n b (z b) j).1) w n b (z b) (8 * b + j))) 24 w (8 * b + j)).toNatClampNeg) (bd_tn hu1) ?_
                        refine bd_ld_29 C hR (by omega) (j := (((bd_up ((ry_pC (ry_pA ym w b (z b)) w n b (z b) j).1) 24 w (8 * b + j) (ry_who ((ry_pC (ry_pA ym w b (z b)) w n b (z b) j).1) w n b (z b) (8 * b + j))) 24 w (8 * b + j)).toNatClampNeg)) (by omega) dX6_play_190 ?_
                        refine lv_iconst (v := 1) hx hb dX6_play_191 (by decide) ?_
                        refine lv_iadd hx hb dX6_play_192 ?_
                        refine bd_ti2 (j := ((bd_up ((ry_pC (ry_pA ym w b (z b)) w n b (z b) j).1) 24 w (8 * b + j) (ry_who ((ry_pC (ry_pA ym w b (z b)) w n b (z b) j).1) w n b (z b) (8 * b + j))) 24 w (8 * b + j)).toNatClampNeg) (bd_tn hu1) ?_
                        refine bd_st_29 C hR hS (by omega) (j := (((bd_up ((ry_pC (ry_pA ym w b (z b)) w n b (z b) j).1) 24 w (8 * b + j) (ry_who ((ry_pC (ry_pA ym w b (z b)) w n b (z b) j).1) w n b (z b) (8 * b + j))) 24 w (8 * b + j)).toNatClampNeg)) (by omega) dX6_play_193 (fun H locs hR hS => ?_)
                        refine lv_aload_n hx hb dX6_play_194 rfl (lv_at hl 6 rfl) ?_
                        refine bd_g_X6_deputy C hR (by omega) qf_X6_25 dX6_play_195 ?_
                        refine lv_aload_n hx hb dX6_play_198 rfl (lv_at hl 6 rfl) ?_
                        refine bd_g_X6_who C hR (by omega) qf_X6_31 dX6_play_199 ?_
                        refine lv_iload hx hb dX6_play_202 (lv_at hl 1 rfl) ?_
                        refine bd_ld_24 C hR (by omega) (j := (8 * b + j)) (by omega) dX6_play_204 ?_
                        have hq1 : ¬ ((bd_up (bd_up ((ry_pC (ry_pA ym w b (z b)) w n b (z b) j).1) 24 w (8 * b + j) (ry_who ((ry_pC (ry_pA ym w b (z b)) w n b (z b) j).1) w n b (z b) (8 * b + j))) 29 w (((bd_up ((ry_pC (ry_pA ym w b (z b)) w n b (z b) j).1) 24 w (8 * b + j) (ry_who ((ry_pC (ry_pA ym w b (z b)) w n b (z b) j).1) w n b (z b) (8 * b + j))) 24 w (8 * b + j)).toNatClampNeg) (((bd_up ((ry_pC (ry_pA ym w b (z b)) w n b (z b) j).1) 24 w (8 * b + j) (ry_who ((ry_pC (ry_pA ym w b (z b)) w n b (z b) j).1) w n b (z b) (8 * b + j))) 29 w (((bd_up ((ry_pC (ry_pA ym w b (z b)) w n b (z b) j).1) 24 w (8 * b + j) (ry_who ((ry_pC (ry_pA ym w b (z b)) w n b (z b) j).1) w n b (z b) (8 * b + j))) 24 w (8 * b + j)).toNatClampNeg)) + 1)) 24 w (8 * b + j)) < 0 := by rw [bd_up_f (by decide)]; exact hu1
                        have hq2 : ((bd_up (bd_up ((ry_pC (ry_pA ym w b (z b)) w n b (z b) j).1) 24 w (8 * b + j) (ry_who ((ry_pC (ry_pA ym w b (z b)) w n b (z b) j).1) w n b (z b) (8 * b + j))) 29 w (((bd_up ((ry_pC (ry_pA ym w b (z b)) w n b (z b) j).1) 24 w (8 * b + j) (ry_who ((ry_pC (ry_pA ym w b (z b)) w n b (z b) j).1) w n b (z b) (8 * b + j))) 24 w (8 * b + j)).toNatClampNeg) (((bd_up ((ry_pC (ry_pA ym w b (z b)) w n b (z b) j).1) 24 w (8 * b + j) (ry_who ((ry_pC (ry_pA ym w b (z b)) w n b (z b) j).1) w n b (z b) (8 * b + j))) 29 w (((bd_up ((ry_pC (ry_pA ym w b (z b)) w n b (z b) j).1) 24 w (8 * b + j) (ry_who ((ry_pC (ry_pA ym w b (z b)) w n b (z b) j).1) w n b (z b) (8 * b + j))) 24 w (8 * b + j)).toNatClampNeg)) + 1)) 24 w (8 * b + j)).toNatClampNeg < n := by rw [bd_up_f (by decide)]; exact hu2
                        refine lv_dup2_11 hx hb dX6_play_205 rfl rfl ?_
                        refine bd_ti (j := ((bd_up (bd_up ((ry_pC (ry_pA ym w b (z b)) w n b (z b) j).1) 24 w (8 * b + j) (ry_who ((ry_pC (ry_pA ym w b (z b)) w n b (z b) j).1) w n b (z b) (8 * b + j))) 29 w (((bd_up ((ry_pC (ry_pA ym w b (z b)) w n b (z b) j).1) 24 w (8 * b + j) (ry_who ((ry_pC (ry_pA ym w b (z b)) w n b (z b) j).1) w n b (z b) (8 * b + j))) 24 w (8 * b + j)).toNatClampNeg) (((bd_up ((ry_pC (ry_pA ym w b (z b)) w n b (z b) j).1) 24 w (8 * b + j) (ry_who ((ry_pC (ry_pA ym w b (z b)) w n b (z b) j).1) w n b (z b) (8 * b + j))) 29 w (((bd_up ((ry_pC (ry_pA ym w b (z b)) w n b (z b) j).1) 24 w (8 * b + j) (ry_who ((ry_pC (ry_pA ym w b (z b)) w n b (z b) j).1) w n b (z b) (8 * b + j))) 24 w (8 * b + j)).toNatClampNeg)) + 1)) 24 w (8 * b + j)).toNatClampNeg) (bd_tn hq1) ?_
                        refine bd_ld_22 C hR (by omega) (j := (((bd_up (bd_up ((ry_pC (ry_pA ym w b (z b)) w n b (z b) j).1) 24 w (8 * b + j) (ry_who ((ry_pC (ry_pA ym w b (z b)) w n b (z b) j).1) w n b (z b) (8 * b + j))) 29 w (((bd_up ((ry_pC (ry_pA ym w b (z b)) w n b (z b) j).1) 24 w (8 * b + j) (ry_who ((ry_pC (ry_pA ym w b (z b)) w n b (z b) j).1) w n b (z b) (8 * b + j))) 24 w (8 * b + j)).toNatClampNeg) (((bd_up ((ry_pC (ry_pA ym w b (z b)) w n b (z b) j).1) 24 w (8 * b + j) (ry_who ((ry_pC (ry_pA ym w b (z b)) w n b (z b) j).1) w n b (z b) (8 * b + j))) 29 w (((bd_up ((ry_pC (ry_pA ym w b (z b)) w n b (z b) j).1) 24 w (8 * b + j) (ry_who ((ry_pC (ry_pA ym w b (z b)) w n b (z b) j).1) w n b (z b) (8 * b + j))) 24 w (8 * b + j)).toNatClampNeg)) + 1)) 24 w (8 * b + j)).toNatClampNeg)) (by omega) dX6_play_206 ?_
                        refine lv_iconst (v := 1) hx hb dX6_play_207 (by decide) ?_
                        refine lv_iadd hx hb dX6_play_208 ?_
                        refine bd_ti2 (j := ((bd_up (bd_up ((ry_pC (ry_pA ym w b (z b)) w n b (z b) j).1) 24 w (8 * b + j) (ry_who ((ry_pC (ry_pA ym w b (z b)) w n b (z b) j).1) w n b (z b) (8 * b + j))) 29 w (((bd_up ((ry_pC (ry_pA ym w b (z b)) w n b (z b) j).1) 24 w (8 * b + j) (ry_who ((ry_pC (ry_pA ym w b (z b)) w n b (z b) j).1) w n b (z b) (8 * b + j))) 24 w (8 * b + j)).toNatClampNeg) (((bd_up ((ry_pC (ry_pA ym w b (z b)) w n b (z b) j).1) 24 w (8 * b + j) (ry_who ((ry_pC (ry_pA ym w b (z b)) w n b (z b) j).1) w n b (z b) (8 * b + j))) 29 w (((bd_up ((ry_pC (ry_pA ym w b (z b)) w n b (z b) j).1) 24 w (8 * b + j) (ry_who ((ry_pC (ry_pA ym w b (z b)) w n b (z b) j).1) w n b (z b) (8 * b + j))) 24 w (8 * b + j)).toNatClampNeg)) + 1)) 24 w (8 * b + j)).toNatClampNeg) (bd_tn hq1) ?_
                        refine bd_st_22 C hR hS (by omega) (j := (((bd_up (bd_up ((ry_pC (ry_pA ym w b (z b)) w n b (z b) j).1) 24 w (8 * b + j) (ry_who ((ry_pC (ry_pA ym w b (z b)) w n b (z b) j).1) w n b (z b) (8 * b + j))) 29 w (((bd_up ((ry_pC (ry_pA ym w b (z b)) w n b (z b) j).1) 24 w (8 * b + j) (ry_who ((ry_pC (ry_pA ym w b (z b)) w n b (z b) j).1) w n b (z b) (8 * b + j))) 24 w (8 * b + j)).toNatClampNeg) (((bd_up ((ry_pC (ry_pA ym w b (z b)) w n b (z b) j).1) 24 w (8 * b + j) (ry_who ((ry_pC (ry_pA ym w b (z b)) w n b (z b) j).1) w n b (z b) (8 * b + j))) 29 w (((bd_up ((ry_pC (ry_pA ym w b (z b)) w n b (z b) j).1) 24 w (8 * b + j) (ry_who ((ry_pC (ry_pA ym w b (z b)) w n b (z b) j).1) w n b (z b) (8 * b + j))) 24 w (8 * b + j)).toNatClampNeg)) + 1)) 24 w (8 * b + j)).toNatClampNeg)) (by omega) dX6_play_209 (fun H locs hR hS => ?_)
                        refine lv_iinc (v := nI ((8 * b + j) + 1)) (lv' := [(7, .int (nI ((8 * b + j) + 1))), (4, .int (((ry_pC (ry_pA ym w b (z b)) w n b (z b) j).2.1) + 1)), (6, .int (ry_pB (ry_pA ym w b (z b)) w b (z b))), (5, .int ((ry_pC (ry_pA ym w b (z b)) w n b (z b) j).2.2)), (3, .int (nI ((8 * b) + (z b)))), (2, .int (nI (8 * b))), (0, .ref (bd_ea E 18 w 0)), (1, .int (nI b))]) hx hb dX6_play_210 hl (k := 1) rfl (nI_1 (8 * b + j)) (by decide) rfl (fun ls hl => ?_)
                        refine lv_goto (tgt := 124) hx hb dX6_play_213 (by decide) ?_
                        exact ih3 (j + 1) (by omega) (by omega) _ _ (hR.eq rfl (by first | (simp (config := { decide := true }) only [ry_pC, ry_pC1, ry_pC2, ry_pC3, eq_true c29, eq_true nc29, eq_true c91, eq_true nc91, eq_false c127, eq_false nc127, eq_true c138, eq_false c166, ↓reduceIte, not_true_eq_false, not_false_eq_true, and_self, and_true, true_and, and_false, false_and]; done) | rfl)) hS _ (by rw [show (nI (8 * b + (j + 1)) : Int32) = nI ((8 * b + j) + 1) from (by first | (simp (config := { decide := true }) only [ry_pC, ry_pC1, ry_pC2, ry_pC3, eq_true c29, eq_true nc29, eq_true c91, eq_true nc91, eq_false c127, eq_false nc127, eq_true c138, eq_false c166, ↓reduceIte, not_true_eq_false, not_false_eq_true, and_self, and_true, true_and, and_false, false_and]; done) | rfl)]; rw [show ((ry_pC (ry_pA ym w b (z b)) w n b (z b) (j + 1)).2.2 : Int32) = (ry_pC (ry_pA ym w b (z b)) w n b (z b) j).2.2 from (by first | (simp (config := { decide := true }) only [ry_pC, ry_pC1, ry_pC2, ry_pC3, eq_true c29, eq_true nc29, eq_true c91, eq_true nc91, eq_false c127, eq_false nc127, eq_true c138, eq_false c166, ↓reduceIte, not_true_eq_false, not_false_eq_true, and_self, and_true, true_and, and_false, false_and]; done) | rfl)]; rw [show ((ry_pC (ry_pA ym w b (z b)) w n b (z b) (j + 1)).2.1 : Int32) = ((ry_pC (ry_pA ym w b (z b)) w n b (z b) j).2.1) + 1 from (by first | (simp (config := { decide := true }) only [ry_pC, ry_pC1, ry_pC2, ry_pC3, eq_true c29, eq_true nc29, eq_true c91, eq_true nc91, eq_false c127, eq_false nc127, eq_true c138, eq_false c166, ↓reduceIte, not_true_eq_false, not_false_eq_true, and_self, and_true, true_and, and_false, false_and]; done) | rfl)]; exact lv_sub hl [0, 2, 3, 1, 4, 5, 6, 7] rfl)
                      · skip
                        refine lv_iinc (v := ((ry_pC (ry_pA ym w b (z b)) w n b (z b) j).2.2) + 1) (lv' := [(5, .int (((ry_pC (ry_pA ym w b (z b)) w n b (z b) j).2.2) + 1)), (7, .int (nI (8 * b + j))), (6, .int (ry_pB (ry_pA ym w b (z b)) w b (z b))), (4, .int ((ry_pC (ry_pA ym w b (z b)) w n b (z b) j).2.1)), (3, .int (nI ((8 * b) + (z b)))), (2, .int (nI (8 * b))), (0, .ref (bd_ea E 18 w 0)), (1, .int (nI b))]) hx hb dX6_play_169 hl (k := 2) rfl rfl (by decide) rfl (fun ls hl => ?_)
                        refine lv_goto (tgt := 210) hx hb dX6_play_172 (by decide) ?_
                        refine lv_iinc (v := nI ((8 * b + j) + 1)) (lv' := [(7, .int (nI ((8 * b + j) + 1))), (5, .int (((ry_pC (ry_pA ym w b (z b)) w n b (z b) j).2.2) + 1)), (6, .int (ry_pB (ry_pA ym w b (z b)) w b (z b))), (4, .int ((ry_pC (ry_pA ym w b (z b)) w n b (z b) j).2.1)), (3, .int (nI ((8 * b) + (z b)))), (2, .int (nI (8 * b))), (0, .ref (bd_ea E 18 w 0)), (1, .int (nI b))]) hx hb dX6_play_210 hl (k := 1) rfl (nI_1 (8 * b + j)) (by decide) rfl (fun ls hl => ?_)
                        refine lv_goto (tgt := 124) hx hb dX6_play_213 (by decide) ?_
                        exact ih3 (j + 1) (by omega) (by omega) _ _ (hR.eq rfl (by first | (simp (config := { decide := true }) only [ry_pC, ry_pC1, ry_pC2, ry_pC3, eq_true c29, eq_true nc29, eq_true c91, eq_true nc91, eq_false c127, eq_false nc127, eq_true c138, eq_true c166, ↓reduceIte, not_true_eq_false, not_false_eq_true, and_self, and_true, true_and, and_false, false_and]; done) | rfl)) hS _ (by rw [show (nI (8 * b + (j + 1)) : Int32) = nI ((8 * b + j) + 1) from (by first | (simp (config := { decide := true }) only [ry_pC, ry_pC1, ry_pC2, ry_pC3, eq_true c29, eq_true nc29, eq_true c91, eq_true nc91, eq_false c127, eq_false nc127, eq_true c138, eq_true c166, ↓reduceIte, not_true_eq_false, not_false_eq_true, and_self, and_true, true_and, and_false, false_and]; done) | rfl)]; rw [show ((ry_pC (ry_pA ym w b (z b)) w n b (z b) (j + 1)).2.2 : Int32) = ((ry_pC (ry_pA ym w b (z b)) w n b (z b) j).2.2) + 1 from (by first | (simp (config := { decide := true }) only [ry_pC, ry_pC1, ry_pC2, ry_pC3, eq_true c29, eq_true nc29, eq_true c91, eq_true nc91, eq_false c127, eq_false nc127, eq_true c138, eq_true c166, ↓reduceIte, not_true_eq_false, not_false_eq_true, and_self, and_true, true_and, and_false, false_and]; done) | rfl)]; rw [show ((ry_pC (ry_pA ym w b (z b)) w n b (z b) (j + 1)).2.1 : Int32) = (ry_pC (ry_pA ym w b (z b)) w n b (z b) j).2.1 from (by first | (simp (config := { decide := true }) only [ry_pC, ry_pC1, ry_pC2, ry_pC3, eq_true c29, eq_true nc29, eq_true c91, eq_true nc91, eq_false c127, eq_false nc127, eq_true c138, eq_true c166, ↓reduceIte, not_true_eq_false, not_false_eq_true, and_self, and_true, true_and, and_false, false_and]; done) | rfl)]; exact lv_sub hl [0, 2, 1, 3, 4, 5, 6, 7] rfl)
                    · skip
                      refine lv_goto (tgt := 210) hx hb dX6_play_141 (by decide) ?_
                      refine lv_iinc (v := nI ((8 * b + j) + 1)) (lv' := [(7, .int (nI ((8 * b + j) + 1))), (6, .int (ry_pB (ry_pA ym w b (z b)) w b (z b))), (5, .int ((ry_pC (ry_pA ym w b (z b)) w n b (z b) j).2.2)), (4, .int ((ry_pC (ry_pA ym w b (z b)) w n b (z b) j).2.1)), (3, .int (nI ((8 * b) + (z b)))), (2, .int (nI (8 * b))), (0, .ref (bd_ea E 18 w 0)), (1, .int (nI b))]) hx hb dX6_play_210 hl (k := 0) rfl (nI_1 (8 * b + j)) (by decide) rfl (fun ls hl => ?_)
                      refine lv_goto (tgt := 124) hx hb dX6_play_213 (by decide) ?_
                      exact ih3 (j + 1) (by omega) (by omega) _ _ (hR.eq rfl (by first | (simp (config := { decide := true }) only [ry_pC, ry_pC1, ry_pC2, ry_pC3, eq_true c29, eq_true nc29, eq_true c91, eq_true nc91, eq_false c127, eq_false nc127, eq_false c138, ↓reduceIte, not_true_eq_false, not_false_eq_true, and_self, and_true, true_and, and_false, false_and]; done) | rfl)) hS _ (by rw [show (nI (8 * b + (j + 1)) : Int32) = nI ((8 * b + j) + 1) from (by first | (simp (config := { decide := true }) only [ry_pC, ry_pC1, ry_pC2, ry_pC3, eq_true c29, eq_true nc29, eq_true c91, eq_true nc91, eq_false c127, eq_false nc127, eq_false c138, ↓reduceIte, not_true_eq_false, not_false_eq_true, and_self, and_true, true_and, and_false, false_and]; done) | rfl)]; rw [show ((ry_pC (ry_pA ym w b (z b)) w n b (z b) (j + 1)).2.2 : Int32) = (ry_pC (ry_pA ym w b (z b)) w n b (z b) j).2.2 from (by first | (simp (config := { decide := true }) only [ry_pC, ry_pC1, ry_pC2, ry_pC3, eq_true c29, eq_true nc29, eq_true c91, eq_true nc91, eq_false c127, eq_false nc127, eq_false c138, ↓reduceIte, not_true_eq_false, not_false_eq_true, and_self, and_true, true_and, and_false, false_and]; done) | rfl)]; rw [show ((ry_pC (ry_pA ym w b (z b)) w n b (z b) (j + 1)).2.1 : Int32) = (ry_pC (ry_pA ym w b (z b)) w n b (z b) j).2.1 from (by first | (simp (config := { decide := true }) only [ry_pC, ry_pC1, ry_pC2, ry_pC3, eq_true c29, eq_true nc29, eq_true c91, eq_true nc91, eq_false c127, eq_false nc127, eq_false c138, ↓reduceIte, not_true_eq_false, not_false_eq_true, and_self, and_true, true_and, and_false, false_and]; done) | rfl)]; exact lv_sub hl [0, 1, 2, 3, 4, 5, 6, 7] rfl)
              exact lp3 ((z b) + 1) 0 (by omega) (by omega) _ _ (hR.eq rfl rfl) hS _ (by rw [show (nI (8 * b + 0) : Int32) = nI (8 * b) from by rfl]; rw [show ((ry_pC (ry_pA ym w b (z b)) w n b (z b) 0).2.2 : Int32) = 0 from by rfl]; rw [show ((ry_pC (ry_pA ym w b (z b)) w n b (z b) 0).2.1 : Int32) = 0 from by rfl]; exact lv_sub hl [0, 1, 2, 3, 4, 5, 6, 7] rfl)
            · skip
              have nc91 : ¬ ((8 * b) + (z b)) ≤ (8 * b + j) := fun q9 => c91 ((nI_leI (a := ((8 * b) + (z b))) (b := (8 * b + j)) (by omega) (by omega)).mpr q9)
              refine lv_iload hx hb dX6_play_94 (lv_at hl 1 rfl) ?_
              refine lv_aload_n hx hb dX6_play_96 rfl (lv_at hl 6 rfl) ?_
              refine bd_g_X6_who C hR (by omega) qf_X6_31 dX6_play_97 ?_
              refine lv_iload hx hb dX6_play_100 (lv_at hl 0 rfl) ?_
              refine bd_ld_24 C hR (by omega) (j := (8 * b + j)) (by omega) dX6_play_102 ?_
              refine lv_iconst (v := (-1)) hx hb dX6_play_103 (by decide) ?_
              refine lv_icmp_ne (tgt := 111) hx hb dX6_play_104 (by decide) (fun c104 => ?_) (fun c104 => ?_)
              · skip
                refine lv_iconst (v := 1) hx hb dX6_play_111 (by decide) ?_
                refine lv_iadd hx hb dX6_play_112 ?_
                refine lv_istore (lv' := [(6, .int ((ry_pB (ry_pA ym w b (z b)) w b j) + 1)), (7, .int (nI (8 * b + j))), (5, .int 0), (4, .int 0), (3, .int (nI ((8 * b) + (z b)))), (2, .int (nI (8 * b))), (0, .ref (bd_ea E 18 w 0)), (1, .int (nI b))]) hx hb dX6_play_113 hl (by decide) rfl (fun ls hl => ?_)
                refine lv_iinc (v := nI ((8 * b + j) + 1)) (lv' := [(7, .int (nI ((8 * b + j) + 1))), (6, .int ((ry_pB (ry_pA ym w b (z b)) w b j) + 1)), (5, .int 0), (4, .int 0), (3, .int (nI ((8 * b) + (z b)))), (2, .int (nI (8 * b))), (0, .ref (bd_ea E 18 w 0)), (1, .int (nI b))]) hx hb dX6_play_115 hl (k := 1) rfl (nI_1 (8 * b + j)) (by decide) rfl (fun ls hl => ?_)
                refine lv_goto (tgt := 88) hx hb dX6_play_118 (by decide) ?_
                exact ih2 (j + 1) (by omega) (by omega) _ _ (hR.eq rfl rfl) hS _ (by rw [show (nI (8 * b + (j + 1)) : Int32) = nI ((8 * b + j) + 1) from (by first | (simp (config := { decide := true }) only [ry_pB, eq_true c29, eq_true nc29, eq_false c91, eq_false nc91, eq_false c104, ↓reduceIte, not_true_eq_false, not_false_eq_true, and_self, and_true, true_and, and_false, false_and]; done) | rfl)]; rw [show (ry_pB (ry_pA ym w b (z b)) w b (j + 1) : Int32) = (ry_pB (ry_pA ym w b (z b)) w b j) + 1 from (by first | (simp (config := { decide := true }) only [ry_pB, eq_true c29, eq_true nc29, eq_false c91, eq_false nc91, eq_false c104, ↓reduceIte, not_true_eq_false, not_false_eq_true, and_self, and_true, true_and, and_false, false_and]; done) | rfl)]; exact lv_sub hl [0, 1, 2, 3, 4, 5, 6, 7] rfl)
              · skip
                refine lv_iconst (v := 0) hx hb dX6_play_107 (by decide) ?_
                refine lv_goto (tgt := 112) hx hb dX6_play_108 (by decide) ?_
                refine lv_iadd hx hb dX6_play_112 ?_
                refine lv_istore (lv' := [(6, .int ((ry_pB (ry_pA ym w b (z b)) w b j) + 0)), (7, .int (nI (8 * b + j))), (5, .int 0), (4, .int 0), (3, .int (nI ((8 * b) + (z b)))), (2, .int (nI (8 * b))), (0, .ref (bd_ea E 18 w 0)), (1, .int (nI b))]) hx hb dX6_play_113 hl (by decide) rfl (fun ls hl => ?_)
                refine lv_iinc (v := nI ((8 * b + j) + 1)) (lv' := [(7, .int (nI ((8 * b + j) + 1))), (6, .int ((ry_pB (ry_pA ym w b (z b)) w b j) + 0)), (5, .int 0), (4, .int 0), (3, .int (nI ((8 * b) + (z b)))), (2, .int (nI (8 * b))), (0, .ref (bd_ea E 18 w 0)), (1, .int (nI b))]) hx hb dX6_play_115 hl (k := 1) rfl (nI_1 (8 * b + j)) (by decide) rfl (fun ls hl => ?_)
                refine lv_goto (tgt := 88) hx hb dX6_play_118 (by decide) ?_
                exact ih2 (j + 1) (by omega) (by omega) _ _ (hR.eq rfl rfl) hS _ (by rw [show (nI (8 * b + (j + 1)) : Int32) = nI ((8 * b + j) + 1) from (by first | (simp (config := { decide := true }) only [ry_pB, eq_true c29, eq_true nc29, eq_false c91, eq_false nc91, eq_true c104, ↓reduceIte, not_true_eq_false, not_false_eq_true, and_self, and_true, true_and, and_false, false_and]; done) | rfl)]; rw [show (ry_pB (ry_pA ym w b (z b)) w b (j + 1) : Int32) = (ry_pB (ry_pA ym w b (z b)) w b j) + 0 from (by first | (simp (config := { decide := true }) only [ry_pB, eq_true c29, eq_true nc29, eq_false c91, eq_false nc91, eq_true c104, ↓reduceIte, not_true_eq_false, not_false_eq_true, and_self, and_true, true_and, and_false, false_and]; done) | rfl)]; exact lv_sub hl [0, 1, 2, 3, 4, 5, 6, 7] rfl)
        exact lp2 ((z b) + 1) 0 (by omega) (by omega) _ _ (hR.eq rfl rfl) hS _ (by rw [show (nI (8 * b + 0) : Int32) = nI (8 * b) from by rfl]; rw [show (ry_pB (ry_pA ym w b (z b)) w b 0 : Int32) = 0 from by rfl]; exact lv_sub hl [0, 1, 2, 3, 4, 5, 6, 7] rfl)
      · skip
        have nc29 : ¬ ((8 * b) + (z b)) ≤ (8 * b + j) := fun q9 => c29 ((nI_leI (a := ((8 * b) + (z b))) (b := (8 * b + j)) (by omega) (by omega)).mpr q9)
        refine lv_aload_n hx hb dX6_play_32 rfl (lv_at hl 5 rfl) ?_
        refine bd_g_X6_who C hR (by omega) qf_X6_31 dX6_play_33 ?_
        refine lv_iload hx hb dX6_play_36 (lv_at hl 0 rfl) ?_
        refine lv_aload_n hx hb dX6_play_38 rfl (lv_at hl 5 rfl) ?_
        refine bd_g_X6_member C hR (by omega) qf_X6_28 dX6_play_39 ?_
        refine lv_iload hx hb dX6_play_42 (lv_at hl 0 rfl) ?_
        refine bd_ld_23 C hR (by omega) (j := (8 * b + j)) (by omega) dX6_play_44 ?_
        refine lv_iconst (v := (-1)) hx hb dX6_play_45 (by decide) ?_
        refine lv_icmp_eq (tgt := 74) hx hb dX6_play_46 (by decide) (fun c46 => ?_) (fun c46 => ?_)
        · skip
          refine lv_iconst (v := (-1)) hx hb dX6_play_74 (by decide) ?_
          refine bd_st_24 C hR hS (by omega) (j := (8 * b + j)) (by omega) dX6_play_75 (fun H locs hR hS => ?_)
          refine lv_iinc (v := nI ((8 * b + j) + 1)) (lv' := [(6, .int (nI ((8 * b + j) + 1))), (5, .int 0), (4, .int 0), (3, .int (nI ((8 * b) + (z b)))), (2, .int (nI (8 * b))), (0, .ref (bd_ea E 18 w 0)), (1, .int (nI b))]) hx hb dX6_play_76 hl (k := 0) rfl (nI_1 (8 * b + j)) (by decide) rfl (fun ls hl => ?_)
          refine lv_goto (tgt := 26) hx hb dX6_play_79 (by decide) ?_
          exact ih1 (j + 1) (by omega) (by omega) _ _ (hR.eq rfl (by first | (simp (config := { decide := true }) only [ry_pA, ry_pA1, eq_false c29, eq_false nc29, eq_true c46, ↓reduceIte, not_true_eq_false, not_false_eq_true, and_self, and_true, true_and, and_false, false_and]; done) | rfl)) hS _ (by rw [show (nI (8 * b + (j + 1)) : Int32) = nI ((8 * b + j) + 1) from (by first | (simp (config := { decide := true }) only [ry_pA, ry_pA1, eq_false c29, eq_false nc29, eq_true c46, ↓reduceIte, not_true_eq_false, not_false_eq_true, and_self, and_true, true_and, and_false, false_and]; done) | rfl)]; exact lv_sub hl [0, 1, 2, 3, 4, 5, 6] rfl)
        · skip
          obtain ⟨hv1, hv2⟩ := (show ry_mv n ((ry_pA ym w b j) 23 w (8 * b + j)) by rw [ry_pA_f (by decide)]; exact hm b (by omega) j (by omega)).resolve_left c46
          refine lv_aload_n hx hb dX6_play_49 rfl (lv_at hl 5 rfl) ?_
          refine bd_g_X6_absent C hR (by omega) qf_X6_19 dX6_play_50 ?_
          refine lv_aload_n hx hb dX6_play_53 rfl (lv_at hl 5 rfl) ?_
          refine bd_g_X6_member C hR (by omega) qf_X6_28 dX6_play_54 ?_
          refine lv_iload hx hb dX6_play_57 (lv_at hl 0 rfl) ?_
          refine bd_ld_23 C hR (by omega) (j := (8 * b + j)) (by omega) dX6_play_59 ?_
          refine bd_ti (j := ((ry_pA ym w b j) 23 w (8 * b + j)).toNatClampNeg) (bd_tn hv1) ?_
          refine bd_ld_20 C hR (by omega) (j := (((ry_pA ym w b j) 23 w (8 * b + j)).toNatClampNeg)) (by omega) dX6_play_60 ?_
          refine lv_if_ne (tgt := 74) hx hb dX6_play_61 (by decide) (fun c61 => ?_) (fun c61 => ?_)
          · skip
            refine lv_iconst (v := (-1)) hx hb dX6_play_74 (by decide) ?_
            refine bd_st_24 C hR hS (by omega) (j := (8 * b + j)) (by omega) dX6_play_75 (fun H locs hR hS => ?_)
            refine lv_iinc (v := nI ((8 * b + j) + 1)) (lv' := [(6, .int (nI ((8 * b + j) + 1))), (5, .int 0), (4, .int 0), (3, .int (nI ((8 * b) + (z b)))), (2, .int (nI (8 * b))), (0, .ref (bd_ea E 18 w 0)), (1, .int (nI b))]) hx hb dX6_play_76 hl (k := 0) rfl (nI_1 (8 * b + j)) (by decide) rfl (fun ls hl => ?_)
            refine lv_goto (tgt := 26) hx hb dX6_play_79 (by decide) ?_
            exact ih1 (j + 1) (by omega) (by omega) _ _ (hR.eq rfl (by first | (simp (config := { decide := true }) only [ry_pA, ry_pA1, eq_false c29, eq_false nc29, eq_false c46, eq_false c61, ↓reduceIte, not_true_eq_false, not_false_eq_true, and_self, and_true, true_and, and_false, false_and]; done) | rfl)) hS _ (by rw [show (nI (8 * b + (j + 1)) : Int32) = nI ((8 * b + j) + 1) from (by first | (simp (config := { decide := true }) only [ry_pA, ry_pA1, eq_false c29, eq_false nc29, eq_false c46, eq_false c61, ↓reduceIte, not_true_eq_false, not_false_eq_true, and_self, and_true, true_and, and_false, false_and]; done) | rfl)]; exact lv_sub hl [0, 1, 2, 3, 4, 5, 6] rfl)
          · skip
            refine lv_aload_n hx hb dX6_play_64 rfl (lv_at hl 5 rfl) ?_
            refine bd_g_X6_member C hR (by omega) qf_X6_28 dX6_play_65 ?_
            refine lv_iload hx hb dX6_play_68 (lv_at hl 0 rfl) ?_
            refine bd_ld_23 C hR (by omega) (j := (8 * b + j)) (by omega) dX6_play_70 ?_
            refine lv_goto (tgt := 75) hx hb dX6_play_71 (by decide) ?_
            refine bd_st_24 C hR hS (by omega) (j := (8 * b + j)) (by omega) dX6_play_75 (fun H locs hR hS => ?_)
            refine lv_iinc (v := nI ((8 * b + j) + 1)) (lv' := [(6, .int (nI ((8 * b + j) + 1))), (5, .int 0), (4, .int 0), (3, .int (nI ((8 * b) + (z b)))), (2, .int (nI (8 * b))), (0, .ref (bd_ea E 18 w 0)), (1, .int (nI b))]) hx hb dX6_play_76 hl (k := 0) rfl (nI_1 (8 * b + j)) (by decide) rfl (fun ls hl => ?_)
            refine lv_goto (tgt := 26) hx hb dX6_play_79 (by decide) ?_
            exact ih1 (j + 1) (by omega) (by omega) _ _ (hR.eq rfl (by first | (simp (config := { decide := true }) only [ry_pA, ry_pA1, eq_false c29, eq_false nc29, eq_false c46, eq_true c61, ↓reduceIte, not_true_eq_false, not_false_eq_true, and_self, and_true, true_and, and_false, false_and]; done) | rfl)) hS _ (by rw [show (nI (8 * b + (j + 1)) : Int32) = nI ((8 * b + j) + 1) from (by first | (simp (config := { decide := true }) only [ry_pA, ry_pA1, eq_false c29, eq_false nc29, eq_false c46, eq_true c61, ↓reduceIte, not_true_eq_false, not_false_eq_true, and_self, and_true, true_and, and_false, false_and]; done) | rfl)]; exact lv_sub hl [0, 1, 2, 3, 4, 5, 6] rfl)
  exact lp1 ((z b) + 1) 0 (by omega) (by omega) _ _ (hR.eq rfl rfl) hS _ (by rw [show (nI (8 * b + 0) : Int32) = nI (8 * b) from by rfl]; exact lv_sub hl [0, 1, 2, 3, 4, 5, 6] rfl)
set_option maxHeartbeats 4000000 in
set_option maxRecDepth 100000 in
theorem k_X6_contest (l : Launch) (E : bd_E) (xm ym : bd_M) (om : Nat → Int64) (w : Nat) (n : Nat) (nb : Nat) (z : (Nat→Nat)) (t : Nat) (hw : w < 2) (hy : ry_Sh ym n nb z) (hm : ry_Mb ym w n nb z) (ht : ym 10 w 0 = nI t) (ht2 : t < 1073741824) (hnb : 0 < nb) : bd_Ct l yX6_contest cX6_contest 6 (some .int) 3 83 6 24 E [.ref (bd_ea E 18 w 0)] xm ym om xm (ry_con ym w n nb z t) om (some (.int (ry_kw (ry_k2e ym w n nb z t) w nb z nb))) := by
  refine bd_open RX6 rfl (by decide) (Nat.le_of_ble_eq_true rfl) ?_
  intro p e s m args below meth c ls C hr hlk hS hR hl
  have hx := C.1.1
  have hb := C.1.2.1
  have hy24 := hy.2.1
  have hy6 := hy.2.2.2.1
  have hyO := hy
  have hl : lv_has ls 6 [(0, .ref (bd_ea E 18 w 0))] := hl
  refine lv_iconst (v := 0) hx hb dX6_contest_0 (by decide) ?_
  refine lv_istore_n (lv' := [(1, .int 0), (0, .ref (bd_ea E 18 w 0))]) hx hb dX6_contest_1 rfl hl (by decide) rfl (fun ls hl => ?_)
  have lp1 : ∀ (t1 j : Nat), j ≤ n → n - j < t1 → ∀ (H : Heap) (locs : List Loc), bd_Rep E xm (ry_k1 ym w j) om H → va_S (bd_A E) s.heap H locs → ∀ (ls : Array Slot), lv_has ls 6 [(1, .int (nI j)), (0, .ref (bd_ea E 18 w 0))] → W p l e { frames := 3, cells := 6, slots := 24, locals := 83 } s m args below meth c H locs 0 0 (MQ below (bd_Q E xm (ry_con ym w n nb z t) om (some (.int (ry_kw (ry_k2e ym w n nb z t) w nb z nb)))) args s 6 24 (bd_A E)) (F0 m 2 ls []) := by
    intro t1
    induction t1 with
    | zero => intro j h1 h2; exact absurd h2 (Nat.not_lt_zero _)
    | succ t1 ih1 =>
      intro j hj1 hj2 H locs hR hS ls hl
      refine lv_iload_n hx hb dX6_contest_2 rfl (lv_at hl 0 rfl) ?_
      refine lv_aload_n hx hb dX6_contest_3 rfl (lv_at hl 1 rfl) ?_
      refine bd_g_X6_this_0 C hR (by omega) qf_X6_3 dX6_contest_4 ?_
      refine bd_gN_X7_players C hR  (List.mem_of_getElem? (i := 17) rfl) dX6_contest_7 ?_
      rw [show (ry_k1 ym w j) 1 0 0 = nI n from (show ry_Sh (ry_k1 ym w j) n nb z from (ry_k1_sh hyO j)).1]
      refine lv_icmp_ge (tgt := 26) hx hb dX6_contest_10 (by decide) (fun c10 => ?_) (fun c10 => ?_)
      · skip
        have nc10 : n ≤ j := (nI_leI (a := n) (b := j) (by omega) (by omega)).mp c10
        obtain rfl : n = j := by omega
        refine lv_iconst (v := 0) hx hb dX6_contest_26 (by decide) ?_
        refine lv_istore_n (lv' := [(1, .int 0), (0, .ref (bd_ea E 18 w 0))]) hx hb dX6_contest_27 rfl hl (by decide) rfl (fun ls hl => ?_)
        have lp2 : ∀ (t2 j : Nat), j ≤ nb → nb - j < t2 → ∀ (H : Heap) (locs : List Loc), bd_Rep E xm (ry_k2 (ry_k1 ym w n) w n nb z t j) om H → va_S (bd_A E) s.heap H locs → ∀ (ls : Array Slot), lv_has ls 6 [(1, .int (nI j)), (0, .ref (bd_ea E 18 w 0))] → W p l e { frames := 3, cells := 6, slots := 24, locals := 83 } s m args below meth c H locs j (4 * j) (MQ below (bd_Q E xm (ry_con ym w n nb z t) om (some (.int (ry_kw (ry_k2e ym w n nb z t) w nb z nb)))) args s 6 24 (bd_A E)) (F0 m 28 ls []) := by
          intro t2
          induction t2 with
          | zero => intro j h1 h2; exact absurd h2 (Nat.not_lt_zero _)
          | succ t2 ih2 =>
            intro j hj1 hj2 H locs hR hS ls hl
            refine lv_iload_n hx hb dX6_contest_28 rfl (lv_at hl 0 rfl) ?_
            refine lv_aload_n hx hb dX6_contest_29 rfl (lv_at hl 1 rfl) ?_
            refine bd_g_X6_this_0 C hR (by omega) qf_X6_3 dX6_contest_30 ?_
            refine bd_gN_X7_bands C hR  (List.mem_of_getElem? (i := 13) rfl) dX6_contest_33 ?_
            rw [show (ry_k2 (ry_k1 ym w n) w n nb z t j) 2 0 0 = nI nb from (show ry_Sh (ry_k2 (ry_k1 ym w n) w n nb z t j) n nb z from (ry_k2_sh (ry_k1_sh hyO n) j)).2.2.1]
            refine lv_icmp_ge (tgt := 63) hx hb dX6_contest_36 (by decide) (fun c36 => ?_) (fun c36 => ?_)
            · skip
              have nc36 : nb ≤ j := (nI_leI (a := nb) (b := j) (by omega) (by omega)).mp c36
              obtain rfl : nb = j := by omega
              refine lv_iconst (v := (-1)) hx hb dX6_contest_63 (by decide) ?_
              refine lv_istore_n (lv' := [(1, .int (-1)), (0, .ref (bd_ea E 18 w 0))]) hx hb dX6_contest_64 rfl hl (by decide) rfl (fun ls hl => ?_)
              refine lv_iconst (v := 0) hx hb dX6_contest_65 (by decide) ?_
              refine lv_istore_n (lv' := [(2, .int 0), (1, .int (-1)), (0, .ref (bd_ea E 18 w 0))]) hx hb dX6_contest_66 rfl hl (by decide) rfl (fun ls hl => ?_)
              have lp3 : ∀ (t3 j : Nat), j ≤ nb → nb - j < t3 → ∀ (H : Heap) (locs : List Loc), bd_Rep E xm (ry_k3 (ry_k2e ym w n nb z t) w nb z j) om H → va_S (bd_A E) s.heap H locs → ∀ (ls : Array Slot), lv_has ls 6 [(2, .int (nI j)), (1, .int (ry_kw (ry_k2e ym w n nb z t) w nb z j)), (0, .ref (bd_ea E 18 w 0))] → W p l e { frames := 3, cells := 6, slots := 24, locals := 83 } s m args below meth c H locs nb (4 * nb) (MQ below (bd_Q E xm (ry_con ym w n nb z t) om (some (.int (ry_kw (ry_k2e ym w n nb z t) w nb z nb)))) args s 6 24 (bd_A E)) (F0 m 67 ls []) := by
                intro t3
                induction t3 with
                | zero => intro j h1 h2; exact absurd h2 (Nat.not_lt_zero _)
                | succ t3 ih3 =>
                  intro j hj1 hj2 H locs hR hS ls hl
                  refine lv_iload_n hx hb dX6_contest_67 rfl (lv_at hl 0 rfl) ?_
                  refine lv_aload_n hx hb dX6_contest_68 rfl (lv_at hl 2 rfl) ?_
                  refine bd_g_X6_this_0 C hR (by omega) qf_X6_3 dX6_contest_69 ?_
                  refine bd_gN_X7_bands C hR  (List.mem_of_getElem? (i := 13) rfl) dX6_contest_72 ?_
                  rw [show (ry_k3 (ry_k2e ym w n nb z t) w nb z j) 2 0 0 = nI nb from (show ry_Sh (ry_k3 (ry_k2e ym w n nb z t) w nb z j) n nb z from (ry_k3_sh (ry_k2_sh (ry_k1_sh hyO n) nb) j)).2.2.1]
                  refine lv_icmp_ge (tgt := 291) hx hb dX6_contest_75 (by decide) (fun c75 => ?_) (fun c75 => ?_)
                  · skip
                    have nc75 : nb ≤ j := (nI_leI (a := nb) (b := j) (by omega) (by omega)).mp c75
                    obtain rfl : nb = j := by omega
                    refine lv_iconst (v := 0) hx hb dX6_contest_291 (by decide) ?_
                    refine lv_istore_n (lv' := [(2, .int 0), (1, .int (ry_kw (ry_k2e ym w n nb z t) w nb z nb)), (0, .ref (bd_ea E 18 w 0))]) hx hb dX6_contest_292 rfl hl (by decide) rfl (fun ls hl => ?_)
                    have lp4 : ∀ (t4 j : Nat), j ≤ n → n - j < t4 → ∀ (H : Heap) (locs : List Loc), bd_Rep E xm (ry_k4 (ry_k3 (ry_k2e ym w n nb z t) w nb z nb) w j) om H → va_S (bd_A E) s.heap H locs → ∀ (ls : Array Slot), lv_has ls 6 [(2, .int (nI j)), (1, .int (ry_kw (ry_k2e ym w n nb z t) w nb z nb)), (0, .ref (bd_ea E 18 w 0))] → W p l e { frames := 3, cells := 6, slots := 24, locals := 83 } s m args below meth c H locs nb (4 * nb) (MQ below (bd_Q E xm (ry_con ym w n nb z t) om (some (.int (ry_kw (ry_k2e ym w n nb z t) w nb z nb)))) args s 6 24 (bd_A E)) (F0 m 293 ls []) := by
                      intro t4
                      induction t4 with
                      | zero => intro j h1 h2; exact absurd h2 (Nat.not_lt_zero _)
                      | succ t4 ih4 =>
                        intro j hj1 hj2 H locs hR hS ls hl
                        refine lv_iload_n hx hb dX6_contest_293 rfl (lv_at hl 0 rfl) ?_
                        refine lv_aload_n hx hb dX6_contest_294 rfl (lv_at hl 2 rfl) ?_
                        refine bd_g_X6_this_0 C hR (by omega) qf_X6_3 dX6_contest_295 ?_
                        refine bd_gN_X7_players C hR  (List.mem_of_getElem? (i := 17) rfl) dX6_contest_298 ?_
                        rw [show (ry_k4 (ry_k3 (ry_k2e ym w n nb z t) w nb z nb) w j) 1 0 0 = nI n from (show ry_Sh (ry_k4 (ry_k3 (ry_k2e ym w n nb z t) w nb z nb) w j) n nb z from (ry_k4_sh (ry_k3_sh (ry_k2_sh (ry_k1_sh hyO n) nb) nb) j)).1]
                        refine lv_icmp_ge (tgt := 328) hx hb dX6_contest_301 (by decide) (fun c301 => ?_) (fun c301 => ?_)
                        · skip
                          have nc301 : n ≤ j := (nI_leI (a := n) (b := j) (by omega) (by omega)).mp c301
                          obtain rfl : n = j := by omega
                          refine lv_aload_n hx hb dX6_contest_328 rfl (lv_at hl 2 rfl) ?_
                          refine lv_dup hx hb dX6_contest_329 rfl ?_
                          refine bd_g_X6_contests C hR (by omega) qf_X6_55 dX6_contest_330 ?_
                          refine lv_iconst (v := 1) hx hb dX6_contest_333 (by decide) ?_
                          refine lv_iadd hx hb dX6_contest_334 ?_
                          refine bd_p_X6_contests C hR hS (by omega) qf_X6_55 dX6_contest_335 (fun H locs hR hS => ?_)
                          refine lv_iload_n hx hb dX6_contest_338 rfl (lv_at hl 1 rfl) ?_
                          exact bd_ri C hr hlk (hR.eq rfl (by first | rfl | (rfl))) hS (by show nb ≤ 6; omega) (by show 4 * nb ≤ 24; omega) dX6_contest_339 rfl
                        · skip
                          have nc301 : ¬ n ≤ j := fun q9 => c301 ((nI_leI (a := n) (b := j) (by omega) (by omega)).mpr q9)
                          refine lv_aload_n hx hb dX6_contest_304 rfl (lv_at hl 2 rfl) ?_
                          refine bd_g_X6_absent C hR (by omega) qf_X6_19 dX6_contest_305 ?_
                          refine lv_iload_n hx hb dX6_contest_308 rfl (lv_at hl 0 rfl) ?_
                          refine lv_iconst (v := 0) hx hb dX6_contest_309 (by decide) ?_
                          refine lv_aload_n hx hb dX6_contest_310 rfl (lv_at hl 2 rfl) ?_
                          refine bd_g_X6_absent C hR (by omega) qf_X6_19 dX6_contest_311 ?_
                          refine lv_iload_n hx hb dX6_contest_314 rfl (lv_at hl 0 rfl) ?_
                          refine bd_ld_20 C hR (by omega) (j := j) (by omega) dX6_contest_315 ?_
                          refine lv_iconst (v := 1) hx hb dX6_contest_316 (by decide) ?_
                          refine lv_isub hx hb dX6_contest_317 ?_
                          refine bd_max C hl.1 qm_X6_95 ⟨Nat.le_of_ble_eq_true rfl, Nat.le_of_ble_eq_true rfl⟩ ⟨by show nb + 0 ≤ 6; omega, by show 4 * nb + 0 ≤ 24; omega⟩ dX6_contest_318 ?_
                          refine bd_st_20 C hR hS (by omega) (j := j) (by omega) dX6_contest_321 (fun H locs hR hS => ?_)
                          refine lv_iinc (v := nI (j + 1)) (lv' := [(2, .int (nI (j + 1))), (1, .int (ry_kw (ry_k2e ym w n nb z t) w nb z nb)), (0, .ref (bd_ea E 18 w 0))]) hx hb dX6_contest_322 hl (k := 0) rfl (nI_1 j) (by decide) rfl (fun ls hl => ?_)
                          refine lv_goto (tgt := 293) hx hb dX6_contest_325 (by decide) ?_
                          exact ih4 (j + 1) (by omega) (by omega) _ _ (hR.eq rfl (by first | (simp (config := { decide := true }) only [ry_k4, eq_true c10, eq_true nc10, eq_true c36, eq_true nc36, eq_true c75, eq_true nc75, eq_false c301, eq_false nc301, ↓reduceIte, not_true_eq_false, not_false_eq_true, and_self, and_true, true_and, and_false, false_and]; done) | rfl)) hS _ (lv_sub hl [0, 1, 2] rfl)
                    exact lp4 (n + 1) 0 (by omega) (by omega) _ _ (hR.eq rfl rfl) hS _ (by first | exact lv_sub hl [0, 1, 2] rfl | (rw [show (nI 0 : Int32) = 0 from by first | rfl | decide | simp [nI_0]]; exact lv_sub hl [0, 1, 2] rfl))
                  · skip
                    have nc75 : ¬ nb ≤ j := fun q9 => c75 ((nI_leI (a := nb) (b := j) (by omega) (by omega)).mpr q9)
                    refine lv_iconst (v := 0) hx hb dX6_contest_78 (by decide) ?_
                    refine lv_istore_n (lv' := [(3, .int 0), (2, .int (nI j)), (1, .int (ry_kw (ry_k2e ym w n nb z t) w nb z j)), (0, .ref (bd_ea E 18 w 0))]) hx hb dX6_contest_79 rfl hl (by decide) rfl (fun ls hl => ?_)
                    refine lv_iconst (v := 0) hx hb dX6_contest_80 (by decide) ?_
                    refine lv_istore (lv' := [(4, .int 0), (3, .int 0), (2, .int (nI j)), (1, .int (ry_kw (ry_k2e ym w n nb z t) w nb z j)), (0, .ref (bd_ea E 18 w 0))]) hx hb dX6_contest_81 hl (by decide) rfl (fun ls hl => ?_)
                    have lp5 : ∀ (t5 j2 : Nat), j2 ≤ nb → nb - j2 < t5 → ∀ (H : Heap) (locs : List Loc), bd_Rep E xm (ry_k3 (ry_k2e ym w n nb z t) w nb z j) om H → va_S (bd_A E) s.heap H locs → ∀ (ls : Array Slot), lv_has ls 6 [(4, .int (nI j2)), (3, .int (ry_ab (ry_k3 (ry_k2e ym w n nb z t) w nb z j) w j j2)), (2, .int (nI j)), (1, .int (ry_kw (ry_k2e ym w n nb z t) w nb z j)), (0, .ref (bd_ea E 18 w 0))] → W p l e { frames := 3, cells := 6, slots := 24, locals := 83 } s m args below meth c H locs nb (4 * nb) (MQ below (bd_Q E xm (ry_con ym w n nb z t) om (some (.int (ry_kw (ry_k2e ym w n nb z t) w nb z nb)))) args s 6 24 (bd_A E)) (F0 m 83 ls []) := by
                      intro t5
                      induction t5 with
                      | zero => intro j2 h1 h2; exact absurd h2 (Nat.not_lt_zero _)
                      | succ t5 ih5 =>
                        intro j2 hj21 hj22 H locs hR hS ls hl
                        refine lv_iload hx hb dX6_contest_83 (lv_at hl 0 rfl) ?_
                        refine lv_aload_n hx hb dX6_contest_85 rfl (lv_at hl 4 rfl) ?_
                        refine bd_g_X6_this_0 C hR (by omega) qf_X6_3 dX6_contest_86 ?_
                        refine bd_gN_X7_bands C hR  (List.mem_of_getElem? (i := 13) rfl) dX6_contest_89 ?_
                        rw [show (ry_k3 (ry_k2e ym w n nb z t) w nb z j) 2 0 0 = nI nb from (show ry_Sh (ry_k3 (ry_k2e ym w n nb z t) w nb z j) n nb z from (ry_k3_sh (ry_k2_sh (ry_k1_sh hyO n) nb) j)).2.2.1]
                        refine lv_icmp_ge (tgt := 125) hx hb dX6_contest_92 (by decide) (fun c92 => ?_) (fun c92 => ?_)
                        · skip
                          have nc92 : nb ≤ j2 := (nI_leI (a := nb) (b := j2) (by omega) (by omega)).mp c92
                          obtain rfl : nb = j2 := by omega
                          refine lv_aload_n hx hb dX6_contest_125 rfl (lv_at hl 4 rfl) ?_
                          refine bd_g_X6_latest C hR (by omega) qf_X6_43 dX6_contest_126 ?_
                          refine lv_iconst (v := 4) hx hb dX6_contest_129 (by decide) ?_
                          refine lv_iload_n hx hb dX6_contest_130 rfl (lv_at hl 2 rfl) ?_
                          refine lv_imul hx hb dX6_contest_131 ?_
                          refine bd_ti (j := 4 * j) (pk_mul 4 j) ?_
                          refine lv_iconst (v := 1) hx hb dX6_contest_132 (by decide) ?_
                          refine lv_iadd hx hb dX6_contest_133 ?_
                          refine bd_ti (j := (4 * j) + 1) (nI_add (4 * j) 1) ?_
                          refine lv_iload_n hx hb dX6_contest_134 rfl (lv_at hl 1 rfl) ?_
                          refine bd_st_28 C hR hS (by omega) (j := ((4 * j) + 1)) (by omega) dX6_contest_135 (fun H locs hR hS => ?_)
                          have hR : bd_Rep E xm (ry_q1 (ry_k3 (ry_k2e ym w n nb z t) w nb z j) w nb j) om H := hR
                          refine lv_iload_n hx hb dX6_contest_136 rfl (lv_at hl 1 rfl) ?_
                          refine lv_if_ne (tgt := 142) hx hb dX6_contest_137 (by decide) (fun c137 => ?_) (fun c137 => ?_)
                          · skip
                            refine lv_aload_n hx hb dX6_contest_142 rfl (lv_at hl 4 rfl) ?_
                            refine bd_g_X6_points C hR (by omega) qf_X6_37 dX6_contest_143 ?_
                            refine lv_iload_n hx hb dX6_contest_146 rfl (lv_at hl 2 rfl) ?_
                            refine lv_dup2_11 hx hb dX6_contest_147 rfl rfl ?_
                            refine bd_ld_26 C hR (by omega) (j := j) (by omega) dX6_contest_148 ?_
                            refine lv_aload_n hx hb dX6_contest_149 rfl (lv_at hl 4 rfl) ?_
                            refine bd_g_X6_latest C hR (by omega) qf_X6_43 dX6_contest_150 ?_
                            refine lv_iconst (v := 4) hx hb dX6_contest_153 (by decide) ?_
                            refine lv_iload_n hx hb dX6_contest_154 rfl (lv_at hl 2 rfl) ?_
                            refine lv_imul hx hb dX6_contest_155 ?_
                            refine bd_ti (j := 4 * j) (pk_mul 4 j) ?_
                            refine bd_ld_28 C hR (by omega) (j := (4 * j)) (by omega) dX6_contest_156 ?_
                            refine lv_if_eq (tgt := 165) hx hb dX6_contest_157 (by decide) (fun c157 => ?_) (fun c157 => ?_)
                            · skip
                              refine lv_iconst (v := 0) hx hb dX6_contest_165 (by decide) ?_
                              refine lv_goto (tgt := 174) hx hb dX6_contest_166 (by decide) ?_
                              refine lv_iadd hx hb dX6_contest_174 ?_
                              refine bd_st_26 C hR hS (by omega) (j := j) (by omega) dX6_contest_175 (fun H locs hR hS => ?_)
                              have hR : bd_Rep E xm (ry_q2 (ry_q1 (ry_k3 (ry_k2e ym w n nb z t) w nb z j) w nb j) w j (ry_ab (ry_k3 (ry_k2e ym w n nb z t) w nb z j) w j nb)) om H := hR.eq rfl (by rw [ry_q2, if_pos c157])
                              refine lv_iconst (v := 0) hx hb dX6_contest_176 (by decide) ?_
                              refine lv_istore (lv' := [(4, .int 0), (3, .int (ry_ab (ry_k3 (ry_k2e ym w n nb z t) w nb z j) w j nb)), (2, .int (nI j)), (1, .int (ry_kw (ry_k2e ym w n nb z t) w nb z j)), (0, .ref (bd_ea E 18 w 0))]) hx hb dX6_contest_177 hl (by decide) rfl (fun ls hl => ?_)
                              refine lv_bipush (v := 8) hx hb dX6_contest_179 (by decide) ?_
                              refine lv_iload_n hx hb dX6_contest_181 rfl (lv_at hl 2 rfl) ?_
                              refine lv_imul hx hb dX6_contest_182 ?_
                              refine bd_ti (j := 8 * j) (pk_mul 8 j) ?_
                              refine lv_istore (lv' := [(5, .int (nI (8 * j))), (4, .int 0), (3, .int (ry_ab (ry_k3 (ry_k2e ym w n nb z t) w nb z j) w j nb)), (2, .int (nI j)), (1, .int (ry_kw (ry_k2e ym w n nb z t) w nb z j)), (0, .ref (bd_ea E 18 w 0))]) hx hb dX6_contest_183 hl (by decide) rfl (fun ls hl => ?_)
                              have lp6 : ∀ (t6 j2 : Nat), j2 ≤ z j → (z j) - j2 < t6 → ∀ (H : Heap) (locs : List Loc), bd_Rep E xm (ry_q2 (ry_q1 (ry_k3 (ry_k2e ym w n nb z t) w nb z j) w nb j) w j (ry_ab (ry_k3 (ry_k2e ym w n nb z t) w nb z j) w j nb)) om H → va_S (bd_A E) s.heap H locs → ∀ (ls : Array Slot), lv_has ls 6 [(5, .int (nI (8 * j + j2))), (4, .int (ry_ow (ry_q2 (ry_q1 (ry_k3 (ry_k2e ym w n nb z t) w nb z j) w nb j) w j (ry_ab (ry_k3 (ry_k2e ym w n nb z t) w nb z j) w j nb)) w j j2)), (3, .int (ry_ab (ry_k3 (ry_k2e ym w n nb z t) w nb z j) w j nb)), (2, .int (nI j)), (1, .int (ry_kw (ry_k2e ym w n nb z t) w nb z j)), (0, .ref (bd_ea E 18 w 0))] → W p l e { frames := 3, cells := 6, slots := 24, locals := 83 } s m args below meth c H locs nb (4 * nb) (MQ below (bd_Q E xm (ry_con ym w n nb z t) om (some (.int (ry_kw (ry_k2e ym w n nb z t) w nb z nb)))) args s 6 24 (bd_A E)) (F0 m 185 ls []) := by
                                intro t6
                                induction t6 with
                                | zero => intro j2 h1 h2; exact absurd h2 (Nat.not_lt_zero _)
                                | succ t6 ih6 =>
                                  intro j2 hj21 hj22 H locs hR hS ls hl
                                  refine lv_iload hx hb dX6_contest_185 (lv_at hl 0 rfl) ?_
                                  refine lv_bipush (v := 8) hx hb dX6_contest_187 (by decide) ?_
                                  refine lv_iload_n hx hb dX6_contest_189 rfl (lv_at hl 3 rfl) ?_
                                  refine lv_imul hx hb dX6_contest_190 ?_
                                  refine bd_ti (j := 8 * j) (pk_mul 8 j) ?_
                                  refine lv_aload_n hx hb dX6_contest_191 rfl (lv_at hl 5 rfl) ?_
                                  refine bd_g_X6_this_0 C hR (by omega) qf_X6_3 dX6_contest_192 ?_
                                  refine bd_gN_X7_seats C hR  (List.mem_of_getElem? (i := 14) rfl) dX6_contest_195 ?_
                                  refine lv_iload_n hx hb dX6_contest_198 rfl (lv_at hl 3 rfl) ?_
                                  refine bd_ld_14 C hR  (j := j) (by omega) dX6_contest_199 ?_
                                  have zz199 := ((show ry_Sh (ry_q2 (ry_q1 (ry_k3 (ry_k2e ym w n nb z t) w nb z j) w nb j) w j (ry_ab (ry_k3 (ry_k2e ym w n nb z t) w nb z j) w j nb)) n nb z from (ry_Sh_up (ry_Sh_up (ry_k3_sh (ry_k2_sh (ry_k1_sh hyO n) nb) j) (by decide)) (by decide))).2.2.2.2.1 j (by omega)).2
                                  rw [show (ry_q2 (ry_q1 (ry_k3 (ry_k2e ym w n nb z t) w nb z j) w nb j) w j (ry_ab (ry_k3 (ry_k2e ym w n nb z t) w nb z j) w j nb)) 14 0 j = nI (z j) from ((show ry_Sh (ry_q2 (ry_q1 (ry_k3 (ry_k2e ym w n nb z t) w nb z j) w nb j) w j (ry_ab (ry_k3 (ry_k2e ym w n nb z t) w nb z j) w j nb)) n nb z from (ry_Sh_up (ry_Sh_up (ry_k3_sh (ry_k2_sh (ry_k1_sh hyO n) nb) j) (by decide)) (by decide))).2.2.2.2.1 j (by omega)).1]
                                  refine lv_iadd hx hb dX6_contest_200 ?_
                                  refine bd_ti (j := (8 * j) + (z j)) (nI_add (8 * j) (z j)) ?_
                                  refine lv_icmp_ge (tgt := 248) hx hb dX6_contest_201 (by decide) (fun c201 => ?_) (fun c201 => ?_)
                                  · skip
                                    have nc201 : ((8 * j) + (z j)) ≤ (8 * j + j2) := (nI_leI (a := ((8 * j) + (z j))) (b := (8 * j + j2)) (by omega) (by omega)).mp c201
                                    obtain rfl : z j = j2 := by omega
                                    refine lv_aload_n hx hb dX6_contest_248 rfl (lv_at hl 5 rfl) ?_
                                    refine bd_g_X6_spirit C hR (by omega) qf_X6_34 dX6_contest_249 ?_
                                    refine lv_iload_n hx hb dX6_contest_252 rfl (lv_at hl 3 rfl) ?_
                                    refine lv_iconst (v := 0) hx hb dX6_contest_253 (by decide) ?_
                                    refine lv_bipush (v := 50) hx hb dX6_contest_254 (by decide) ?_
                                    refine lv_aload_n hx hb dX6_contest_256 rfl (lv_at hl 5 rfl) ?_
                                    refine bd_g_X6_spirit C hR (by omega) qf_X6_34 dX6_contest_257 ?_
                                    refine lv_iload_n hx hb dX6_contest_260 rfl (lv_at hl 3 rfl) ?_
                                    refine bd_ld_25 C hR (by omega) (j := j) (by omega) dX6_contest_261 ?_
                                    refine lv_iload hx hb dX6_contest_262 (lv_at hl 1 rfl) ?_
                                    refine lv_iadd hx hb dX6_contest_264 ?_
                                    refine lv_iconst (v := 2) hx hb dX6_contest_265 (by decide) ?_
                                    refine lv_aload_n hx hb dX6_contest_266 rfl (lv_at hl 5 rfl) ?_
                                    refine bd_g_X6_latest C hR (by omega) qf_X6_43 dX6_contest_267 ?_
                                    refine lv_iconst (v := 4) hx hb dX6_contest_270 (by decide) ?_
                                    refine lv_iload_n hx hb dX6_contest_271 rfl (lv_at hl 3 rfl) ?_
                                    refine lv_imul hx hb dX6_contest_272 ?_
                                    refine bd_ti (j := 4 * j) (pk_mul 4 j) ?_
                                    refine lv_iconst (v := 2) hx hb dX6_contest_273 (by decide) ?_
                                    refine lv_iadd hx hb dX6_contest_274 ?_
                                    refine bd_ti (j := (4 * j) + 2) (nI_add (4 * j) 2) ?_
                                    refine bd_ld_28 C hR (by omega) (j := ((4 * j) + 2)) (by omega) dX6_contest_275 ?_
                                    refine lv_imul hx hb dX6_contest_276 ?_
                                    refine lv_isub hx hb dX6_contest_277 ?_
                                    refine bd_min C hl.1 qm_X6_100 ⟨Nat.le_of_ble_eq_true rfl, Nat.le_of_ble_eq_true rfl⟩ ⟨by show nb + 0 ≤ 6; omega, by show 4 * nb + 0 ≤ 24; omega⟩ dX6_contest_278 ?_
                                    refine bd_max C hl.1 qm_X6_95 ⟨Nat.le_of_ble_eq_true rfl, Nat.le_of_ble_eq_true rfl⟩ ⟨by show nb + 0 ≤ 6; omega, by show 4 * nb + 0 ≤ 24; omega⟩ dX6_contest_281 ?_
                                    refine bd_st_25 C hR hS (by omega) (j := j) (by omega) dX6_contest_284 (fun H locs hR hS => ?_)
                                    refine lv_iinc (v := nI (j + 1)) (lv' := [(2, .int (nI (j + 1))), (5, .int (nI (8 * j + (z j)))), (4, .int (ry_ow (ry_q2 (ry_q1 (ry_k3 (ry_k2e ym w n nb z t) w nb z j) w nb j) w j (ry_ab (ry_k3 (ry_k2e ym w n nb z t) w nb z j) w j nb)) w j (z j))), (3, .int (ry_ab (ry_k3 (ry_k2e ym w n nb z t) w nb z j) w j nb)), (1, .int (ry_kw (ry_k2e ym w n nb z t) w nb z j)), (0, .ref (bd_ea E 18 w 0))]) hx hb dX6_contest_285 hl (k := 3) rfl (nI_1 j) (by decide) rfl (fun ls hl => ?_)
                                    refine lv_goto (tgt := 67) hx hb dX6_contest_288 (by decide) ?_
                                    exact ih3 (j + 1) (by omega) (by omega) _ _ (hR.eq rfl (by first | (simp (config := { decide := true }) only [ry_kw, ry_k3, ry_q3, eq_true c10, eq_true nc10, eq_true c36, eq_true nc36, eq_false c75, eq_false nc75, eq_true c92, eq_true nc92, eq_false c137, eq_true c157, eq_true c201, eq_true nc201, ↓reduceIte, not_true_eq_false, not_false_eq_true, and_self, and_true, true_and, and_false, false_and]; done) | rfl)) hS _ (by rw [show (ry_kw (ry_k2e ym w n nb z t) w nb z (j + 1) : Int32) = ry_kw (ry_k2e ym w n nb z t) w nb z j from (by first | (simp (config := { decide := true }) only [ry_kw, ry_k3, ry_q3, eq_true c10, eq_true nc10, eq_true c36, eq_true nc36, eq_false c75, eq_false nc75, eq_true c92, eq_true nc92, eq_false c137, eq_true c157, eq_true c201, eq_true nc201, ↓reduceIte, not_true_eq_false, not_false_eq_true, and_self, and_true, true_and, and_false, false_and]; done) | rfl)]; exact lv_sub hl [0, 4, 5] rfl)
                                  · skip
                                    have nc201 : ¬ ((8 * j) + (z j)) ≤ (8 * j + j2) := fun q9 => c201 ((nI_leI (a := ((8 * j) + (z j))) (b := (8 * j + j2)) (by omega) (by omega)).mpr q9)
                                    refine lv_iload hx hb dX6_contest_204 (lv_at hl 1 rfl) ?_
                                    refine lv_aload_n hx hb dX6_contest_206 rfl (lv_at hl 5 rfl) ?_
                                    refine bd_g_X6_who C hR (by omega) qf_X6_31 dX6_contest_207 ?_
                                    refine lv_iload hx hb dX6_contest_210 (lv_at hl 0 rfl) ?_
                                    refine bd_ld_24 C hR (by omega) (j := (8 * j + j2)) (by omega) dX6_contest_212 ?_
                                    refine lv_iconst (v := (-1)) hx hb dX6_contest_213 (by decide) ?_
                                    refine lv_icmp_eq (tgt := 238) hx hb dX6_contest_214 (by decide) (fun c214 => ?_) (fun c214 => ?_)
                                    · skip
                                      refine lv_iconst (v := 0) hx hb dX6_contest_238 (by decide) ?_
                                      refine lv_iadd hx hb dX6_contest_239 ?_
                                      refine lv_istore (lv' := [(4, .int ((ry_ow (ry_q2 (ry_q1 (ry_k3 (ry_k2e ym w n nb z t) w nb z j) w nb j) w j (ry_ab (ry_k3 (ry_k2e ym w n nb z t) w nb z j) w j nb)) w j j2) + 0)), (5, .int (nI (8 * j + j2))), (3, .int (ry_ab (ry_k3 (ry_k2e ym w n nb z t) w nb z j) w j nb)), (2, .int (nI j)), (1, .int (ry_kw (ry_k2e ym w n nb z t) w nb z j)), (0, .ref (bd_ea E 18 w 0))]) hx hb dX6_contest_240 hl (by decide) rfl (fun ls hl => ?_)
                                      refine lv_iinc (v := nI ((8 * j + j2) + 1)) (lv' := [(5, .int (nI ((8 * j + j2) + 1))), (4, .int ((ry_ow (ry_q2 (ry_q1 (ry_k3 (ry_k2e ym w n nb z t) w nb z j) w nb j) w j (ry_ab (ry_k3 (ry_k2e ym w n nb z t) w nb z j) w j nb)) w j j2) + 0)), (3, .int (ry_ab (ry_k3 (ry_k2e ym w n nb z t) w nb z j) w j nb)), (2, .int (nI j)), (1, .int (ry_kw (ry_k2e ym w n nb z t) w nb z j)), (0, .ref (bd_ea E 18 w 0))]) hx hb dX6_contest_242 hl (k := 1) rfl (nI_1 (8 * j + j2)) (by decide) rfl (fun ls hl => ?_)
                                      refine lv_goto (tgt := 185) hx hb dX6_contest_245 (by decide) ?_
                                      exact ih6 (j2 + 1) (by omega) (by omega) _ _ (hR.eq rfl rfl) hS _ (by rw [show (nI (8 * j + (j2 + 1)) : Int32) = nI ((8 * j + j2) + 1) from (by first | (simp (config := { decide := true }) only [ry_ow, eq_true c10, eq_true nc10, eq_true c36, eq_true nc36, eq_false c75, eq_false nc75, eq_true c92, eq_true nc92, eq_false c137, eq_true c157, eq_false c201, eq_false nc201, eq_true c214, ↓reduceIte, not_true_eq_false, not_false_eq_true, and_self, and_true, true_and, and_false, false_and]; done) | rfl)]; rw [show (ry_ow (ry_q2 (ry_q1 (ry_k3 (ry_k2e ym w n nb z t) w nb z j) w nb j) w j (ry_ab (ry_k3 (ry_k2e ym w n nb z t) w nb z j) w j nb)) w j (j2 + 1) : Int32) = (ry_ow (ry_q2 (ry_q1 (ry_k3 (ry_k2e ym w n nb z t) w nb z j) w nb j) w j (ry_ab (ry_k3 (ry_k2e ym w n nb z t) w nb z j) w j nb)) w j j2) + 0 from (by first | (simp (config := { decide := true }) only [ry_ow, eq_true c10, eq_true nc10, eq_true c36, eq_true nc36, eq_false c75, eq_false nc75, eq_true c92, eq_true nc92, eq_false c137, eq_true c157, eq_false c201, eq_false nc201, eq_true c214, ↓reduceIte, not_true_eq_false, not_false_eq_true, and_self, and_true, true_and, and_false, false_and]; done) | rfl)]; exact lv_sub hl [0, 1, 2, 3, 4, 5] rfl)
                                    · skip
                                      refine lv_aload_n hx hb dX6_contest_217 rfl (lv_at hl 5 rfl) ?_
                                      refine bd_g_X6_who C hR (by omega) qf_X6_31 dX6_contest_218 ?_
                                      refine lv_iload hx hb dX6_contest_221 (lv_at hl 0 rfl) ?_
                                      refine bd_ld_24 C hR (by omega) (j := (8 * j + j2)) (by omega) dX6_contest_223 ?_
                                      refine lv_aload_n hx hb dX6_contest_224 rfl (lv_at hl 5 rfl) ?_
                                      refine bd_g_X6_member C hR (by omega) qf_X6_28 dX6_contest_225 ?_
                                      refine lv_iload hx hb dX6_contest_228 (lv_at hl 0 rfl) ?_
                                      refine bd_ld_23 C hR (by omega) (j := (8 * j + j2)) (by omega) dX6_contest_230 ?_
                                      refine lv_icmp_ne (tgt := 238) hx hb dX6_contest_231 (by decide) (fun c231 => ?_) (fun c231 => ?_)
                                      · skip
                                        refine lv_iconst (v := 0) hx hb dX6_contest_238 (by decide) ?_
                                        refine lv_iadd hx hb dX6_contest_239 ?_
                                        refine lv_istore (lv' := [(4, .int ((ry_ow (ry_q2 (ry_q1 (ry_k3 (ry_k2e ym w n nb z t) w nb z j) w nb j) w j (ry_ab (ry_k3 (ry_k2e ym w n nb z t) w nb z j) w j nb)) w j j2) + 0)), (5, .int (nI (8 * j + j2))), (3, .int (ry_ab (ry_k3 (ry_k2e ym w n nb z t) w nb z j) w j nb)), (2, .int (nI j)), (1, .int (ry_kw (ry_k2e ym w n nb z t) w nb z j)), (0, .ref (bd_ea E 18 w 0))]) hx hb dX6_contest_240 hl (by decide) rfl (fun ls hl => ?_)
                                        refine lv_iinc (v := nI ((8 * j + j2) + 1)) (lv' := [(5, .int (nI ((8 * j + j2) + 1))), (4, .int ((ry_ow (ry_q2 (ry_q1 (ry_k3 (ry_k2e ym w n nb z t) w nb z j) w nb j) w j (ry_ab (ry_k3 (ry_k2e ym w n nb z t) w nb z j) w j nb)) w j j2) + 0)), (3, .int (ry_ab (ry_k3 (ry_k2e ym w n nb z t) w nb z j) w j nb)), (2, .int (nI j)), (1, .int (ry_kw (ry_k2e ym w n nb z t) w nb z j)), (0, .ref (bd_ea E 18 w 0))]) hx hb dX6_contest_242 hl (k := 1) rfl (nI_1 (8 * j + j2)) (by decide) rfl (fun ls hl => ?_)
                                        refine lv_goto (tgt := 185) hx hb dX6_contest_245 (by decide) ?_
                                        exact ih6 (j2 + 1) (by omega) (by omega) _ _ (hR.eq rfl rfl) hS _ (by rw [show (nI (8 * j + (j2 + 1)) : Int32) = nI ((8 * j + j2) + 1) from (by first | (simp (config := { decide := true }) only [ry_ow, eq_true c10, eq_true nc10, eq_true c36, eq_true nc36, eq_false c75, eq_false nc75, eq_true c92, eq_true nc92, eq_false c137, eq_true c157, eq_false c201, eq_false nc201, eq_false c214, eq_false c231, ↓reduceIte, not_true_eq_false, not_false_eq_true, and_self, and_true, true_and, and_false, false_and]; done) | rfl)]; rw [show (ry_ow (ry_q2 (ry_q1 (ry_k3 (ry_k2e ym w n nb z t) w nb z j) w nb j) w j (ry_ab (ry_k3 (ry_k2e ym w n nb z t) w nb z j) w j nb)) w j (j2 + 1) : Int32) = (ry_ow (ry_q2 (ry_q1 (ry_k3 (ry_k2e ym w n nb z t) w nb z j) w nb j) w j (ry_ab (ry_k3 (ry_k2e ym w n nb z t) w nb z j) w j nb)) w j j2) + 0 from (by first | (simp (config := { decide := true }) only [ry_ow, eq_true c10, eq_true nc10, eq_true c36, eq_true nc36, eq_false c75, eq_false nc75, eq_true c92, eq_true nc92, eq_false c137, eq_true c157, eq_false c201, eq_false nc201, eq_false c214, eq_false c231, ↓reduceIte, not_true_eq_false, not_false_eq_true, and_self, and_true, true_and, and_false, false_and]; done) | rfl)]; exact lv_sub hl [0, 1, 2, 3, 4, 5] rfl)
                                      · skip
                                        refine lv_iconst (v := 1) hx hb dX6_contest_234 (by decide) ?_
                                        refine lv_goto (tgt := 239) hx hb dX6_contest_235 (by decide) ?_
                                        refine lv_iadd hx hb dX6_contest_239 ?_
                                        refine lv_istore (lv' := [(4, .int ((ry_ow (ry_q2 (ry_q1 (ry_k3 (ry_k2e ym w n nb z t) w nb z j) w nb j) w j (ry_ab (ry_k3 (ry_k2e ym w n nb z t) w nb z j) w j nb)) w j j2) + 1)), (5, .int (nI (8 * j + j2))), (3, .int (ry_ab (ry_k3 (ry_k2e ym w n nb z t) w nb z j) w j nb)), (2, .int (nI j)), (1, .int (ry_kw (ry_k2e ym w n nb z t) w nb z j)), (0, .ref (bd_ea E 18 w 0))]) hx hb dX6_contest_240 hl (by decide) rfl (fun ls hl => ?_)
                                        refine lv_iinc (v := nI ((8 * j + j2) + 1)) (lv' := [(5, .int (nI ((8 * j + j2) + 1))), (4, .int ((ry_ow (ry_q2 (ry_q1 (ry_k3 (ry_k2e ym w n nb z t) w nb z j) w nb j) w j (ry_ab (ry_k3 (ry_k2e ym w n nb z t) w nb z j) w j nb)) w j j2) + 1)), (3, .int (ry_ab (ry_k3 (ry_k2e ym w n nb z t) w nb z j) w j nb)), (2, .int (nI j)), (1, .int (ry_kw (ry_k2e ym w n nb z t) w nb z j)), (0, .ref (bd_ea E 18 w 0))]) hx hb dX6_contest_242 hl (k := 1) rfl (nI_1 (8 * j + j2)) (by decide) rfl (fun ls hl => ?_)
                                        refine lv_goto (tgt := 185) hx hb dX6_contest_245 (by decide) ?_
                                        exact ih6 (j2 + 1) (by omega) (by omega) _ _ (hR.eq rfl rfl) hS _ (by rw [show (nI (8 * j + (j2 + 1)) : Int32) = nI ((8 * j + j2) + 1) from (by first | (simp (config := { decide := true }) only [ry_ow, eq_true c10, eq_true nc10, eq_true c36, eq_true nc36, eq_false c75, eq_false nc75, eq_true c92, eq_true nc92, eq_false c137, eq_true c157, eq_false c201, eq_false nc201, eq_false c214, eq_true c231, ↓reduceIte, not_true_eq_false, not_false_eq_true, and_self, and_true, true_and, and_false, false_and]; done) | rfl)]; rw [show (ry_ow (ry_q2 (ry_q1 (ry_k3 (ry_k2e ym w n nb z t) w nb z j) w nb j) w j (ry_ab (ry_k3 (ry_k2e ym w n nb z t) w nb z j) w j nb)) w j (j2 + 1) : Int32) = (ry_ow (ry_q2 (ry_q1 (ry_k3 (ry_k2e ym w n nb z t) w nb z j) w nb j) w j (ry_ab (ry_k3 (ry_k2e ym w n nb z t) w nb z j) w j nb)) w j j2) + 1 from (by first | (simp (config := { decide := true }) only [ry_ow, eq_true c10, eq_true nc10, eq_true c36, eq_true nc36, eq_false c75, eq_false nc75, eq_true c92, eq_true nc92, eq_false c137, eq_true c157, eq_false c201, eq_false nc201, eq_false c214, eq_true c231, ↓reduceIte, not_true_eq_false, not_false_eq_true, and_self, and_true, true_and, and_false, false_and]; done) | rfl)]; exact lv_sub hl [0, 1, 2, 3, 4, 5] rfl)
                              exact lp6 ((z j) + 1) 0 (by omega) (by omega) _ _ (hR.eq rfl rfl) hS _ (by rw [show (nI (8 * j + 0) : Int32) = nI (8 * j) from by rfl]; rw [show (ry_ow (ry_q2 (ry_q1 (ry_k3 (ry_k2e ym w n nb z t) w nb z j) w nb j) w j (ry_ab (ry_k3 (ry_k2e ym w n nb z t) w nb z j) w j nb)) w j 0 : Int32) = 0 from by rfl]; exact lv_sub hl [0, 1, 2, 3, 4, 5] rfl)
                            · skip
                              refine lv_iload_n hx hb dX6_contest_160 rfl (lv_at hl 1 rfl) ?_
                              refine lv_iconst (v := 2) hx hb dX6_contest_161 (by decide) ?_
                              refine lv_icmp_le (tgt := 169) hx hb dX6_contest_162 (by decide) (fun c162 => ?_) (fun c162 => ?_)
                              · skip
                                refine lv_iconst (v := 5) hx hb dX6_contest_169 (by decide) ?_
                                refine lv_iconst (v := 2) hx hb dX6_contest_170 (by decide) ?_
                                refine lv_iload_n hx hb dX6_contest_171 rfl (lv_at hl 1 rfl) ?_
                                refine lv_imul hx hb dX6_contest_172 ?_
                                refine lv_isub hx hb dX6_contest_173 ?_
                                refine lv_iadd hx hb dX6_contest_174 ?_
                                refine bd_st_26 C hR hS (by omega) (j := j) (by omega) dX6_contest_175 (fun H locs hR hS => ?_)
                                have hR : bd_Rep E xm (ry_q2 (ry_q1 (ry_k3 (ry_k2e ym w n nb z t) w nb z j) w nb j) w j (ry_ab (ry_k3 (ry_k2e ym w n nb z t) w nb z j) w j nb)) om H := hR.eq rfl (by rw [ry_q2, if_neg c157, if_pos c162])
                                refine lv_iconst (v := 0) hx hb dX6_contest_176 (by decide) ?_
                                refine lv_istore (lv' := [(4, .int 0), (3, .int (ry_ab (ry_k3 (ry_k2e ym w n nb z t) w nb z j) w j nb)), (2, .int (nI j)), (1, .int (ry_kw (ry_k2e ym w n nb z t) w nb z j)), (0, .ref (bd_ea E 18 w 0))]) hx hb dX6_contest_177 hl (by decide) rfl (fun ls hl => ?_)
                                refine lv_bipush (v := 8) hx hb dX6_contest_179 (by decide) ?_
                                refine lv_iload_n hx hb dX6_contest_181 rfl (lv_at hl 2 rfl) ?_
                                refine lv_imul hx hb dX6_contest_182 ?_
                                refine bd_ti (j := 8 * j) (pk_mul 8 j) ?_
                                refine lv_istore (lv' := [(5, .int (nI (8 * j))), (4, .int 0), (3, .int (ry_ab (ry_k3 (ry_k2e ym w n nb z t) w nb z j) w j nb)), (2, .int (nI j)), (1, .int (ry_kw (ry_k2e ym w n nb z t) w nb z j)), (0, .ref (bd_ea E 18 w 0))]) hx hb dX6_contest_183 hl (by decide) rfl (fun ls hl => ?_)
                                have lp7 : ∀ (t7 j2 : Nat), j2 ≤ z j → (z j) - j2 < t7 → ∀ (H : Heap) (locs : List Loc), bd_Rep E xm (ry_q2 (ry_q1 (ry_k3 (ry_k2e ym w n nb z t) w nb z j) w nb j) w j (ry_ab (ry_k3 (ry_k2e ym w n nb z t) w nb z j) w j nb)) om H → va_S (bd_A E) s.heap H locs → ∀ (ls : Array Slot), lv_has ls 6 [(5, .int (nI (8 * j + j2))), (4, .int (ry_ow (ry_q2 (ry_q1 (ry_k3 (ry_k2e ym w n nb z t) w nb z j) w nb j) w j (ry_ab (ry_k3 (ry_k2e ym w n nb z t) w nb z j) w j nb)) w j j2)), (3, .int (ry_ab (ry_k3 (ry_k2e ym w n nb z t) w nb z j) w j nb)), (2, .int (nI j)), (1, .int (ry_kw (ry_k2e ym w n nb z t) w nb z j)), (0, .ref (bd_ea E 18 w 0))] → W p l e { frames := 3, cells := 6, slots := 24, locals := 83 } s m args below meth c H locs nb (4 * nb) (MQ below (bd_Q E xm (ry_con ym w n nb z t) om (some (.int (ry_kw (ry_k2e ym w n nb z t) w nb z nb)))) args s 6 24 (bd_A E)) (F0 m 185 ls []) := by
                                  intro t7
                                  induction t7 with
                                  | zero => intro j2 h1 h2; exact absurd h2 (Nat.not_lt_zero _)
                                  | succ t7 ih7 =>
                                    intro j2 hj21 hj22 H locs hR hS ls hl
                                    refine lv_iload hx hb dX6_contest_185 (lv_at hl 0 rfl) ?_
                                    refine lv_bipush (v := 8) hx hb dX6_contest_187 (by decide) ?_
                                    refine lv_iload_n hx hb dX6_contest_189 rfl (lv_at hl 3 rfl) ?_
                                    refine lv_imul hx hb dX6_contest_190 ?_
                                    refine bd_ti (j := 8 * j) (pk_mul 8 j) ?_
                                    refine lv_aload_n hx hb dX6_contest_191 rfl (lv_at hl 5 rfl) ?_
                                    refine bd_g_X6_this_0 C hR (by omega) qf_X6_3 dX6_contest_192 ?_
                                    refine bd_gN_X7_seats C hR  (List.mem_of_getElem? (i := 14) rfl) dX6_contest_195 ?_
                                    refine lv_iload_n hx hb dX6_contest_198 rfl (lv_at hl 3 rfl) ?_
                                    refine bd_ld_14 C hR  (j := j) (by omega) dX6_contest_199 ?_
                                    have zz199 := ((show ry_Sh (ry_q2 (ry_q1 (ry_k3 (ry_k2e ym w n nb z t) w nb z j) w nb j) w j (ry_ab (ry_k3 (ry_k2e ym w n nb z t) w nb z j) w j nb)) n nb z from (ry_Sh_up (ry_Sh_up (ry_k3_sh (ry_k2_sh (ry_k1_sh hyO n) nb) j) (by decide)) (by decide))).2.2.2.2.1 j (by omega)).2
                                    rw [show (ry_q2 (ry_q1 (ry_k3 (ry_k2e ym w n nb z t) w nb z j) w nb j) w j (ry_ab (ry_k3 (ry_k2e ym w n nb z t) w nb z j) w j nb)) 14 0 j = nI (z j) from ((show ry_Sh (ry_q2 (ry_q1 (ry_k3 (ry_k2e ym w n nb z t) w nb z j) w nb j) w j (ry_ab (ry_k3 (ry_k2e ym w n nb z t) w nb z j) w j nb)) n nb z from (ry_Sh_up (ry_Sh_up (ry_k3_sh (ry_k2_sh (ry_k1_sh hyO n) nb) j) (by decide)) (by decide))).2.2.2.2.1 j (by omega)).1]
                                    refine lv_iadd hx hb dX6_contest_200 ?_
                                    refine bd_ti (j := (8 * j) + (z j)) (nI_add (8 * j) (z j)) ?_
                                    refine lv_icmp_ge (tgt := 248) hx hb dX6_contest_201 (by decide) (fun c201 => ?_) (fun c201 => ?_)
                                    · skip
                                      have nc201 : ((8 * j) + (z j)) ≤ (8 * j + j2) := (nI_leI (a := ((8 * j) + (z j))) (b := (8 * j + j2)) (by omega) (by omega)).mp c201
                                      obtain rfl : z j = j2 := by omega
                                      refine lv_aload_n hx hb dX6_contest_248 rfl (lv_at hl 5 rfl) ?_
                                      refine bd_g_X6_spirit C hR (by omega) qf_X6_34 dX6_contest_249 ?_
                                      refine lv_iload_n hx hb dX6_contest_252 rfl (lv_at hl 3 rfl) ?_
                                      refine lv_iconst (v := 0) hx hb dX6_contest_253 (by decide) ?_
                                      refine lv_bipush (v := 50) hx hb dX6_contest_254 (by decide) ?_
                                      refine lv_aload_n hx hb dX6_contest_256 rfl (lv_at hl 5 rfl) ?_
                                      refine bd_g_X6_spirit C hR (by omega) qf_X6_34 dX6_contest_257 ?_
                                      refine lv_iload_n hx hb dX6_contest_260 rfl (lv_at hl 3 rfl) ?_
                                      refine bd_ld_25 C hR (by omega) (j := j) (by omega) dX6_contest_261 ?_
                                      refine lv_iload hx hb dX6_contest_262 (lv_at hl 1 rfl) ?_
                                      refine lv_iadd hx hb dX6_contest_264 ?_
                                      refine lv_iconst (v := 2) hx hb dX6_contest_265 (by decide) ?_
                                      refine lv_aload_n hx hb dX6_contest_266 rfl (lv_at hl 5 rfl) ?_
                                      refine bd_g_X6_latest C hR (by omega) qf_X6_43 dX6_contest_267 ?_
                                      refine lv_iconst (v := 4) hx hb dX6_contest_270 (by decide) ?_
                                      refine lv_iload_n hx hb dX6_contest_271 rfl (lv_at hl 3 rfl) ?_
                                      refine lv_imul hx hb dX6_contest_272 ?_
                                      refine bd_ti (j := 4 * j) (pk_mul 4 j) ?_
                                      refine lv_iconst (v := 2) hx hb dX6_contest_273 (by decide) ?_
                                      refine lv_iadd hx hb dX6_contest_274 ?_
                                      refine bd_ti (j := (4 * j) + 2) (nI_add (4 * j) 2) ?_
                                      refine bd_ld_28 C hR (by omega) (j := ((4 * j) + 2)) (by omega) dX6_contest_275 ?_
                                      refine lv_imul hx hb dX6_contest_276 ?_
                                      refine lv_isub hx hb dX6_contest_277 ?_
                                      refine bd_min C hl.1 qm_X6_100 ⟨Nat.le_of_ble_eq_true rfl, Nat.le_of_ble_eq_true rfl⟩ ⟨by show nb + 0 ≤ 6; omega, by show 4 * nb + 0 ≤ 24; omega⟩ dX6_contest_278 ?_
                                      refine bd_max C hl.1 qm_X6_95 ⟨Nat.le_of_ble_eq_true rfl, Nat.le_of_ble_eq_true rfl⟩ ⟨by show nb + 0 ≤ 6; omega, by show 4 * nb + 0 ≤ 24; omega⟩ dX6_contest_281 ?_
                                      refine bd_st_25 C hR hS (by omega) (j := j) (by omega) dX6_contest_284 (fun H locs hR hS => ?_)
                                      refine lv_iinc (v := nI (j + 1)) (lv' := [(2, .int (nI (j + 1))), (5, .int (nI (8 * j + (z j)))), (4, .int (ry_ow (ry_q2 (ry_q1 (ry_k3 (ry_k2e ym w n nb z t) w nb z j) w nb j) w j (ry_ab (ry_k3 (ry_k2e ym w n nb z t) w nb z j) w j nb)) w j (z j))), (3, .int (ry_ab (ry_k3 (ry_k2e ym w n nb z t) w nb z j) w j nb)), (1, .int (ry_kw (ry_k2e ym w n nb z t) w nb z j)), (0, .ref (bd_ea E 18 w 0))]) hx hb dX6_contest_285 hl (k := 3) rfl (nI_1 j) (by decide) rfl (fun ls hl => ?_)
                                      refine lv_goto (tgt := 67) hx hb dX6_contest_288 (by decide) ?_
                                      exact ih3 (j + 1) (by omega) (by omega) _ _ (hR.eq rfl (by first | (simp (config := { decide := true }) only [ry_kw, ry_k3, ry_q3, eq_true c10, eq_true nc10, eq_true c36, eq_true nc36, eq_false c75, eq_false nc75, eq_true c92, eq_true nc92, eq_false c137, eq_false c157, eq_true c162, eq_true c201, eq_true nc201, ↓reduceIte, not_true_eq_false, not_false_eq_true, and_self, and_true, true_and, and_false, false_and]; done) | rfl)) hS _ (by rw [show (ry_kw (ry_k2e ym w n nb z t) w nb z (j + 1) : Int32) = ry_kw (ry_k2e ym w n nb z t) w nb z j from (by first | (simp (config := { decide := true }) only [ry_kw, ry_k3, ry_q3, eq_true c10, eq_true nc10, eq_true c36, eq_true nc36, eq_false c75, eq_false nc75, eq_true c92, eq_true nc92, eq_false c137, eq_false c157, eq_true c162, eq_true c201, eq_true nc201, ↓reduceIte, not_true_eq_false, not_false_eq_true, and_self, and_true, true_and, and_false, false_and]; done) | rfl)]; exact lv_sub hl [0, 4, 5] rfl)
                                    · skip
                                      have nc201 : ¬ ((8 * j) + (z j)) ≤ (8 * j + j2) := fun q9 => c201 ((nI_leI (a := ((8 * j) + (z j))) (b := (8 * j + j2)) (by omega) (by omega)).mpr q9)
                                      refine lv_iload hx hb dX6_contest_204 (lv_at hl 1 rfl) ?_
                                      refine lv_aload_n hx hb dX6_contest_206 rfl (lv_at hl 5 rfl) ?_
                                      refine bd_g_X6_who C hR (by omega) qf_X6_31 dX6_contest_207 ?_
                                      refine lv_iload hx hb dX6_contest_210 (lv_at hl 0 rfl) ?_
                                      refine bd_ld_24 C hR (by omega) (j := (8 * j + j2)) (by omega) dX6_contest_212 ?_
                                      refine lv_iconst (v := (-1)) hx hb dX6_contest_213 (by decide) ?_
                                      refine lv_icmp_eq (tgt := 238) hx hb dX6_contest_214 (by decide) (fun c214 => ?_) (fun c214 => ?_)
                                      · skip
                                        refine lv_iconst (v := 0) hx hb dX6_contest_238 (by decide) ?_
                                        refine lv_iadd hx hb dX6_contest_239 ?_
                                        refine lv_istore (lv' := [(4, .int ((ry_ow (ry_q2 (ry_q1 (ry_k3 (ry_k2e ym w n nb z t) w nb z j) w nb j) w j (ry_ab (ry_k3 (ry_k2e ym w n nb z t) w nb z j) w j nb)) w j j2) + 0)), (5, .int (nI (8 * j + j2))), (3, .int (ry_ab (ry_k3 (ry_k2e ym w n nb z t) w nb z j) w j nb)), (2, .int (nI j)), (1, .int (ry_kw (ry_k2e ym w n nb z t) w nb z j)), (0, .ref (bd_ea E 18 w 0))]) hx hb dX6_contest_240 hl (by decide) rfl (fun ls hl => ?_)
                                        refine lv_iinc (v := nI ((8 * j + j2) + 1)) (lv' := [(5, .int (nI ((8 * j + j2) + 1))), (4, .int ((ry_ow (ry_q2 (ry_q1 (ry_k3 (ry_k2e ym w n nb z t) w nb z j) w nb j) w j (ry_ab (ry_k3 (ry_k2e ym w n nb z t) w nb z j) w j nb)) w j j2) + 0)), (3, .int (ry_ab (ry_k3 (ry_k2e ym w n nb z t) w nb z j) w j nb)), (2, .int (nI j)), (1, .int (ry_kw (ry_k2e ym w n nb z t) w nb z j)), (0, .ref (bd_ea E 18 w 0))]) hx hb dX6_contest_242 hl (k := 1) rfl (nI_1 (8 * j + j2)) (by decide) rfl (fun ls hl => ?_)
                                        refine lv_goto (tgt := 185) hx hb dX6_contest_245 (by decide) ?_
                                        exact ih7 (j2 + 1) (by omega) (by omega) _ _ (hR.eq rfl rfl) hS _ (by rw [show (nI (8 * j + (j2 + 1)) : Int32) = nI ((8 * j + j2) + 1) from (by first | (simp (config := { decide := true }) only [ry_ow, eq_true c10, eq_true nc10, eq_true c36, eq_true nc36, eq_false c75, eq_false nc75, eq_true c92, eq_true nc92, eq_false c137, eq_false c157, eq_true c162, eq_false c201, eq_false nc201, eq_true c214, ↓reduceIte, not_true_eq_false, not_false_eq_true, and_self, and_true, true_and, and_false, false_and]; done) | rfl)]; rw [show (ry_ow (ry_q2 (ry_q1 (ry_k3 (ry_k2e ym w n nb z t) w nb z j) w nb j) w j (ry_ab (ry_k3 (ry_k2e ym w n nb z t) w nb z j) w j nb)) w j (j2 + 1) : Int32) = (ry_ow (ry_q2 (ry_q1 (ry_k3 (ry_k2e ym w n nb z t) w nb z j) w nb j) w j (ry_ab (ry_k3 (ry_k2e ym w n nb z t) w nb z j) w j nb)) w j j2) + 0 from (by first | (simp (config := { decide := true }) only [ry_ow, eq_true c10, eq_true nc10, eq_true c36, eq_true nc36, eq_false c75, eq_false nc75, eq_true c92, eq_true nc92, eq_false c137, eq_false c157, eq_true c162, eq_false c201, eq_false nc201, eq_true c214, ↓reduceIte, not_true_eq_false, not_false_eq_true, and_self, and_true, true_and, and_false, false_and]; done) | rfl)]; exact lv_sub hl [0, 1, 2, 3, 4, 5] rfl)
                                      · skip
                                        refine lv_aload_n hx hb dX6_contest_217 rfl (lv_at hl 5 rfl) ?_
                                        refine bd_g_X6_who C hR (by omega) qf_X6_31 dX6_contest_218 ?_
                                        refine lv_iload hx hb dX6_contest_221 (lv_at hl 0 rfl) ?_
                                        refine bd_ld_24 C hR (by omega) (j := (8 * j + j2)) (by omega) dX6_contest_223 ?_
                                        refine lv_aload_n hx hb dX6_contest_224 rfl (lv_at hl 5 rfl) ?_
                                        refine bd_g_X6_member C hR (by omega) qf_X6_28 dX6_contest_225 ?_
                                        refine lv_iload hx hb dX6_contest_228 (lv_at hl 0 rfl) ?_
                                        refine bd_ld_23 C hR (by omega) (j := (8 * j + j2)) (by omega) dX6_contest_230 ?_
                                        refine lv_icmp_ne (tgt := 238) hx hb dX6_contest_231 (by decide) (fun c231 => ?_) (fun c231 => ?_)
                                        · skip
                                          refine lv_iconst (v := 0) hx hb dX6_contest_238 (by decide) ?_
                                          refine lv_iadd hx hb dX6_contest_239 ?_
                                          refine lv_istore (lv' := [(4, .int ((ry_ow (ry_q2 (ry_q1 (ry_k3 (ry_k2e ym w n nb z t) w nb z j) w nb j) w j (ry_ab (ry_k3 (ry_k2e ym w n nb z t) w nb z j) w j nb)) w j j2) + 0)), (5, .int (nI (8 * j + j2))), (3, .int (ry_ab (ry_k3 (ry_k2e ym w n nb z t) w nb z j) w j nb)), (2, .int (nI j)), (1, .int (ry_kw (ry_k2e ym w n nb z t) w nb z j)), (0, .ref (bd_ea E 18 w 0))]) hx hb dX6_contest_240 hl (by decide) rfl (fun ls hl => ?_)
                                          refine lv_iinc (v := nI ((8 * j + j2) + 1)) (lv' := [(5, .int (nI ((8 * j + j2) + 1))), (4, .int ((ry_ow (ry_q2 (ry_q1 (ry_k3 (ry_k2e ym w n nb z t) w nb z j) w nb j) w j (ry_ab (ry_k3 (ry_k2e ym w n nb z t) w nb z j) w j nb)) w j j2) + 0)), (3, .int (ry_ab (ry_k3 (ry_k2e ym w n nb z t) w nb z j) w j nb)), (2, .int (nI j)), (1, .int (ry_kw (ry_k2e ym w n nb z t) w nb z j)), (0, .ref (bd_ea E 18 w 0))]) hx hb dX6_contest_242 hl (k := 1) rfl (nI_1 (8 * j + j2)) (by decide) rfl (fun ls hl => ?_)
                                          refine lv_goto (tgt := 185) hx hb dX6_contest_245 (by decide) ?_
                                          exact ih7 (j2 + 1) (by omega) (by omega) _ _ (hR.eq rfl rfl) hS _ (by rw [show (nI (8 * j + (j2 + 1)) : Int32) = nI ((8 * j + j2) + 1) from (by first | (simp (config := { decide := true }) only [ry_ow, eq_true c10, eq_true nc10, eq_true c36, eq_true nc36, eq_false c75, eq_false nc75, eq_true c92, eq_true nc92, eq_false c137, eq_false c157, eq_true c162, eq_false c201, eq_false nc201, eq_false c214, eq_false c231, ↓reduceIte, not_true_eq_false, not_false_eq_true, and_self, and_true, true_and, and_false, false_and]; done) | rfl)]; rw [show (ry_ow (ry_q2 (ry_q1 (ry_k3 (ry_k2e ym w n nb z t) w nb z j) w nb j) w j (ry_ab (ry_k3 (ry_k2e ym w n nb z t) w nb z j) w j nb)) w j (j2 + 1) : Int32) = (ry_ow (ry_q2 (ry_q1 (ry_k3 (ry_k2e ym w n nb z t) w nb z j) w nb j) w j (ry_ab (ry_k3 (ry_k2e ym w n nb z t) w nb z j) w j nb)) w j j2) + 0 from (by first | (simp (config := { decide := true }) only [ry_ow, eq_true c10, eq_true nc10, eq_true c36, eq_true nc36, eq_false c75, eq_false nc75, eq_true c92, eq_true nc92, eq_false c137, eq_false c157, eq_true c162, eq_false c201, eq_false nc201, eq_false c214, eq_false c231, ↓reduceIte, not_true_eq_false, not_false_eq_true, and_self, and_true, true_and, and_false, false_and]; done) | rfl)]; exact lv_sub hl [0, 1, 2, 3, 4, 5] rfl)
                                        · skip
                                          refine lv_iconst (v := 1) hx hb dX6_contest_234 (by decide) ?_
                                          refine lv_goto (tgt := 239) hx hb dX6_contest_235 (by decide) ?_
                                          refine lv_iadd hx hb dX6_contest_239 ?_
                                          refine lv_istore (lv' := [(4, .int ((ry_ow (ry_q2 (ry_q1 (ry_k3 (ry_k2e ym w n nb z t) w nb z j) w nb j) w j (ry_ab (ry_k3 (ry_k2e ym w n nb z t) w nb z j) w j nb)) w j j2) + 1)), (5, .int (nI (8 * j + j2))), (3, .int (ry_ab (ry_k3 (ry_k2e ym w n nb z t) w nb z j) w j nb)), (2, .int (nI j)), (1, .int (ry_kw (ry_k2e ym w n nb z t) w nb z j)), (0, .ref (bd_ea E 18 w 0))]) hx hb dX6_contest_240 hl (by decide) rfl (fun ls hl => ?_)
                                          refine lv_iinc (v := nI ((8 * j + j2) + 1)) (lv' := [(5, .int (nI ((8 * j + j2) + 1))), (4, .int ((ry_ow (ry_q2 (ry_q1 (ry_k3 (ry_k2e ym w n nb z t) w nb z j) w nb j) w j (ry_ab (ry_k3 (ry_k2e ym w n nb z t) w nb z j) w j nb)) w j j2) + 1)), (3, .int (ry_ab (ry_k3 (ry_k2e ym w n nb z t) w nb z j) w j nb)), (2, .int (nI j)), (1, .int (ry_kw (ry_k2e ym w n nb z t) w nb z j)), (0, .ref (bd_ea E 18 w 0))]) hx hb dX6_contest_242 hl (k := 1) rfl (nI_1 (8 * j + j2)) (by decide) rfl (fun ls hl => ?_)
                                          refine lv_goto (tgt := 185) hx hb dX6_contest_245 (by decide) ?_
                                          exact ih7 (j2 + 1) (by omega) (by omega) _ _ (hR.eq rfl rfl) hS _ (by rw [show (nI (8 * j + (j2 + 1)) : Int32) = nI ((8 * j + j2) + 1) from (by first | (simp (config := { decide := true }) only [ry_ow, eq_true c10, eq_true nc10, eq_true c36, eq_true nc36, eq_false c75, eq_false nc75, eq_true c92, eq_true nc92, eq_false c137, eq_false c157, eq_true c162, eq_false c201, eq_false nc201, eq_false c214, eq_true c231, ↓reduceIte, not_true_eq_false, not_false_eq_true, and_self, and_true, true_and, and_false, false_and]; done) | rfl)]; rw [show (ry_ow (ry_q2 (ry_q1 (ry_k3 (ry_k2e ym w n nb z t) w nb z j) w nb j) w j (ry_ab (ry_k3 (ry_k2e ym w n nb z t) w nb z j) w j nb)) w j (j2 + 1) : Int32) = (ry_ow (ry_q2 (ry_q1 (ry_k3 (ry_k2e ym w n nb z t) w nb z j) w nb j) w j (ry_ab (ry_k3 (ry_k2e ym w n nb z t) w nb z j) w j nb)) w j j2) + 1 from (by first | (simp (config := { decide := true }) only [ry_ow, eq_true c10, eq_true nc10, eq_true c36, eq_true nc36, eq_false c75, eq_false nc75, eq_true c92, eq_true nc92, eq_false c137, eq_false c157, eq_true c162, eq_false c201, eq_false nc201, eq_false c214, eq_true c231, ↓reduceIte, not_true_eq_false, not_false_eq_true, and_self, and_true, true_and, and_false, false_and]; done) | rfl)]; exact lv_sub hl [0, 1, 2, 3, 4, 5] rfl)
                                exact lp7 ((z j) + 1) 0 (by omega) (by omega) _ _ (hR.eq rfl rfl) hS _ (by rw [show (nI (8 * j + 0) : Int32) = nI (8 * j) from by rfl]; rw [show (ry_ow (ry_q2 (ry_q1 (ry_k3 (ry_k2e ym w n nb z t) w nb z j) w nb j) w j (ry_ab (ry_k3 (ry_k2e ym w n nb z t) w nb z j) w j nb)) w j 0 : Int32) = 0 from by rfl]; exact lv_sub hl [0, 1, 2, 3, 4, 5] rfl)
                              · skip
                                refine lv_iconst (v := 0) hx hb dX6_contest_165 (by decide) ?_
                                refine lv_goto (tgt := 174) hx hb dX6_contest_166 (by decide) ?_
                                refine lv_iadd hx hb dX6_contest_174 ?_
                                refine bd_st_26 C hR hS (by omega) (j := j) (by omega) dX6_contest_175 (fun H locs hR hS => ?_)
                                have hR : bd_Rep E xm (ry_q2 (ry_q1 (ry_k3 (ry_k2e ym w n nb z t) w nb z j) w nb j) w j (ry_ab (ry_k3 (ry_k2e ym w n nb z t) w nb z j) w j nb)) om H := hR.eq rfl (by rw [ry_q2, if_neg c157, if_neg c162])
                                refine lv_iconst (v := 0) hx hb dX6_contest_176 (by decide) ?_
                                refine lv_istore (lv' := [(4, .int 0), (3, .int (ry_ab (ry_k3 (ry_k2e ym w n nb z t) w nb z j) w j nb)), (2, .int (nI j)), (1, .int (ry_kw (ry_k2e ym w n nb z t) w nb z j)), (0, .ref (bd_ea E 18 w 0))]) hx hb dX6_contest_177 hl (by decide) rfl (fun ls hl => ?_)
                                refine lv_bipush (v := 8) hx hb dX6_contest_179 (by decide) ?_
                                refine lv_iload_n hx hb dX6_contest_181 rfl (lv_at hl 2 rfl) ?_
                                refine lv_imul hx hb dX6_contest_182 ?_
                                refine bd_ti (j := 8 * j) (pk_mul 8 j) ?_
                                refine lv_istore (lv' := [(5, .int (nI (8 * j))), (4, .int 0), (3, .int (ry_ab (ry_k3 (ry_k2e ym w n nb z t) w nb z j) w j nb)), (2, .int (nI j)), (1, .int (ry_kw (ry_k2e ym w n nb z t) w nb z j)), (0, .ref (bd_ea E 18 w 0))]) hx hb dX6_contest_183 hl (by decide) rfl (fun ls hl => ?_)
                                have lp8 : ∀ (t8 j2 : Nat), j2 ≤ z j → (z j) - j2 < t8 → ∀ (H : Heap) (locs : List Loc), bd_Rep E xm (ry_q2 (ry_q1 (ry_k3 (ry_k2e ym w n nb z t) w nb z j) w nb j) w j (ry_ab (ry_k3 (ry_k2e ym w n nb z t) w nb z j) w j nb)) om H → va_S (bd_A E) s.heap H locs → ∀ (ls : Array Slot), lv_has ls 6 [(5, .int (nI (8 * j + j2))), (4, .int (ry_ow (ry_q2 (ry_q1 (ry_k3 (ry_k2e ym w n nb z t) w nb z j) w nb j) w j (ry_ab (ry_k3 (ry_k2e ym w n nb z t) w nb z j) w j nb)) w j j2)), (3, .int (ry_ab (ry_k3 (ry_k2e ym w n nb z t) w nb z j) w j nb)), (2, .int (nI j)), (1, .int (ry_kw (ry_k2e ym w n nb z t) w nb z j)), (0, .ref (bd_ea E 18 w 0))] → W p l e { frames := 3, cells := 6, slots := 24, locals := 83 } s m args below meth c H locs nb (4 * nb) (MQ below (bd_Q E xm (ry_con ym w n nb z t) om (some (.int (ry_kw (ry_k2e ym w n nb z t) w nb z nb)))) args s 6 24 (bd_A E)) (F0 m 185 ls []) := by
                                  intro t8
                                  induction t8 with
                                  | zero => intro j2 h1 h2; exact absurd h2 (Nat.not_lt_zero _)
                                  | succ t8 ih8 =>
                                    intro j2 hj21 hj22 H locs hR hS ls hl
                                    refine lv_iload hx hb dX6_contest_185 (lv_at hl 0 rfl) ?_
                                    refine lv_bipush (v := 8) hx hb dX6_contest_187 (by decide) ?_
                                    refine lv_iload_n hx hb dX6_contest_189 rfl (lv_at hl 3 rfl) ?_
                                    refine lv_imul hx hb dX6_contest_190 ?_
                                    refine bd_ti (j := 8 * j) (pk_mul 8 j) ?_
                                    refine lv_aload_n hx hb dX6_contest_191 rfl (lv_at hl 5 rfl) ?_
                                    refine bd_g_X6_this_0 C hR (by omega) qf_X6_3 dX6_contest_192 ?_
                                    refine bd_gN_X7_seats C hR  (List.mem_of_getElem? (i := 14) rfl) dX6_contest_195 ?_
                                    refine lv_iload_n hx hb dX6_contest_198 rfl (lv_at hl 3 rfl) ?_
                                    refine bd_ld_14 C hR  (j := j) (by omega) dX6_contest_199 ?_
                                    have zz199 := ((show ry_Sh (ry_q2 (ry_q1 (ry_k3 (ry_k2e ym w n nb z t) w nb z j) w nb j) w j (ry_ab (ry_k3 (ry_k2e ym w n nb z t) w nb z j) w j nb)) n nb z from (ry_Sh_up (ry_Sh_up (ry_k3_sh (ry_k2_sh (ry_k1_sh hyO n) nb) j) (by decide)) (by decide))).2.2.2.2.1 j (by omega)).2
                                    rw [show (ry_q2 (ry_q1 (ry_k3 (ry_k2e ym w n nb z t) w nb z j) w nb j) w j (ry_ab (ry_k3 (ry_k2e ym w n nb z t) w nb z j) w j nb)) 14 0 j = nI (z j) from ((show ry_Sh (ry_q2 (ry_q1 (ry_k3 (ry_k2e ym w n nb z t) w nb z j) w nb j) w j (ry_ab (ry_k3 (ry_k2e ym w n nb z t) w nb z j) w j nb)) n nb z from (ry_Sh_up (ry_Sh_up (ry_k3_sh (ry_k2_sh (ry_k1_sh hyO n) nb) j) (by decide)) (by decide))).2.2.2.2.1 j (by omega)).1]
                                    refine lv_iadd hx hb dX6_contest_200 ?_
                                    refine bd_ti (j := (8 * j) + (z j)) (nI_add (8 * j) (z j)) ?_
                                    refine lv_icmp_ge (tgt := 248) hx hb dX6_contest_201 (by decide) (fun c201 => ?_) (fun c201 => ?_)
                                    · skip
                                      have nc201 : ((8 * j) + (z j)) ≤ (8 * j + j2) := (nI_leI (a := ((8 * j) + (z j))) (b := (8 * j + j2)) (by omega) (by omega)).mp c201
                                      obtain rfl : z j = j2 := by omega
                                      refine lv_aload_n hx hb dX6_contest_248 rfl (lv_at hl 5 rfl) ?_
                                      refine bd_g_X6_spirit C hR (by omega) qf_X6_34 dX6_contest_249 ?_
                                      refine lv_iload_n hx hb dX6_contest_252 rfl (lv_at hl 3 rfl) ?_
                                      refine lv_iconst (v := 0) hx hb dX6_contest_253 (by decide) ?_
                                      refine lv_bipush (v := 50) hx hb dX6_contest_254 (by decide) ?_
                                      refine lv_aload_n hx hb dX6_contest_256 rfl (lv_at hl 5 rfl) ?_
                                      refine bd_g_X6_spirit C hR (by omega) qf_X6_34 dX6_contest_257 ?_
                                      refine lv_iload_n hx hb dX6_contest_260 rfl (lv_at hl 3 rfl) ?_
                                      refine bd_ld_25 C hR (by omega) (j := j) (by omega) dX6_contest_261 ?_
                                      refine lv_iload hx hb dX6_contest_262 (lv_at hl 1 rfl) ?_
                                      refine lv_iadd hx hb dX6_contest_264 ?_
                                      refine lv_iconst (v := 2) hx hb dX6_contest_265 (by decide) ?_
                                      refine lv_aload_n hx hb dX6_contest_266 rfl (lv_at hl 5 rfl) ?_
                                      refine bd_g_X6_latest C hR (by omega) qf_X6_43 dX6_contest_267 ?_
                                      refine lv_iconst (v := 4) hx hb dX6_contest_270 (by decide) ?_
                                      refine lv_iload_n hx hb dX6_contest_271 rfl (lv_at hl 3 rfl) ?_
                                      refine lv_imul hx hb dX6_contest_272 ?_
                                      refine bd_ti (j := 4 * j) (pk_mul 4 j) ?_
                                      refine lv_iconst (v := 2) hx hb dX6_contest_273 (by decide) ?_
                                      refine lv_iadd hx hb dX6_contest_274 ?_
                                      refine bd_ti (j := (4 * j) + 2) (nI_add (4 * j) 2) ?_
                                      refine bd_ld_28 C hR (by omega) (j := ((4 * j) + 2)) (by omega) dX6_contest_275 ?_
                                      refine lv_imul hx hb dX6_contest_276 ?_
                                      refine lv_isub hx hb dX6_contest_277 ?_
                                      refine bd_min C hl.1 qm_X6_100 ⟨Nat.le_of_ble_eq_true rfl, Nat.le_of_ble_eq_true rfl⟩ ⟨by show nb + 0 ≤ 6; omega, by show 4 * nb + 0 ≤ 24; omega⟩ dX6_contest_278 ?_
                                      refine bd_max C hl.1 qm_X6_95 ⟨Nat.le_of_ble_eq_true rfl, Nat.le_of_ble_eq_true rfl⟩ ⟨by show nb + 0 ≤ 6; omega, by show 4 * nb + 0 ≤ 24; omega⟩ dX6_contest_281 ?_
                                      refine bd_st_25 C hR hS (by omega) (j := j) (by omega) dX6_contest_284 (fun H locs hR hS => ?_)
                                      refine lv_iinc (v := nI (j + 1)) (lv' := [(2, .int (nI (j + 1))), (5, .int (nI (8 * j + (z j)))), (4, .int (ry_ow (ry_q2 (ry_q1 (ry_k3 (ry_k2e ym w n nb z t) w nb z j) w nb j) w j (ry_ab (ry_k3 (ry_k2e ym w n nb z t) w nb z j) w j nb)) w j (z j))), (3, .int (ry_ab (ry_k3 (ry_k2e ym w n nb z t) w nb z j) w j nb)), (1, .int (ry_kw (ry_k2e ym w n nb z t) w nb z j)), (0, .ref (bd_ea E 18 w 0))]) hx hb dX6_contest_285 hl (k := 3) rfl (nI_1 j) (by decide) rfl (fun ls hl => ?_)
                                      refine lv_goto (tgt := 67) hx hb dX6_contest_288 (by decide) ?_
                                      exact ih3 (j + 1) (by omega) (by omega) _ _ (hR.eq rfl (by first | (simp (config := { decide := true }) only [ry_kw, ry_k3, ry_q3, eq_true c10, eq_true nc10, eq_true c36, eq_true nc36, eq_false c75, eq_false nc75, eq_true c92, eq_true nc92, eq_false c137, eq_false c157, eq_false c162, eq_true c201, eq_true nc201, ↓reduceIte, not_true_eq_false, not_false_eq_true, and_self, and_true, true_and, and_false, false_and]; done) | rfl)) hS _ (by rw [show (ry_kw (ry_k2e ym w n nb z t) w nb z (j + 1) : Int32) = ry_kw (ry_k2e ym w n nb z t) w nb z j from (by first | (simp (config := { decide := true }) only [ry_kw, ry_k3, ry_q3, eq_true c10, eq_true nc10, eq_true c36, eq_true nc36, eq_false c75, eq_false nc75, eq_true c92, eq_true nc92, eq_false c137, eq_false c157, eq_false c162, eq_true c201, eq_true nc201, ↓reduceIte, not_true_eq_false, not_false_eq_true, and_self, and_true, true_and, and_false, false_and]; done) | rfl)]; exact lv_sub hl [0, 4, 5] rfl)
                                    · skip
                                      have nc201 : ¬ ((8 * j) + (z j)) ≤ (8 * j + j2) := fun q9 => c201 ((nI_leI (a := ((8 * j) + (z j))) (b := (8 * j + j2)) (by omega) (by omega)).mpr q9)
                                      refine lv_iload hx hb dX6_contest_204 (lv_at hl 1 rfl) ?_
                                      refine lv_aload_n hx hb dX6_contest_206 rfl (lv_at hl 5 rfl) ?_
                                      refine bd_g_X6_who C hR (by omega) qf_X6_31 dX6_contest_207 ?_
                                      refine lv_iload hx hb dX6_contest_210 (lv_at hl 0 rfl) ?_
                                      refine bd_ld_24 C hR (by omega) (j := (8 * j + j2)) (by omega) dX6_contest_212 ?_
                                      refine lv_iconst (v := (-1)) hx hb dX6_contest_213 (by decide) ?_
                                      refine lv_icmp_eq (tgt := 238) hx hb dX6_contest_214 (by decide) (fun c214 => ?_) (fun c214 => ?_)
                                      · skip
                                        refine lv_iconst (v := 0) hx hb dX6_contest_238 (by decide) ?_
                                        refine lv_iadd hx hb dX6_contest_239 ?_
                                        refine lv_istore (lv' := [(4, .int ((ry_ow (ry_q2 (ry_q1 (ry_k3 (ry_k2e ym w n nb z t) w nb z j) w nb j) w j (ry_ab (ry_k3 (ry_k2e ym w n nb z t) w nb z j) w j nb)) w j j2) + 0)), (5, .int (nI (8 * j + j2))), (3, .int (ry_ab (ry_k3 (ry_k2e ym w n nb z t) w nb z j) w j nb)), (2, .int (nI j)), (1, .int (ry_kw (ry_k2e ym w n nb z t) w nb z j)), (0, .ref (bd_ea E 18 w 0))]) hx hb dX6_contest_240 hl (by decide) rfl (fun ls hl => ?_)
                                        refine lv_iinc (v := nI ((8 * j + j2) + 1)) (lv' := [(5, .int (nI ((8 * j + j2) + 1))), (4, .int ((ry_ow (ry_q2 (ry_q1 (ry_k3 (ry_k2e ym w n nb z t) w nb z j) w nb j) w j (ry_ab (ry_k3 (ry_k2e ym w n nb z t) w nb z j) w j nb)) w j j2) + 0)), (3, .int (ry_ab (ry_k3 (ry_k2e ym w n nb z t) w nb z j) w j nb)), (2, .int (nI j)), (1, .int (ry_kw (ry_k2e ym w n nb z t) w nb z j)), (0, .ref (bd_ea E 18 w 0))]) hx hb dX6_contest_242 hl (k := 1) rfl (nI_1 (8 * j + j2)) (by decide) rfl (fun ls hl => ?_)
                                        refine lv_goto (tgt := 185) hx hb dX6_contest_245 (by decide) ?_
                                        exact ih8 (j2 + 1) (by omega) (by omega) _ _ (hR.eq rfl rfl) hS _ (by rw [show (nI (8 * j + (j2 + 1)) : Int32) = nI ((8 * j + j2) + 1) from (by first | (simp (config := { decide := true }) only [ry_ow, eq_true c10, eq_true nc10, eq_true c36, eq_true nc36, eq_false c75, eq_false nc75, eq_true c92, eq_true nc92, eq_false c137, eq_false c157, eq_false c162, eq_false c201, eq_false nc201, eq_true c214, ↓reduceIte, not_true_eq_false, not_false_eq_true, and_self, and_true, true_and, and_false, false_and]; done) | rfl)]; rw [show (ry_ow (ry_q2 (ry_q1 (ry_k3 (ry_k2e ym w n nb z t) w nb z j) w nb j) w j (ry_ab (ry_k3 (ry_k2e ym w n nb z t) w nb z j) w j nb)) w j (j2 + 1) : Int32) = (ry_ow (ry_q2 (ry_q1 (ry_k3 (ry_k2e ym w n nb z t) w nb z j) w nb j) w j (ry_ab (ry_k3 (ry_k2e ym w n nb z t) w nb z j) w j nb)) w j j2) + 0 from (by first | (simp (config := { decide := true }) only [ry_ow, eq_true c10, eq_true nc10, eq_true c36, eq_true nc36, eq_false c75, eq_false nc75, eq_true c92, eq_true nc92, eq_false c137, eq_false c157, eq_false c162, eq_false c201, eq_false nc201, eq_true c214, ↓reduceIte, not_true_eq_false, not_false_eq_true, and_self, and_true, true_and, and_false, false_and]; done) | rfl)]; exact lv_sub hl [0, 1, 2, 3, 4, 5] rfl)
                                      · skip
                                        refine lv_aload_n hx hb dX6_contest_217 rfl (lv_at hl 5 rfl) ?_
                                        refine bd_g_X6_who C hR (by omega) qf_X6_31 dX6_contest_218 ?_
                                        refine lv_iload hx hb dX6_contest_221 (lv_at hl 0 rfl) ?_
                                        refine bd_ld_24 C hR (by omega) (j := (8 * j + j2)) (by omega) dX6_contest_223 ?_
                                        refine lv_aload_n hx hb dX6_contest_224 rfl (lv_at hl 5 rfl) ?_
                                        refine bd_g_X6_member C hR (by omega) qf_X6_28 dX6_contest_225 ?_
                                        refine lv_iload hx hb dX6_contest_228 (lv_at hl 0 rfl) ?_
                                        refine bd_ld_23 C hR (by omega) (j := (8 * j + j2)) (by omega) dX6_contest_230 ?_
                                        refine lv_icmp_ne (tgt := 238) hx hb dX6_contest_231 (by decide) (fun c231 => ?_) (fun c231 => ?_)
                                        · skip
                                          refine lv_iconst (v := 0) hx hb dX6_contest_238 (by decide) ?_
                                          refine lv_iadd hx hb dX6_contest_239 ?_
                                          refine lv_istore (lv' := [(4, .int ((ry_ow (ry_q2 (ry_q1 (ry_k3 (ry_k2e ym w n nb z t) w nb z j) w nb j) w j (ry_ab (ry_k3 (ry_k2e ym w n nb z t) w nb z j) w j nb)) w j j2) + 0)), (5, .int (nI (8 * j + j2))), (3, .int (ry_ab (ry_k3 (ry_k2e ym w n nb z t) w nb z j) w j nb)), (2, .int (nI j)), (1, .int (ry_kw (ry_k2e ym w n nb z t) w nb z j)), (0, .ref (bd_ea E 18 w 0))]) hx hb dX6_contest_240 hl (by decide) rfl (fun ls hl => ?_)
                                          refine lv_iinc (v := nI ((8 * j + j2) + 1)) (lv' := [(5, .int (nI ((8 * j + j2) + 1))), (4, .int ((ry_ow (ry_q2 (ry_q1 (ry_k3 (ry_k2e ym w n nb z t) w nb z j) w nb j) w j (ry_ab (ry_k3 (ry_k2e ym w n nb z t) w nb z j) w j nb)) w j j2) + 0)), (3, .int (ry_ab (ry_k3 (ry_k2e ym w n nb z t) w nb z j) w j nb)), (2, .int (nI j)), (1, .int (ry_kw (ry_k2e ym w n nb z t) w nb z j)), (0, .ref (bd_ea E 18 w 0))]) hx hb dX6_contest_242 hl (k := 1) rfl (nI_1 (8 * j + j2)) (by decide) rfl (fun ls hl => ?_)
                                          refine lv_goto (tgt := 185) hx hb dX6_contest_245 (by decide) ?_
                                          exact ih8 (j2 + 1) (by omega) (by omega) _ _ (hR.eq rfl rfl) hS _ (by rw [show (nI (8 * j + (j2 + 1)) : Int32) = nI ((8 * j + j2) + 1) from (by first | (simp (config := { decide := true }) only [ry_ow, eq_true c10, eq_true nc10, eq_true c36, eq_true nc36, eq_false c75, eq_false nc75, eq_true c92, eq_true nc92, eq_false c137, eq_false c157, eq_false c162, eq_false c201, eq_false nc201, eq_false c214, eq_false c231, ↓reduceIte, not_true_eq_false, not_false_eq_true, and_self, and_true, true_and, and_false, false_and]; done) | rfl)]; rw [show (ry_ow (ry_q2 (ry_q1 (ry_k3 (ry_k2e ym w n nb z t) w nb z j) w nb j) w j (ry_ab (ry_k3 (ry_k2e ym w n nb z t) w nb z j) w j nb)) w j (j2 + 1) : Int32) = (ry_ow (ry_q2 (ry_q1 (ry_k3 (ry_k2e ym w n nb z t) w nb z j) w nb j) w j (ry_ab (ry_k3 (ry_k2e ym w n nb z t) w nb z j) w j nb)) w j j2) + 0 from (by first | (simp (config := { decide := true }) only [ry_ow, eq_true c10, eq_true nc10, eq_true c36, eq_true nc36, eq_false c75, eq_false nc75, eq_true c92, eq_true nc92, eq_false c137, eq_false c157, eq_false c162, eq_false c201, eq_false nc201, eq_false c214, eq_false c231, ↓reduceIte, not_true_eq_false, not_false_eq_true, and_self, and_true, true_and, and_false, false_and]; done) | rfl)]; exact lv_sub hl [0, 1, 2, 3, 4, 5] rfl)
                                        · skip
                                          refine lv_iconst (v := 1) hx hb dX6_contest_234 (by decide) ?_
                                          refine lv_goto (tgt := 239) hx hb dX6_contest_235 (by decide) ?_
                                          refine lv_iadd hx hb dX6_contest_239 ?_
                                          refine lv_istore (lv' := [(4, .int ((ry_ow (ry_q2 (ry_q1 (ry_k3 (ry_k2e ym w n nb z t) w nb z j) w nb j) w j (ry_ab (ry_k3 (ry_k2e ym w n nb z t) w nb z j) w j nb)) w j j2) + 1)), (5, .int (nI (8 * j + j2))), (3, .int (ry_ab (ry_k3 (ry_k2e ym w n nb z t) w nb z j) w j nb)), (2, .int (nI j)), (1, .int (ry_kw (ry_k2e ym w n nb z t) w nb z j)), (0, .ref (bd_ea E 18 w 0))]) hx hb dX6_contest_240 hl (by decide) rfl (fun ls hl => ?_)
                                          refine lv_iinc (v := nI ((8 * j + j2) + 1)) (lv' := [(5, .int (nI ((8 * j + j2) + 1))), (4, .int ((ry_ow (ry_q2 (ry_q1 (ry_k3 (ry_k2e ym w n nb z t) w nb z j) w nb j) w j (ry_ab (ry_k3 (ry_k2e ym w n nb z t) w nb z j) w j nb)) w j j2) + 1)), (3, .int (ry_ab (ry_k3 (ry_k2e ym w n nb z t) w nb z j) w j nb)), (2, .int (nI j)), (1, .int (ry_kw (ry_k2e ym w n nb z t) w nb z j)), (0, .ref (bd_ea E 18 w 0))]) hx hb dX6_contest_242 hl (k := 1) rfl (nI_1 (8 * j + j2)) (by decide) rfl (fun ls hl => ?_)
                                          refine lv_goto (tgt := 185) hx hb dX6_contest_245 (by decide) ?_
                                          exact ih8 (j2 + 1) (by omega) (by omega) _ _ (hR.eq rfl rfl) hS _ (by rw [show (nI (8 * j + (j2 + 1)) : Int32) = nI ((8 * j + j2) + 1) from (by first | (simp (config := { decide := true }) only [ry_ow, eq_true c10, eq_true nc10, eq_true c36, eq_true nc36, eq_false c75, eq_false nc75, eq_true c92, eq_true nc92, eq_false c137, eq_false c157, eq_false c162, eq_false c201, eq_false nc201, eq_false c214, eq_true c231, ↓reduceIte, not_true_eq_false, not_false_eq_true, and_self, and_true, true_and, and_false, false_and]; done) | rfl)]; rw [show (ry_ow (ry_q2 (ry_q1 (ry_k3 (ry_k2e ym w n nb z t) w nb z j) w nb j) w j (ry_ab (ry_k3 (ry_k2e ym w n nb z t) w nb z j) w j nb)) w j (j2 + 1) : Int32) = (ry_ow (ry_q2 (ry_q1 (ry_k3 (ry_k2e ym w n nb z t) w nb z j) w nb j) w j (ry_ab (ry_k3 (ry_k2e ym w n nb z t) w nb z j) w j nb)) w j j2) + 1 from (by first | (simp (config := { decide := true }) only [ry_ow, eq_true c10, eq_true nc10, eq_true c36, eq_true nc36, eq_false c75, eq_false nc75, eq_true c92, eq_true nc92, eq_false c137, eq_false c157, eq_false c162, eq_false c201, eq_false nc201, eq_false c214, eq_true c231, ↓reduceIte, not_true_eq_false, not_false_eq_true, and_self, and_true, true_and, and_false, false_and]; done) | rfl)]; exact lv_sub hl [0, 1, 2, 3, 4, 5] rfl)
                                exact lp8 ((z j) + 1) 0 (by omega) (by omega) _ _ (hR.eq rfl rfl) hS _ (by rw [show (nI (8 * j + 0) : Int32) = nI (8 * j) from by rfl]; rw [show (ry_ow (ry_q2 (ry_q1 (ry_k3 (ry_k2e ym w n nb z t) w nb z j) w nb j) w j (ry_ab (ry_k3 (ry_k2e ym w n nb z t) w nb z j) w j nb)) w j 0 : Int32) = 0 from by rfl]; exact lv_sub hl [0, 1, 2, 3, 4, 5] rfl)
                          · skip
                            refine lv_iload_n hx hb dX6_contest_140 rfl (lv_at hl 2 rfl) ?_
                            refine lv_istore_n (lv' := [(1, .int (nI j)), (4, .int (nI nb)), (3, .int (ry_ab (ry_k3 (ry_k2e ym w n nb z t) w nb z j) w j nb)), (2, .int (nI j)), (0, .ref (bd_ea E 18 w 0))]) hx hb dX6_contest_141 rfl hl (by decide) rfl (fun ls hl => ?_)
                            refine lv_aload_n hx hb dX6_contest_142 rfl (lv_at hl 4 rfl) ?_
                            refine bd_g_X6_points C hR (by omega) qf_X6_37 dX6_contest_143 ?_
                            refine lv_iload_n hx hb dX6_contest_146 rfl (lv_at hl 3 rfl) ?_
                            refine lv_dup2_11 hx hb dX6_contest_147 rfl rfl ?_
                            refine bd_ld_26 C hR (by omega) (j := j) (by omega) dX6_contest_148 ?_
                            refine lv_aload_n hx hb dX6_contest_149 rfl (lv_at hl 4 rfl) ?_
                            refine bd_g_X6_latest C hR (by omega) qf_X6_43 dX6_contest_150 ?_
                            refine lv_iconst (v := 4) hx hb dX6_contest_153 (by decide) ?_
                            refine lv_iload_n hx hb dX6_contest_154 rfl (lv_at hl 3 rfl) ?_
                            refine lv_imul hx hb dX6_contest_155 ?_
                            refine bd_ti (j := 4 * j) (pk_mul 4 j) ?_
                            refine bd_ld_28 C hR (by omega) (j := (4 * j)) (by omega) dX6_contest_156 ?_
                            refine lv_if_eq (tgt := 165) hx hb dX6_contest_157 (by decide) (fun c157 => ?_) (fun c157 => ?_)
                            · skip
                              refine lv_iconst (v := 0) hx hb dX6_contest_165 (by decide) ?_
                              refine lv_goto (tgt := 174) hx hb dX6_contest_166 (by decide) ?_
                              refine lv_iadd hx hb dX6_contest_174 ?_
                              refine bd_st_26 C hR hS (by omega) (j := j) (by omega) dX6_contest_175 (fun H locs hR hS => ?_)
                              have hR : bd_Rep E xm (ry_q2 (ry_q1 (ry_k3 (ry_k2e ym w n nb z t) w nb z j) w nb j) w j (ry_ab (ry_k3 (ry_k2e ym w n nb z t) w nb z j) w j nb)) om H := hR.eq rfl (by rw [ry_q2, if_pos c157])
                              refine lv_iconst (v := 0) hx hb dX6_contest_176 (by decide) ?_
                              refine lv_istore (lv' := [(4, .int 0), (1, .int (nI j)), (3, .int (ry_ab (ry_k3 (ry_k2e ym w n nb z t) w nb z j) w j nb)), (2, .int (nI j)), (0, .ref (bd_ea E 18 w 0))]) hx hb dX6_contest_177 hl (by decide) rfl (fun ls hl => ?_)
                              refine lv_bipush (v := 8) hx hb dX6_contest_179 (by decide) ?_
                              refine lv_iload_n hx hb dX6_contest_181 rfl (lv_at hl 3 rfl) ?_
                              refine lv_imul hx hb dX6_contest_182 ?_
                              refine bd_ti (j := 8 * j) (pk_mul 8 j) ?_
                              refine lv_istore (lv' := [(5, .int (nI (8 * j))), (4, .int 0), (1, .int (nI j)), (3, .int (ry_ab (ry_k3 (ry_k2e ym w n nb z t) w nb z j) w j nb)), (2, .int (nI j)), (0, .ref (bd_ea E 18 w 0))]) hx hb dX6_contest_183 hl (by decide) rfl (fun ls hl => ?_)
                              have lp9 : ∀ (t9 j2 : Nat), j2 ≤ z j → (z j) - j2 < t9 → ∀ (H : Heap) (locs : List Loc), bd_Rep E xm (ry_q2 (ry_q1 (ry_k3 (ry_k2e ym w n nb z t) w nb z j) w nb j) w j (ry_ab (ry_k3 (ry_k2e ym w n nb z t) w nb z j) w j nb)) om H → va_S (bd_A E) s.heap H locs → ∀ (ls : Array Slot), lv_has ls 6 [(5, .int (nI (8 * j + j2))), (4, .int (ry_ow (ry_q2 (ry_q1 (ry_k3 (ry_k2e ym w n nb z t) w nb z j) w nb j) w j (ry_ab (ry_k3 (ry_k2e ym w n nb z t) w nb z j) w j nb)) w j j2)), (1, .int (nI j)), (3, .int (ry_ab (ry_k3 (ry_k2e ym w n nb z t) w nb z j) w j nb)), (2, .int (nI j)), (0, .ref (bd_ea E 18 w 0))] → W p l e { frames := 3, cells := 6, slots := 24, locals := 83 } s m args below meth c H locs nb (4 * nb) (MQ below (bd_Q E xm (ry_con ym w n nb z t) om (some (.int (ry_kw (ry_k2e ym w n nb z t) w nb z nb)))) args s 6 24 (bd_A E)) (F0 m 185 ls []) := by
                                intro t9
                                induction t9 with
                                | zero => intro j2 h1 h2; exact absurd h2 (Nat.not_lt_zero _)
                                | succ t9 ih9 =>
                                  intro j2 hj21 hj22 H locs hR hS ls hl
                                  refine lv_iload hx hb dX6_contest_185 (lv_at hl 0 rfl) ?_
                                  refine lv_bipush (v := 8) hx hb dX6_contest_187 (by decide) ?_
                                  refine lv_iload_n hx hb dX6_contest_189 rfl (lv_at hl 4 rfl) ?_
                                  refine lv_imul hx hb dX6_contest_190 ?_
                                  refine bd_ti (j := 8 * j) (pk_mul 8 j) ?_
                                  refine lv_aload_n hx hb dX6_contest_191 rfl (lv_at hl 5 rfl) ?_
                                  refine bd_g_X6_this_0 C hR (by omega) qf_X6_3 dX6_contest_192 ?_
                                  refine bd_gN_X7_seats C hR  (List.mem_of_getElem? (i := 14) rfl) dX6_contest_195 ?_
                                  refine lv_iload_n hx hb dX6_contest_198 rfl (lv_at hl 4 rfl) ?_
                                  refine bd_ld_14 C hR  (j := j) (by omega) dX6_contest_199 ?_
                                  have zz199 := ((show ry_Sh (ry_q2 (ry_q1 (ry_k3 (ry_k2e ym w n nb z t) w nb z j) w nb j) w j (ry_ab (ry_k3 (ry_k2e ym w n nb z t) w nb z j) w j nb)) n nb z from (ry_Sh_up (ry_Sh_up (ry_k3_sh (ry_k2_sh (ry_k1_sh hyO n) nb) j) (by decide)) (by decide))).2.2.2.2.1 j (by omega)).2
                                  rw [show (ry_q2 (ry_q1 (ry_k3 (ry_k2e ym w n nb z t) w nb z j) w nb j) w j (ry_ab (ry_k3 (ry_k2e ym w n nb z t) w nb z j) w j nb)) 14 0 j = nI (z j) from ((show ry_Sh (ry_q2 (ry_q1 (ry_k3 (ry_k2e ym w n nb z t) w nb z j) w nb j) w j (ry_ab (ry_k3 (ry_k2e ym w n nb z t) w nb z j) w j nb)) n nb z from (ry_Sh_up (ry_Sh_up (ry_k3_sh (ry_k2_sh (ry_k1_sh hyO n) nb) j) (by decide)) (by decide))).2.2.2.2.1 j (by omega)).1]
                                  refine lv_iadd hx hb dX6_contest_200 ?_
                                  refine bd_ti (j := (8 * j) + (z j)) (nI_add (8 * j) (z j)) ?_
                                  refine lv_icmp_ge (tgt := 248) hx hb dX6_contest_201 (by decide) (fun c201 => ?_) (fun c201 => ?_)
                                  · skip
                                    have nc201 : ((8 * j) + (z j)) ≤ (8 * j + j2) := (nI_leI (a := ((8 * j) + (z j))) (b := (8 * j + j2)) (by omega) (by omega)).mp c201
                                    obtain rfl : z j = j2 := by omega
                                    refine lv_aload_n hx hb dX6_contest_248 rfl (lv_at hl 5 rfl) ?_
                                    refine bd_g_X6_spirit C hR (by omega) qf_X6_34 dX6_contest_249 ?_
                                    refine lv_iload_n hx hb dX6_contest_252 rfl (lv_at hl 4 rfl) ?_
                                    refine lv_iconst (v := 0) hx hb dX6_contest_253 (by decide) ?_
                                    refine lv_bipush (v := 50) hx hb dX6_contest_254 (by decide) ?_
                                    refine lv_aload_n hx hb dX6_contest_256 rfl (lv_at hl 5 rfl) ?_
                                    refine bd_g_X6_spirit C hR (by omega) qf_X6_34 dX6_contest_257 ?_
                                    refine lv_iload_n hx hb dX6_contest_260 rfl (lv_at hl 4 rfl) ?_
                                    refine bd_ld_25 C hR (by omega) (j := j) (by omega) dX6_contest_261 ?_
                                    refine lv_iload hx hb dX6_contest_262 (lv_at hl 1 rfl) ?_
                                    refine lv_iadd hx hb dX6_contest_264 ?_
                                    refine lv_iconst (v := 2) hx hb dX6_contest_265 (by decide) ?_
                                    refine lv_aload_n hx hb dX6_contest_266 rfl (lv_at hl 5 rfl) ?_
                                    refine bd_g_X6_latest C hR (by omega) qf_X6_43 dX6_contest_267 ?_
                                    refine lv_iconst (v := 4) hx hb dX6_contest_270 (by decide) ?_
                                    refine lv_iload_n hx hb dX6_contest_271 rfl (lv_at hl 4 rfl) ?_
                                    refine lv_imul hx hb dX6_contest_272 ?_
                                    refine bd_ti (j := 4 * j) (pk_mul 4 j) ?_
                                    refine lv_iconst (v := 2) hx hb dX6_contest_273 (by decide) ?_
                                    refine lv_iadd hx hb dX6_contest_274 ?_
                                    refine bd_ti (j := (4 * j) + 2) (nI_add (4 * j) 2) ?_
                                    refine bd_ld_28 C hR (by omega) (j := ((4 * j) + 2)) (by omega) dX6_contest_275 ?_
                                    refine lv_imul hx hb dX6_contest_276 ?_
                                    refine lv_isub hx hb dX6_contest_277 ?_
                                    refine bd_min C hl.1 qm_X6_100 ⟨Nat.le_of_ble_eq_true rfl, Nat.le_of_ble_eq_true rfl⟩ ⟨by show nb + 0 ≤ 6; omega, by show 4 * nb + 0 ≤ 24; omega⟩ dX6_contest_278 ?_
                                    refine bd_max C hl.1 qm_X6_95 ⟨Nat.le_of_ble_eq_true rfl, Nat.le_of_ble_eq_true rfl⟩ ⟨by show nb + 0 ≤ 6; omega, by show 4 * nb + 0 ≤ 24; omega⟩ dX6_contest_281 ?_
                                    refine bd_st_25 C hR hS (by omega) (j := j) (by omega) dX6_contest_284 (fun H locs hR hS => ?_)
                                    refine lv_iinc (v := nI (j + 1)) (lv' := [(2, .int (nI (j + 1))), (5, .int (nI (8 * j + (z j)))), (4, .int (ry_ow (ry_q2 (ry_q1 (ry_k3 (ry_k2e ym w n nb z t) w nb z j) w nb j) w j (ry_ab (ry_k3 (ry_k2e ym w n nb z t) w nb z j) w j nb)) w j (z j))), (1, .int (nI j)), (3, .int (ry_ab (ry_k3 (ry_k2e ym w n nb z t) w nb z j) w j nb)), (0, .ref (bd_ea E 18 w 0))]) hx hb dX6_contest_285 hl (k := 4) rfl (nI_1 j) (by decide) rfl (fun ls hl => ?_)
                                    refine lv_goto (tgt := 67) hx hb dX6_contest_288 (by decide) ?_
                                    exact ih3 (j + 1) (by omega) (by omega) _ _ (hR.eq rfl (by first | (simp (config := { decide := true }) only [ry_kw, ry_k3, ry_q3, eq_true c10, eq_true nc10, eq_true c36, eq_true nc36, eq_false c75, eq_false nc75, eq_true c92, eq_true nc92, eq_true c137, eq_true c157, eq_true c201, eq_true nc201, ↓reduceIte, not_true_eq_false, not_false_eq_true, and_self, and_true, true_and, and_false, false_and]; done) | rfl)) hS _ (by rw [show (ry_kw (ry_k2e ym w n nb z t) w nb z (j + 1) : Int32) = nI j from (by first | (simp (config := { decide := true }) only [ry_kw, ry_k3, ry_q3, eq_true c10, eq_true nc10, eq_true c36, eq_true nc36, eq_false c75, eq_false nc75, eq_true c92, eq_true nc92, eq_true c137, eq_true c157, eq_true c201, eq_true nc201, ↓reduceIte, not_true_eq_false, not_false_eq_true, and_self, and_true, true_and, and_false, false_and]; done) | rfl)]; exact lv_sub hl [0, 3, 5] rfl)
                                  · skip
                                    have nc201 : ¬ ((8 * j) + (z j)) ≤ (8 * j + j2) := fun q9 => c201 ((nI_leI (a := ((8 * j) + (z j))) (b := (8 * j + j2)) (by omega) (by omega)).mpr q9)
                                    refine lv_iload hx hb dX6_contest_204 (lv_at hl 1 rfl) ?_
                                    refine lv_aload_n hx hb dX6_contest_206 rfl (lv_at hl 5 rfl) ?_
                                    refine bd_g_X6_who C hR (by omega) qf_X6_31 dX6_contest_207 ?_
                                    refine lv_iload hx hb dX6_contest_210 (lv_at hl 0 rfl) ?_
                                    refine bd_ld_24 C hR (by omega) (j := (8 * j + j2)) (by omega) dX6_contest_212 ?_
                                    refine lv_iconst (v := (-1)) hx hb dX6_contest_213 (by decide) ?_
                                    refine lv_icmp_eq (tgt := 238) hx hb dX6_contest_214 (by decide) (fun c214 => ?_) (fun c214 => ?_)
                                    · skip
                                      refine lv_iconst (v := 0) hx hb dX6_contest_238 (by decide) ?_
                                      refine lv_iadd hx hb dX6_contest_239 ?_
                                      refine lv_istore (lv' := [(4, .int ((ry_ow (ry_q2 (ry_q1 (ry_k3 (ry_k2e ym w n nb z t) w nb z j) w nb j) w j (ry_ab (ry_k3 (ry_k2e ym w n nb z t) w nb z j) w j nb)) w j j2) + 0)), (5, .int (nI (8 * j + j2))), (1, .int (nI j)), (3, .int (ry_ab (ry_k3 (ry_k2e ym w n nb z t) w nb z j) w j nb)), (2, .int (nI j)), (0, .ref (bd_ea E 18 w 0))]) hx hb dX6_contest_240 hl (by decide) rfl (fun ls hl => ?_)
                                      refine lv_iinc (v := nI ((8 * j + j2) + 1)) (lv' := [(5, .int (nI ((8 * j + j2) + 1))), (4, .int ((ry_ow (ry_q2 (ry_q1 (ry_k3 (ry_k2e ym w n nb z t) w nb z j) w nb j) w j (ry_ab (ry_k3 (ry_k2e ym w n nb z t) w nb z j) w j nb)) w j j2) + 0)), (1, .int (nI j)), (3, .int (ry_ab (ry_k3 (ry_k2e ym w n nb z t) w nb z j) w j nb)), (2, .int (nI j)), (0, .ref (bd_ea E 18 w 0))]) hx hb dX6_contest_242 hl (k := 1) rfl (nI_1 (8 * j + j2)) (by decide) rfl (fun ls hl => ?_)
                                      refine lv_goto (tgt := 185) hx hb dX6_contest_245 (by decide) ?_
                                      exact ih9 (j2 + 1) (by omega) (by omega) _ _ (hR.eq rfl rfl) hS _ (by rw [show (nI (8 * j + (j2 + 1)) : Int32) = nI ((8 * j + j2) + 1) from (by first | (simp (config := { decide := true }) only [ry_ow, eq_true c10, eq_true nc10, eq_true c36, eq_true nc36, eq_false c75, eq_false nc75, eq_true c92, eq_true nc92, eq_true c137, eq_true c157, eq_false c201, eq_false nc201, eq_true c214, ↓reduceIte, not_true_eq_false, not_false_eq_true, and_self, and_true, true_and, and_false, false_and]; done) | rfl)]; rw [show (ry_ow (ry_q2 (ry_q1 (ry_k3 (ry_k2e ym w n nb z t) w nb z j) w nb j) w j (ry_ab (ry_k3 (ry_k2e ym w n nb z t) w nb z j) w j nb)) w j (j2 + 1) : Int32) = (ry_ow (ry_q2 (ry_q1 (ry_k3 (ry_k2e ym w n nb z t) w nb z j) w nb j) w j (ry_ab (ry_k3 (ry_k2e ym w n nb z t) w nb z j) w j nb)) w j j2) + 0 from (by first | (simp (config := { decide := true }) only [ry_ow, eq_true c10, eq_true nc10, eq_true c36, eq_true nc36, eq_false c75, eq_false nc75, eq_true c92, eq_true nc92, eq_true c137, eq_true c157, eq_false c201, eq_false nc201, eq_true c214, ↓reduceIte, not_true_eq_false, not_false_eq_true, and_self, and_true, true_and, and_false, false_and]; done) | rfl)]; exact lv_sub hl [0, 1, 2, 3, 4, 5] rfl)
                                    · skip
                                      refine lv_aload_n hx hb dX6_contest_217 rfl (lv_at hl 5 rfl) ?_
                                      refine bd_g_X6_who C hR (by omega) qf_X6_31 dX6_contest_218 ?_
                                      refine lv_iload hx hb dX6_contest_221 (lv_at hl 0 rfl) ?_
                                      refine bd_ld_24 C hR (by omega) (j := (8 * j + j2)) (by omega) dX6_contest_223 ?_
                                      refine lv_aload_n hx hb dX6_contest_224 rfl (lv_at hl 5 rfl) ?_
                                      refine bd_g_X6_member C hR (by omega) qf_X6_28 dX6_contest_225 ?_
                                      refine lv_iload hx hb dX6_contest_228 (lv_at hl 0 rfl) ?_
                                      refine bd_ld_23 C hR (by omega) (j := (8 * j + j2)) (by omega) dX6_contest_230 ?_
                                      refine lv_icmp_ne (tgt := 238) hx hb dX6_contest_231 (by decide) (fun c231 => ?_) (fun c231 => ?_)
                                      · skip
                                        refine lv_iconst (v := 0) hx hb dX6_contest_238 (by decide) ?_
                                        refine lv_iadd hx hb dX6_contest_239 ?_
                                        refine lv_istore (lv' := [(4, .int ((ry_ow (ry_q2 (ry_q1 (ry_k3 (ry_k2e ym w n nb z t) w nb z j) w nb j) w j (ry_ab (ry_k3 (ry_k2e ym w n nb z t) w nb z j) w j nb)) w j j2) + 0)), (5, .int (nI (8 * j + j2))), (1, .int (nI j)), (3, .int (ry_ab (ry_k3 (ry_k2e ym w n nb z t) w nb z j) w j nb)), (2, .int (nI j)), (0, .ref (bd_ea E 18 w 0))]) hx hb dX6_contest_240 hl (by decide) rfl (fun ls hl => ?_)
                                        refine lv_iinc (v := nI ((8 * j + j2) + 1)) (lv' := [(5, .int (nI ((8 * j + j2) + 1))), (4, .int ((ry_ow (ry_q2 (ry_q1 (ry_k3 (ry_k2e ym w n nb z t) w nb z j) w nb j) w j (ry_ab (ry_k3 (ry_k2e ym w n nb z t) w nb z j) w j nb)) w j j2) + 0)), (1, .int (nI j)), (3, .int (ry_ab (ry_k3 (ry_k2e ym w n nb z t) w nb z j) w j nb)), (2, .int (nI j)), (0, .ref (bd_ea E 18 w 0))]) hx hb dX6_contest_242 hl (k := 1) rfl (nI_1 (8 * j + j2)) (by decide) rfl (fun ls hl => ?_)
                                        refine lv_goto (tgt := 185) hx hb dX6_contest_245 (by decide) ?_
                                        exact ih9 (j2 + 1) (by omega) (by omega) _ _ (hR.eq rfl rfl) hS _ (by rw [show (nI (8 * j + (j2 + 1)) : Int32) = nI ((8 * j + j2) + 1) from (by first | (simp (config := { decide := true }) only [ry_ow, eq_true c10, eq_true nc10, eq_true c36, eq_true nc36, eq_false c75, eq_false nc75, eq_true c92, eq_true nc92, eq_true c137, eq_true c157, eq_false c201, eq_false nc201, eq_false c214, eq_false c231, ↓reduceIte, not_true_eq_false, not_false_eq_true, and_self, and_true, true_and, and_false, false_and]; done) | rfl)]; rw [show (ry_ow (ry_q2 (ry_q1 (ry_k3 (ry_k2e ym w n nb z t) w nb z j) w nb j) w j (ry_ab (ry_k3 (ry_k2e ym w n nb z t) w nb z j) w j nb)) w j (j2 + 1) : Int32) = (ry_ow (ry_q2 (ry_q1 (ry_k3 (ry_k2e ym w n nb z t) w nb z j) w nb j) w j (ry_ab (ry_k3 (ry_k2e ym w n nb z t) w nb z j) w j nb)) w j j2) + 0 from (by first | (simp (config := { decide := true }) only [ry_ow, eq_true c10, eq_true nc10, eq_true c36, eq_true nc36, eq_false c75, eq_false nc75, eq_true c92, eq_true nc92, eq_true c137, eq_true c157, eq_false c201, eq_false nc201, eq_false c214, eq_false c231, ↓reduceIte, not_true_eq_false, not_false_eq_true, and_self, and_true, true_and, and_false, false_and]; done) | rfl)]; exact lv_sub hl [0, 1, 2, 3, 4, 5] rfl)
                                      · skip
                                        refine lv_iconst (v := 1) hx hb dX6_contest_234 (by decide) ?_
                                        refine lv_goto (tgt := 239) hx hb dX6_contest_235 (by decide) ?_
                                        refine lv_iadd hx hb dX6_contest_239 ?_
                                        refine lv_istore (lv' := [(4, .int ((ry_ow (ry_q2 (ry_q1 (ry_k3 (ry_k2e ym w n nb z t) w nb z j) w nb j) w j (ry_ab (ry_k3 (ry_k2e ym w n nb z t) w nb z j) w j nb)) w j j2) + 1)), (5, .int (nI (8 * j + j2))), (1, .int (nI j)), (3, .int (ry_ab (ry_k3 (ry_k2e ym w n nb z t) w nb z j) w j nb)), (2, .int (nI j)), (0, .ref (bd_ea E 18 w 0))]) hx hb dX6_contest_240 hl (by decide) rfl (fun ls hl => ?_)
                                        refine lv_iinc (v := nI ((8 * j + j2) + 1)) (lv' := [(5, .int (nI ((8 * j + j2) + 1))), (4, .int ((ry_ow (ry_q2 (ry_q1 (ry_k3 (ry_k2e ym w n nb z t) w nb z j) w nb j) w j (ry_ab (ry_k3 (ry_k2e ym w n nb z t) w nb z j) w j nb)) w j j2) + 1)), (1, .int (nI j)), (3, .int (ry_ab (ry_k3 (ry_k2e ym w n nb z t) w nb z j) w j nb)), (2, .int (nI j)), (0, .ref (bd_ea E 18 w 0))]) hx hb dX6_contest_242 hl (k := 1) rfl (nI_1 (8 * j + j2)) (by decide) rfl (fun ls hl => ?_)
                                        refine lv_goto (tgt := 185) hx hb dX6_contest_245 (by decide) ?_
                                        exact ih9 (j2 + 1) (by omega) (by omega) _ _ (hR.eq rfl rfl) hS _ (by rw [show (nI (8 * j + (j2 + 1)) : Int32) = nI ((8 * j + j2) + 1) from (by first | (simp (config := { decide := true }) only [ry_ow, eq_true c10, eq_true nc10, eq_true c36, eq_true nc36, eq_false c75, eq_false nc75, eq_true c92, eq_true nc92, eq_true c137, eq_true c157, eq_false c201, eq_false nc201, eq_false c214, eq_true c231, ↓reduceIte, not_true_eq_false, not_false_eq_true, and_self, and_true, true_and, and_false, false_and]; done) | rfl)]; rw [show (ry_ow (ry_q2 (ry_q1 (ry_k3 (ry_k2e ym w n nb z t) w nb z j) w nb j) w j (ry_ab (ry_k3 (ry_k2e ym w n nb z t) w nb z j) w j nb)) w j (j2 + 1) : Int32) = (ry_ow (ry_q2 (ry_q1 (ry_k3 (ry_k2e ym w n nb z t) w nb z j) w nb j) w j (ry_ab (ry_k3 (ry_k2e ym w n nb z t) w nb z j) w j nb)) w j j2) + 1 from (by first | (simp (config := { decide := true }) only [ry_ow, eq_true c10, eq_true nc10, eq_true c36, eq_true nc36, eq_false c75, eq_false nc75, eq_true c92, eq_true nc92, eq_true c137, eq_true c157, eq_false c201, eq_false nc201, eq_false c214, eq_true c231, ↓reduceIte, not_true_eq_false, not_false_eq_true, and_self, and_true, true_and, and_false, false_and]; done) | rfl)]; exact lv_sub hl [0, 1, 2, 3, 4, 5] rfl)
                              exact lp9 ((z j) + 1) 0 (by omega) (by omega) _ _ (hR.eq rfl rfl) hS _ (by rw [show (nI (8 * j + 0) : Int32) = nI (8 * j) from by rfl]; rw [show (ry_ow (ry_q2 (ry_q1 (ry_k3 (ry_k2e ym w n nb z t) w nb z j) w nb j) w j (ry_ab (ry_k3 (ry_k2e ym w n nb z t) w nb z j) w j nb)) w j 0 : Int32) = 0 from by rfl]; exact lv_sub hl [0, 1, 2, 3, 4, 5] rfl)
                            · skip
                              refine lv_iload_n hx hb dX6_contest_160 rfl (lv_at hl 2 rfl) ?_
                              refine lv_iconst (v := 2) hx hb dX6_contest_161 (by decide) ?_
                              refine lv_icmp_le (tgt := 169) hx hb dX6_contest_162 (by decide) (fun c162 => ?_) (fun c162 => ?_)
                              · skip
                                refine lv_iconst (v := 5) hx hb dX6_contest_169 (by decide) ?_
                                refine lv_iconst (v := 2) hx hb dX6_contest_170 (by decide) ?_
                                refine lv_iload_n hx hb dX6_contest_171 rfl (lv_at hl 2 rfl) ?_
                                refine lv_imul hx hb dX6_contest_172 ?_
                                refine lv_isub hx hb dX6_contest_173 ?_
                                refine lv_iadd hx hb dX6_contest_174 ?_
                                refine bd_st_26 C hR hS (by omega) (j := j) (by omega) dX6_contest_175 (fun H locs hR hS => ?_)
                                have hR : bd_Rep E xm (ry_q2 (ry_q1 (ry_k3 (ry_k2e ym w n nb z t) w nb z j) w nb j) w j (ry_ab (ry_k3 (ry_k2e ym w n nb z t) w nb z j) w j nb)) om H := hR.eq rfl (by rw [ry_q2, if_neg c157, if_pos c162])
                                refine lv_iconst (v := 0) hx hb dX6_contest_176 (by decide) ?_
                                refine lv_istore (lv' := [(4, .int 0), (1, .int (nI j)), (3, .int (ry_ab (ry_k3 (ry_k2e ym w n nb z t) w nb z j) w j nb)), (2, .int (nI j)), (0, .ref (bd_ea E 18 w 0))]) hx hb dX6_contest_177 hl (by decide) rfl (fun ls hl => ?_)
                                refine lv_bipush (v := 8) hx hb dX6_contest_179 (by decide) ?_
                                refine lv_iload_n hx hb dX6_contest_181 rfl (lv_at hl 3 rfl) ?_
                                refine lv_imul hx hb dX6_contest_182 ?_
                                refine bd_ti (j := 8 * j) (pk_mul 8 j) ?_
                                refine lv_istore (lv' := [(5, .int (nI (8 * j))), (4, .int 0), (1, .int (nI j)), (3, .int (ry_ab (ry_k3 (ry_k2e ym w n nb z t) w nb z j) w j nb)), (2, .int (nI j)), (0, .ref (bd_ea E 18 w 0))]) hx hb dX6_contest_183 hl (by decide) rfl (fun ls hl => ?_)
                                have lp10 : ∀ (t10 j2 : Nat), j2 ≤ z j → (z j) - j2 < t10 → ∀ (H : Heap) (locs : List Loc), bd_Rep E xm (ry_q2 (ry_q1 (ry_k3 (ry_k2e ym w n nb z t) w nb z j) w nb j) w j (ry_ab (ry_k3 (ry_k2e ym w n nb z t) w nb z j) w j nb)) om H → va_S (bd_A E) s.heap H locs → ∀ (ls : Array Slot), lv_has ls 6 [(5, .int (nI (8 * j + j2))), (4, .int (ry_ow (ry_q2 (ry_q1 (ry_k3 (ry_k2e ym w n nb z t) w nb z j) w nb j) w j (ry_ab (ry_k3 (ry_k2e ym w n nb z t) w nb z j) w j nb)) w j j2)), (1, .int (nI j)), (3, .int (ry_ab (ry_k3 (ry_k2e ym w n nb z t) w nb z j) w j nb)), (2, .int (nI j)), (0, .ref (bd_ea E 18 w 0))] → W p l e { frames := 3, cells := 6, slots := 24, locals := 83 } s m args below meth c H locs nb (4 * nb) (MQ below (bd_Q E xm (ry_con ym w n nb z t) om (some (.int (ry_kw (ry_k2e ym w n nb z t) w nb z nb)))) args s 6 24 (bd_A E)) (F0 m 185 ls []) := by
                                  intro t10
                                  induction t10 with
                                  | zero => intro j2 h1 h2; exact absurd h2 (Nat.not_lt_zero _)
                                  | succ t10 ih10 =>
                                    intro j2 hj21 hj22 H locs hR hS ls hl
                                    refine lv_iload hx hb dX6_contest_185 (lv_at hl 0 rfl) ?_
                                    refine lv_bipush (v := 8) hx hb dX6_contest_187 (by decide) ?_
                                    refine lv_iload_n hx hb dX6_contest_189 rfl (lv_at hl 4 rfl) ?_
                                    refine lv_imul hx hb dX6_contest_190 ?_
                                    refine bd_ti (j := 8 * j) (pk_mul 8 j) ?_
                                    refine lv_aload_n hx hb dX6_contest_191 rfl (lv_at hl 5 rfl) ?_
                                    refine bd_g_X6_this_0 C hR (by omega) qf_X6_3 dX6_contest_192 ?_
                                    refine bd_gN_X7_seats C hR  (List.mem_of_getElem? (i := 14) rfl) dX6_contest_195 ?_
                                    refine lv_iload_n hx hb dX6_contest_198 rfl (lv_at hl 4 rfl) ?_
                                    refine bd_ld_14 C hR  (j := j) (by omega) dX6_contest_199 ?_
                                    have zz199 := ((show ry_Sh (ry_q2 (ry_q1 (ry_k3 (ry_k2e ym w n nb z t) w nb z j) w nb j) w j (ry_ab (ry_k3 (ry_k2e ym w n nb z t) w nb z j) w j nb)) n nb z from (ry_Sh_up (ry_Sh_up (ry_k3_sh (ry_k2_sh (ry_k1_sh hyO n) nb) j) (by decide)) (by decide))).2.2.2.2.1 j (by omega)).2
                                    rw [show (ry_q2 (ry_q1 (ry_k3 (ry_k2e ym w n nb z t) w nb z j) w nb j) w j (ry_ab (ry_k3 (ry_k2e ym w n nb z t) w nb z j) w j nb)) 14 0 j = nI (z j) from ((show ry_Sh (ry_q2 (ry_q1 (ry_k3 (ry_k2e ym w n nb z t) w nb z j) w nb j) w j (ry_ab (ry_k3 (ry_k2e ym w n nb z t) w nb z j) w j nb)) n nb z from (ry_Sh_up (ry_Sh_up (ry_k3_sh (ry_k2_sh (ry_k1_sh hyO n) nb) j) (by decide)) (by decide))).2.2.2.2.1 j (by omega)).1]
                                    refine lv_iadd hx hb dX6_contest_200 ?_
                                    refine bd_ti (j := (8 * j) + (z j)) (nI_add (8 * j) (z j)) ?_
                                    refine lv_icmp_ge (tgt := 248) hx hb dX6_contest_201 (by decide) (fun c201 => ?_) (fun c201 => ?_)
                                    · skip
                                      have nc201 : ((8 * j) + (z j)) ≤ (8 * j + j2) := (nI_leI (a := ((8 * j) + (z j))) (b := (8 * j + j2)) (by omega) (by omega)).mp c201
                                      obtain rfl : z j = j2 := by omega
                                      refine lv_aload_n hx hb dX6_contest_248 rfl (lv_at hl 5 rfl) ?_
                                      refine bd_g_X6_spirit C hR (by omega) qf_X6_34 dX6_contest_249 ?_
                                      refine lv_iload_n hx hb dX6_contest_252 rfl (lv_at hl 4 rfl) ?_
                                      refine lv_iconst (v := 0) hx hb dX6_contest_253 (by decide) ?_
                                      refine lv_bipush (v := 50) hx hb dX6_contest_254 (by decide) ?_
                                      refine lv_aload_n hx hb dX6_contest_256 rfl (lv_at hl 5 rfl) ?_
                                      refine bd_g_X6_spirit C hR (by omega) qf_X6_34 dX6_contest_257 ?_
                                      refine lv_iload_n hx hb dX6_contest_260 rfl (lv_at hl 4 rfl) ?_
                                      refine bd_ld_25 C hR (by omega) (j := j) (by omega) dX6_contest_261 ?_
                                      refine lv_iload hx hb dX6_contest_262 (lv_at hl 1 rfl) ?_
                                      refine lv_iadd hx hb dX6_contest_264 ?_
                                      refine lv_iconst (v := 2) hx hb dX6_contest_265 (by decide) ?_
                                      refine lv_aload_n hx hb dX6_contest_266 rfl (lv_at hl 5 rfl) ?_
                                      refine bd_g_X6_latest C hR (by omega) qf_X6_43 dX6_contest_267 ?_
                                      refine lv_iconst (v := 4) hx hb dX6_contest_270 (by decide) ?_
                                      refine lv_iload_n hx hb dX6_contest_271 rfl (lv_at hl 4 rfl) ?_
                                      refine lv_imul hx hb dX6_contest_272 ?_
                                      refine bd_ti (j := 4 * j) (pk_mul 4 j) ?_
                                      refine lv_iconst (v := 2) hx hb dX6_contest_273 (by decide) ?_
                                      refine lv_iadd hx hb dX6_contest_274 ?_
                                      refine bd_ti (j := (4 * j) + 2) (nI_add (4 * j) 2) ?_
                                      refine bd_ld_28 C hR (by omega) (j := ((4 * j) + 2)) (by omega) dX6_contest_275 ?_
                                      refine lv_imul hx hb dX6_contest_276 ?_
                                      refine lv_isub hx hb dX6_contest_277 ?_
                                      refine bd_min C hl.1 qm_X6_100 ⟨Nat.le_of_ble_eq_true rfl, Nat.le_of_ble_eq_true rfl⟩ ⟨by show nb + 0 ≤ 6; omega, by show 4 * nb + 0 ≤ 24; omega⟩ dX6_contest_278 ?_
                                      refine bd_max C hl.1 qm_X6_95 ⟨Nat.le_of_ble_eq_true rfl, Nat.le_of_ble_eq_true rfl⟩ ⟨by show nb + 0 ≤ 6; omega, by show 4 * nb + 0 ≤ 24; omega⟩ dX6_contest_281 ?_
                                      refine bd_st_25 C hR hS (by omega) (j := j) (by omega) dX6_contest_284 (fun H locs hR hS => ?_)
                                      refine lv_iinc (v := nI (j + 1)) (lv' := [(2, .int (nI (j + 1))), (5, .int (nI (8 * j + (z j)))), (4, .int (ry_ow (ry_q2 (ry_q1 (ry_k3 (ry_k2e ym w n nb z t) w nb z j) w nb j) w j (ry_ab (ry_k3 (ry_k2e ym w n nb z t) w nb z j) w j nb)) w j (z j))), (1, .int (nI j)), (3, .int (ry_ab (ry_k3 (ry_k2e ym w n nb z t) w nb z j) w j nb)), (0, .ref (bd_ea E 18 w 0))]) hx hb dX6_contest_285 hl (k := 4) rfl (nI_1 j) (by decide) rfl (fun ls hl => ?_)
                                      refine lv_goto (tgt := 67) hx hb dX6_contest_288 (by decide) ?_
                                      exact ih3 (j + 1) (by omega) (by omega) _ _ (hR.eq rfl (by first | (simp (config := { decide := true }) only [ry_kw, ry_k3, ry_q3, eq_true c10, eq_true nc10, eq_true c36, eq_true nc36, eq_false c75, eq_false nc75, eq_true c92, eq_true nc92, eq_true c137, eq_false c157, eq_true c162, eq_true c201, eq_true nc201, ↓reduceIte, not_true_eq_false, not_false_eq_true, and_self, and_true, true_and, and_false, false_and]; done) | rfl)) hS _ (by rw [show (ry_kw (ry_k2e ym w n nb z t) w nb z (j + 1) : Int32) = nI j from (by first | (simp (config := { decide := true }) only [ry_kw, ry_k3, ry_q3, eq_true c10, eq_true nc10, eq_true c36, eq_true nc36, eq_false c75, eq_false nc75, eq_true c92, eq_true nc92, eq_true c137, eq_false c157, eq_true c162, eq_true c201, eq_true nc201, ↓reduceIte, not_true_eq_false, not_false_eq_true, and_self, and_true, true_and, and_false, false_and]; done) | rfl)]; exact lv_sub hl [0, 3, 5] rfl)
                                    · skip
                                      have nc201 : ¬ ((8 * j) + (z j)) ≤ (8 * j + j2) := fun q9 => c201 ((nI_leI (a := ((8 * j) + (z j))) (b := (8 * j + j2)) (by omega) (by omega)).mpr q9)
                                      refine lv_iload hx hb dX6_contest_204 (lv_at hl 1 rfl) ?_
                                      refine lv_aload_n hx hb dX6_contest_206 rfl (lv_at hl 5 rfl) ?_
                                      refine bd_g_X6_who C hR (by omega) qf_X6_31 dX6_contest_207 ?_
                                      refine lv_iload hx hb dX6_contest_210 (lv_at hl 0 rfl) ?_
                                      refine bd_ld_24 C hR (by omega) (j := (8 * j + j2)) (by omega) dX6_contest_212 ?_
                                      refine lv_iconst (v := (-1)) hx hb dX6_contest_213 (by decide) ?_
                                      refine lv_icmp_eq (tgt := 238) hx hb dX6_contest_214 (by decide) (fun c214 => ?_) (fun c214 => ?_)
                                      · skip
                                        refine lv_iconst (v := 0) hx hb dX6_contest_238 (by decide) ?_
                                        refine lv_iadd hx hb dX6_contest_239 ?_
                                        refine lv_istore (lv' := [(4, .int ((ry_ow (ry_q2 (ry_q1 (ry_k3 (ry_k2e ym w n nb z t) w nb z j) w nb j) w j (ry_ab (ry_k3 (ry_k2e ym w n nb z t) w nb z j) w j nb)) w j j2) + 0)), (5, .int (nI (8 * j + j2))), (1, .int (nI j)), (3, .int (ry_ab (ry_k3 (ry_k2e ym w n nb z t) w nb z j) w j nb)), (2, .int (nI j)), (0, .ref (bd_ea E 18 w 0))]) hx hb dX6_contest_240 hl (by decide) rfl (fun ls hl => ?_)
                                        refine lv_iinc (v := nI ((8 * j + j2) + 1)) (lv' := [(5, .int (nI ((8 * j + j2) + 1))), (4, .int ((ry_ow (ry_q2 (ry_q1 (ry_k3 (ry_k2e ym w n nb z t) w nb z j) w nb j) w j (ry_ab (ry_k3 (ry_k2e ym w n nb z t) w nb z j) w j nb)) w j j2) + 0)), (1, .int (nI j)), (3, .int (ry_ab (ry_k3 (ry_k2e ym w n nb z t) w nb z j) w j nb)), (2, .int (nI j)), (0, .ref (bd_ea E 18 w 0))]) hx hb dX6_contest_242 hl (k := 1) rfl (nI_1 (8 * j + j2)) (by decide) rfl (fun ls hl => ?_)
                                        refine lv_goto (tgt := 185) hx hb dX6_contest_245 (by decide) ?_
                                        exact ih10 (j2 + 1) (by omega) (by omega) _ _ (hR.eq rfl rfl) hS _ (by rw [show (nI (8 * j + (j2 + 1)) : Int32) = nI ((8 * j + j2) + 1) from (by first | (simp (config := { decide := true }) only [ry_ow, eq_true c10, eq_true nc10, eq_true c36, eq_true nc36, eq_false c75, eq_false nc75, eq_true c92, eq_true nc92, eq_true c137, eq_false c157, eq_true c162, eq_false c201, eq_false nc201, eq_true c214, ↓reduceIte, not_true_eq_false, not_false_eq_true, and_self, and_true, true_and, and_false, false_and]; done) | rfl)]; rw [show (ry_ow (ry_q2 (ry_q1 (ry_k3 (ry_k2e ym w n nb z t) w nb z j) w nb j) w j (ry_ab (ry_k3 (ry_k2e ym w n nb z t) w nb z j) w j nb)) w j (j2 + 1) : Int32) = (ry_ow (ry_q2 (ry_q1 (ry_k3 (ry_k2e ym w n nb z t) w nb z j) w nb j) w j (ry_ab (ry_k3 (ry_k2e ym w n nb z t) w nb z j) w j nb)) w j j2) + 0 from (by first | (simp (config := { decide := true }) only [ry_ow, eq_true c10, eq_true nc10, eq_true c36, eq_true nc36, eq_false c75, eq_false nc75, eq_true c92, eq_true nc92, eq_true c137, eq_false c157, eq_true c162, eq_false c201, eq_false nc201, eq_true c214, ↓reduceIte, not_true_eq_false, not_false_eq_true, and_self, and_true, true_and, and_false, false_and]; done) | rfl)]; exact lv_sub hl [0, 1, 2, 3, 4, 5] rfl)
                                      · skip
                                        refine lv_aload_n hx hb dX6_contest_217 rfl (lv_at hl 5 rfl) ?_
                                        refine bd_g_X6_who C hR (by omega) qf_X6_31 dX6_contest_218 ?_
                                        refine lv_iload hx hb dX6_contest_221 (lv_at hl 0 rfl) ?_
                                        refine bd_ld_24 C hR (by omega) (j := (8 * j + j2)) (by omega) dX6_contest_223 ?_
                                        refine lv_aload_n hx hb dX6_contest_224 rfl (lv_at hl 5 rfl) ?_
                                        refine bd_g_X6_member C hR (by omega) qf_X6_28 dX6_contest_225 ?_
                                        refine lv_iload hx hb dX6_contest_228 (lv_at hl 0 rfl) ?_
                                        refine bd_ld_23 C hR (by omega) (j := (8 * j + j2)) (by omega) dX6_contest_230 ?_
                                        refine lv_icmp_ne (tgt := 238) hx hb dX6_contest_231 (by decide) (fun c231 => ?_) (fun c231 => ?_)
                                        · skip
                                          refine lv_iconst (v := 0) hx hb dX6_contest_238 (by decide) ?_
                                          refine lv_iadd hx hb dX6_contest_239 ?_
                                          refine lv_istore (lv' := [(4, .int ((ry_ow (ry_q2 (ry_q1 (ry_k3 (ry_k2e ym w n nb z t) w nb z j) w nb j) w j (ry_ab (ry_k3 (ry_k2e ym w n nb z t) w nb z j) w j nb)) w j j2) + 0)), (5, .int (nI (8 * j + j2))), (1, .int (nI j)), (3, .int (ry_ab (ry_k3 (ry_k2e ym w n nb z t) w nb z j) w j nb)), (2, .int (nI j)), (0, .ref (bd_ea E 18 w 0))]) hx hb dX6_contest_240 hl (by decide) rfl (fun ls hl => ?_)
                                          refine lv_iinc (v := nI ((8 * j + j2) + 1)) (lv' := [(5, .int (nI ((8 * j + j2) + 1))), (4, .int ((ry_ow (ry_q2 (ry_q1 (ry_k3 (ry_k2e ym w n nb z t) w nb z j) w nb j) w j (ry_ab (ry_k3 (ry_k2e ym w n nb z t) w nb z j) w j nb)) w j j2) + 0)), (1, .int (nI j)), (3, .int (ry_ab (ry_k3 (ry_k2e ym w n nb z t) w nb z j) w j nb)), (2, .int (nI j)), (0, .ref (bd_ea E 18 w 0))]) hx hb dX6_contest_242 hl (k := 1) rfl (nI_1 (8 * j + j2)) (by decide) rfl (fun ls hl => ?_)
                                          refine lv_goto (tgt := 185) hx hb dX6_contest_245 (by decide) ?_
                                          exact ih10 (j2 + 1) (by omega) (by omega) _ _ (hR.eq rfl rfl) hS _ (by rw [show (nI (8 * j + (j2 + 1)) : Int32) = nI ((8 * j + j2) + 1) from (by first | (simp (config := { decide := true }) only [ry_ow, eq_true c10, eq_true nc10, eq_true c36, eq_true nc36, eq_false c75, eq_false nc75, eq_true c92, eq_true nc92, eq_true c137, eq_false c157, eq_true c162, eq_false c201, eq_false nc201, eq_false c214, eq_false c231, ↓reduceIte, not_true_eq_false, not_false_eq_true, and_self, and_true, true_and, and_false, false_and]; done) | rfl)]; rw [show (ry_ow (ry_q2 (ry_q1 (ry_k3 (ry_k2e ym w n nb z t) w nb z j) w nb j) w j (ry_ab (ry_k3 (ry_k2e ym w n nb z t) w nb z j) w j nb)) w j (j2 + 1) : Int32) = (ry_ow (ry_q2 (ry_q1 (ry_k3 (ry_k2e ym w n nb z t) w nb z j) w nb j) w j (ry_ab (ry_k3 (ry_k2e ym w n nb z t) w nb z j) w j nb)) w j j2) + 0 from (by first | (simp (config := { decide := true }) only [ry_ow, eq_true c10, eq_true nc10, eq_true c36, eq_true nc36, eq_false c75, eq_false nc75, eq_true c92, eq_true nc92, eq_true c137, eq_false c157, eq_true c162, eq_false c201, eq_false nc201, eq_false c214, eq_false c231, ↓reduceIte, not_true_eq_false, not_false_eq_true, and_self, and_true, true_and, and_false, false_and]; done) | rfl)]; exact lv_sub hl [0, 1, 2, 3, 4, 5] rfl)
                                        · skip
                                          refine lv_iconst (v := 1) hx hb dX6_contest_234 (by decide) ?_
                                          refine lv_goto (tgt := 239) hx hb dX6_contest_235 (by decide) ?_
                                          refine lv_iadd hx hb dX6_contest_239 ?_
                                          refine lv_istore (lv' := [(4, .int ((ry_ow (ry_q2 (ry_q1 (ry_k3 (ry_k2e ym w n nb z t) w nb z j) w nb j) w j (ry_ab (ry_k3 (ry_k2e ym w n nb z t) w nb z j) w j nb)) w j j2) + 1)), (5, .int (nI (8 * j + j2))), (1, .int (nI j)), (3, .int (ry_ab (ry_k3 (ry_k2e ym w n nb z t) w nb z j) w j nb)), (2, .int (nI j)), (0, .ref (bd_ea E 18 w 0))]) hx hb dX6_contest_240 hl (by decide) rfl (fun ls hl => ?_)
                                          refine lv_iinc (v := nI ((8 * j + j2) + 1)) (lv' := [(5, .int (nI ((8 * j + j2) + 1))), (4, .int ((ry_ow (ry_q2 (ry_q1 (ry_k3 (ry_k2e ym w n nb z t) w nb z j) w nb j) w j (ry_ab (ry_k3 (ry_k2e ym w n nb z t) w nb z j) w j nb)) w j j2) + 1)), (1, .int (nI j)), (3, .int (ry_ab (ry_k3 (ry_k2e ym w n nb z t) w nb z j) w j nb)), (2, .int (nI j)), (0, .ref (bd_ea E 18 w 0))]) hx hb dX6_contest_242 hl (k := 1) rfl (nI_1 (8 * j + j2)) (by decide) rfl (fun ls hl => ?_)
                                          refine lv_goto (tgt := 185) hx hb dX6_contest_245 (by decide) ?_
                                          exact ih10 (j2 + 1) (by omega) (by omega) _ _ (hR.eq rfl rfl) hS _ (by rw [show (nI (8 * j + (j2 + 1)) : Int32) = nI ((8 * j + j2) + 1) from (by first | (simp (config := { decide := true }) only [ry_ow, eq_true c10, eq_true nc10, eq_true c36, eq_true nc36, eq_false c75, eq_false nc75, eq_true c92, eq_true nc92, eq_true c137, eq_false c157, eq_true c162, eq_false c201, eq_false nc201, eq_false c214, eq_true c231, ↓reduceIte, not_true_eq_false, not_false_eq_true, and_self, and_true, true_and, and_false, false_and]; done) | rfl)]; rw [show (ry_ow (ry_q2 (ry_q1 (ry_k3 (ry_k2e ym w n nb z t) w nb z j) w nb j) w j (ry_ab (ry_k3 (ry_k2e ym w n nb z t) w nb z j) w j nb)) w j (j2 + 1) : Int32) = (ry_ow (ry_q2 (ry_q1 (ry_k3 (ry_k2e ym w n nb z t) w nb z j) w nb j) w j (ry_ab (ry_k3 (ry_k2e ym w n nb z t) w nb z j) w j nb)) w j j2) + 1 from (by first | (simp (config := { decide := true }) only [ry_ow, eq_true c10, eq_true nc10, eq_true c36, eq_true nc36, eq_false c75, eq_false nc75, eq_true c92, eq_true nc92, eq_true c137, eq_false c157, eq_true c162, eq_false c201, eq_false nc201, eq_false c214, eq_true c231, ↓reduceIte, not_true_eq_false, not_false_eq_true, and_self, and_true, true_and, and_false, false_and]; done) | rfl)]; exact lv_sub hl [0, 1, 2, 3, 4, 5] rfl)
                                exact lp10 ((z j) + 1) 0 (by omega) (by omega) _ _ (hR.eq rfl rfl) hS _ (by rw [show (nI (8 * j + 0) : Int32) = nI (8 * j) from by rfl]; rw [show (ry_ow (ry_q2 (ry_q1 (ry_k3 (ry_k2e ym w n nb z t) w nb z j) w nb j) w j (ry_ab (ry_k3 (ry_k2e ym w n nb z t) w nb z j) w j nb)) w j 0 : Int32) = 0 from by rfl]; exact lv_sub hl [0, 1, 2, 3, 4, 5] rfl)
                              · skip
                                refine lv_iconst (v := 0) hx hb dX6_contest_165 (by decide) ?_
                                refine lv_goto (tgt := 174) hx hb dX6_contest_166 (by decide) ?_
                                refine lv_iadd hx hb dX6_contest_174 ?_
                                refine bd_st_26 C hR hS (by omega) (j := j) (by omega) dX6_contest_175 (fun H locs hR hS => ?_)
                                have hR : bd_Rep E xm (ry_q2 (ry_q1 (ry_k3 (ry_k2e ym w n nb z t) w nb z j) w nb j) w j (ry_ab (ry_k3 (ry_k2e ym w n nb z t) w nb z j) w j nb)) om H := hR.eq rfl (by rw [ry_q2, if_neg c157, if_neg c162])
                                refine lv_iconst (v := 0) hx hb dX6_contest_176 (by decide) ?_
                                refine lv_istore (lv' := [(4, .int 0), (1, .int (nI j)), (3, .int (ry_ab (ry_k3 (ry_k2e ym w n nb z t) w nb z j) w j nb)), (2, .int (nI j)), (0, .ref (bd_ea E 18 w 0))]) hx hb dX6_contest_177 hl (by decide) rfl (fun ls hl => ?_)
                                refine lv_bipush (v := 8) hx hb dX6_contest_179 (by decide) ?_
                                refine lv_iload_n hx hb dX6_contest_181 rfl (lv_at hl 3 rfl) ?_
                                refine lv_imul hx hb dX6_contest_182 ?_
                                refine bd_ti (j := 8 * j) (pk_mul 8 j) ?_
                                refine lv_istore (lv' := [(5, .int (nI (8 * j))), (4, .int 0), (1, .int (nI j)), (3, .int (ry_ab (ry_k3 (ry_k2e ym w n nb z t) w nb z j) w j nb)), (2, .int (nI j)), (0, .ref (bd_ea E 18 w 0))]) hx hb dX6_contest_183 hl (by decide) rfl (fun ls hl => ?_)
                                have lp11 : ∀ (t11 j2 : Nat), j2 ≤ z j → (z j) - j2 < t11 → ∀ (H : Heap) (locs : List Loc), bd_Rep E xm (ry_q2 (ry_q1 (ry_k3 (ry_k2e ym w n nb z t) w nb z j) w nb j) w j (ry_ab (ry_k3 (ry_k2e ym w n nb z t) w nb z j) w j nb)) om H → va_S (bd_A E) s.heap H locs → ∀ (ls : Array Slot), lv_has ls 6 [(5, .int (nI (8 * j + j2))), (4, .int (ry_ow (ry_q2 (ry_q1 (ry_k3 (ry_k2e ym w n nb z t) w nb z j) w nb j) w j (ry_ab (ry_k3 (ry_k2e ym w n nb z t) w nb z j) w j nb)) w j j2)), (1, .int (nI j)), (3, .int (ry_ab (ry_k3 (ry_k2e ym w n nb z t) w nb z j) w j nb)), (2, .int (nI j)), (0, .ref (bd_ea E 18 w 0))] → W p l e { frames := 3, cells := 6, slots := 24, locals := 83 } s m args below meth c H locs nb (4 * nb) (MQ below (bd_Q E xm (ry_con ym w n nb z t) om (some (.int (ry_kw (ry_k2e ym w n nb z t) w nb z nb)))) args s 6 24 (bd_A E)) (F0 m 185 ls []) := by
                                  intro t11
                                  induction t11 with
                                  | zero => intro j2 h1 h2; exact absurd h2 (Nat.not_lt_zero _)
                                  | succ t11 ih11 =>
                                    intro j2 hj21 hj22 H locs hR hS ls hl
                                    refine lv_iload hx hb dX6_contest_185 (lv_at hl 0 rfl) ?_
                                    refine lv_bipush (v := 8) hx hb dX6_contest_187 (by decide) ?_
                                    refine lv_iload_n hx hb dX6_contest_189 rfl (lv_at hl 4 rfl) ?_
                                    refine lv_imul hx hb dX6_contest_190 ?_
                                    refine bd_ti (j := 8 * j) (pk_mul 8 j) ?_
                                    refine lv_aload_n hx hb dX6_contest_191 rfl (lv_at hl 5 rfl) ?_
                                    refine bd_g_X6_this_0 C hR (by omega) qf_X6_3 dX6_contest_192 ?_
                                    refine bd_gN_X7_seats C hR  (List.mem_of_getElem? (i := 14) rfl) dX6_contest_195 ?_
                                    refine lv_iload_n hx hb dX6_contest_198 rfl (lv_at hl 4 rfl) ?_
                                    refine bd_ld_14 C hR  (j := j) (by omega) dX6_contest_199 ?_
                                    have zz199 := ((show ry_Sh (ry_q2 (ry_q1 (ry_k3 (ry_k2e ym w n nb z t) w nb z j) w nb j) w j (ry_ab (ry_k3 (ry_k2e ym w n nb z t) w nb z j) w j nb)) n nb z from (ry_Sh_up (ry_Sh_up (ry_k3_sh (ry_k2_sh (ry_k1_sh hyO n) nb) j) (by decide)) (by decide))).2.2.2.2.1 j (by omega)).2
                                    rw [show (ry_q2 (ry_q1 (ry_k3 (ry_k2e ym w n nb z t) w nb z j) w nb j) w j (ry_ab (ry_k3 (ry_k2e ym w n nb z t) w nb z j) w j nb)) 14 0 j = nI (z j) from ((show ry_Sh (ry_q2 (ry_q1 (ry_k3 (ry_k2e ym w n nb z t) w nb z j) w nb j) w j (ry_ab (ry_k3 (ry_k2e ym w n nb z t) w nb z j) w j nb)) n nb z from (ry_Sh_up (ry_Sh_up (ry_k3_sh (ry_k2_sh (ry_k1_sh hyO n) nb) j) (by decide)) (by decide))).2.2.2.2.1 j (by omega)).1]
                                    refine lv_iadd hx hb dX6_contest_200 ?_
                                    refine bd_ti (j := (8 * j) + (z j)) (nI_add (8 * j) (z j)) ?_
                                    refine lv_icmp_ge (tgt := 248) hx hb dX6_contest_201 (by decide) (fun c201 => ?_) (fun c201 => ?_)
                                    · skip
                                      have nc201 : ((8 * j) + (z j)) ≤ (8 * j + j2) := (nI_leI (a := ((8 * j) + (z j))) (b := (8 * j + j2)) (by omega) (by omega)).mp c201
                                      obtain rfl : z j = j2 := by omega
                                      refine lv_aload_n hx hb dX6_contest_248 rfl (lv_at hl 5 rfl) ?_
                                      refine bd_g_X6_spirit C hR (by omega) qf_X6_34 dX6_contest_249 ?_
                                      refine lv_iload_n hx hb dX6_contest_252 rfl (lv_at hl 4 rfl) ?_
                                      refine lv_iconst (v := 0) hx hb dX6_contest_253 (by decide) ?_
                                      refine lv_bipush (v := 50) hx hb dX6_contest_254 (by decide) ?_
                                      refine lv_aload_n hx hb dX6_contest_256 rfl (lv_at hl 5 rfl) ?_
                                      refine bd_g_X6_spirit C hR (by omega) qf_X6_34 dX6_contest_257 ?_
                                      refine lv_iload_n hx hb dX6_contest_260 rfl (lv_at hl 4 rfl) ?_
                                      refine bd_ld_25 C hR (by omega) (j := j) (by omega) dX6_contest_261 ?_
                                      refine lv_iload hx hb dX6_contest_262 (lv_at hl 1 rfl) ?_
                                      refine lv_iadd hx hb dX6_contest_264 ?_
                                      refine lv_iconst (v := 2) hx hb dX6_contest_265 (by decide) ?_
                                      refine lv_aload_n hx hb dX6_contest_266 rfl (lv_at hl 5 rfl) ?_
                                      refine bd_g_X6_latest C hR (by omega) qf_X6_43 dX6_contest_267 ?_
                                      refine lv_iconst (v := 4) hx hb dX6_contest_270 (by decide) ?_
                                      refine lv_iload_n hx hb dX6_contest_271 rfl (lv_at hl 4 rfl) ?_
                                      refine lv_imul hx hb dX6_contest_272 ?_
                                      refine bd_ti (j := 4 * j) (pk_mul 4 j) ?_
                                      refine lv_iconst (v := 2) hx hb dX6_contest_273 (by decide) ?_
                                      refine lv_iadd hx hb dX6_contest_274 ?_
                                      refine bd_ti (j := (4 * j) + 2) (nI_add (4 * j) 2) ?_
                                      refine bd_ld_28 C hR (by omega) (j := ((4 * j) + 2)) (by omega) dX6_contest_275 ?_
                                      refine lv_imul hx hb dX6_contest_276 ?_
                                      refine lv_isub hx hb dX6_contest_277 ?_
                                      refine bd_min C hl.1 qm_X6_100 ⟨Nat.le_of_ble_eq_true rfl, Nat.le_of_ble_eq_true rfl⟩ ⟨by show nb + 0 ≤ 6; omega, by show 4 * nb + 0 ≤ 24; omega⟩ dX6_contest_278 ?_
                                      refine bd_max C hl.1 qm_X6_95 ⟨Nat.le_of_ble_eq_true rfl, Nat.le_of_ble_eq_true rfl⟩ ⟨by show nb + 0 ≤ 6; omega, by show 4 * nb + 0 ≤ 24; omega⟩ dX6_contest_281 ?_
                                      refine bd_st_25 C hR hS (by omega) (j := j) (by omega) dX6_contest_284 (fun H locs hR hS => ?_)
                                      refine lv_iinc (v := nI (j + 1)) (lv' := [(2, .int (nI (j + 1))), (5, .int (nI (8 * j + (z j)))), (4, .int (ry_ow (ry_q2 (ry_q1 (ry_k3 (ry_k2e ym w n nb z t) w nb z j) w nb j) w j (ry_ab (ry_k3 (ry_k2e ym w n nb z t) w nb z j) w j nb)) w j (z j))), (1, .int (nI j)), (3, .int (ry_ab (ry_k3 (ry_k2e ym w n nb z t) w nb z j) w j nb)), (0, .ref (bd_ea E 18 w 0))]) hx hb dX6_contest_285 hl (k := 4) rfl (nI_1 j) (by decide) rfl (fun ls hl => ?_)
                                      refine lv_goto (tgt := 67) hx hb dX6_contest_288 (by decide) ?_
                                      exact ih3 (j + 1) (by omega) (by omega) _ _ (hR.eq rfl (by first | (simp (config := { decide := true }) only [ry_kw, ry_k3, ry_q3, eq_true c10, eq_true nc10, eq_true c36, eq_true nc36, eq_false c75, eq_false nc75, eq_true c92, eq_true nc92, eq_true c137, eq_false c157, eq_false c162, eq_true c201, eq_true nc201, ↓reduceIte, not_true_eq_false, not_false_eq_true, and_self, and_true, true_and, and_false, false_and]; done) | rfl)) hS _ (by rw [show (ry_kw (ry_k2e ym w n nb z t) w nb z (j + 1) : Int32) = nI j from (by first | (simp (config := { decide := true }) only [ry_kw, ry_k3, ry_q3, eq_true c10, eq_true nc10, eq_true c36, eq_true nc36, eq_false c75, eq_false nc75, eq_true c92, eq_true nc92, eq_true c137, eq_false c157, eq_false c162, eq_true c201, eq_true nc201, ↓reduceIte, not_true_eq_false, not_false_eq_true, and_self, and_true, true_and, and_false, false_and]; done) | rfl)]; exact lv_sub hl [0, 3, 5] rfl)
                                    · skip
                                      have nc201 : ¬ ((8 * j) + (z j)) ≤ (8 * j + j2) := fun q9 => c201 ((nI_leI (a := ((8 * j) + (z j))) (b := (8 * j + j2)) (by omega) (by omega)).mpr q9)
                                      refine lv_iload hx hb dX6_contest_204 (lv_at hl 1 rfl) ?_
                                      refine lv_aload_n hx hb dX6_contest_206 rfl (lv_at hl 5 rfl) ?_
                                      refine bd_g_X6_who C hR (by omega) qf_X6_31 dX6_contest_207 ?_
                                      refine lv_iload hx hb dX6_contest_210 (lv_at hl 0 rfl) ?_
                                      refine bd_ld_24 C hR (by omega) (j := (8 * j + j2)) (by omega) dX6_contest_212 ?_
                                      refine lv_iconst (v := (-1)) hx hb dX6_contest_213 (by decide) ?_
                                      refine lv_icmp_eq (tgt := 238) hx hb dX6_contest_214 (by decide) (fun c214 => ?_) (fun c214 => ?_)
                                      · skip
                                        refine lv_iconst (v := 0) hx hb dX6_contest_238 (by decide) ?_
                                        refine lv_iadd hx hb dX6_contest_239 ?_
                                        refine lv_istore (lv' := [(4, .int ((ry_ow (ry_q2 (ry_q1 (ry_k3 (ry_k2e ym w n nb z t) w nb z j) w nb j) w j (ry_ab (ry_k3 (ry_k2e ym w n nb z t) w nb z j) w j nb)) w j j2) + 0)), (5, .int (nI (8 * j + j2))), (1, .int (nI j)), (3, .int (ry_ab (ry_k3 (ry_k2e ym w n nb z t) w nb z j) w j nb)), (2, .int (nI j)), (0, .ref (bd_ea E 18 w 0))]) hx hb dX6_contest_240 hl (by decide) rfl (fun ls hl => ?_)
                                        refine lv_iinc (v := nI ((8 * j + j2) + 1)) (lv' := [(5, .int (nI ((8 * j + j2) + 1))), (4, .int ((ry_ow (ry_q2 (ry_q1 (ry_k3 (ry_k2e ym w n nb z t) w nb z j) w nb j) w j (ry_ab (ry_k3 (ry_k2e ym w n nb z t) w nb z j) w j nb)) w j j2) + 0)), (1, .int (nI j)), (3, .int (ry_ab (ry_k3 (ry_k2e ym w n nb z t) w nb z j) w j nb)), (2, .int (nI j)), (0, .ref (bd_ea E 18 w 0))]) hx hb dX6_contest_242 hl (k := 1) rfl (nI_1 (8 * j + j2)) (by decide) rfl (fun ls hl => ?_)
                                        refine lv_goto (tgt := 185) hx hb dX6_contest_245 (by decide) ?_
                                        exact ih11 (j2 + 1) (by omega) (by omega) _ _ (hR.eq rfl rfl) hS _ (by rw [show (nI (8 * j + (j2 + 1)) : Int32) = nI ((8 * j + j2) + 1) from (by first | (simp (config := { decide := true }) only [ry_ow, eq_true c10, eq_true nc10, eq_true c36, eq_true nc36, eq_false c75, eq_false nc75, eq_true c92, eq_true nc92, eq_true c137, eq_false c157, eq_false c162, eq_false c201, eq_false nc201, eq_true c214, ↓reduceIte, not_true_eq_false, not_false_eq_true, and_self, and_true, true_and, and_false, false_and]; done) | rfl)]; rw [show (ry_ow (ry_q2 (ry_q1 (ry_k3 (ry_k2e ym w n nb z t) w nb z j) w nb j) w j (ry_ab (ry_k3 (ry_k2e ym w n nb z t) w nb z j) w j nb)) w j (j2 + 1) : Int32) = (ry_ow (ry_q2 (ry_q1 (ry_k3 (ry_k2e ym w n nb z t) w nb z j) w nb j) w j (ry_ab (ry_k3 (ry_k2e ym w n nb z t) w nb z j) w j nb)) w j j2) + 0 from (by first | (simp (config := { decide := true }) only [ry_ow, eq_true c10, eq_true nc10, eq_true c36, eq_true nc36, eq_false c75, eq_false nc75, eq_true c92, eq_true nc92, eq_true c137, eq_false c157, eq_false c162, eq_false c201, eq_false nc201, eq_true c214, ↓reduceIte, not_true_eq_false, not_false_eq_true, and_self, and_true, true_and, and_false, false_and]; done) | rfl)]; exact lv_sub hl [0, 1, 2, 3, 4, 5] rfl)
                                      · skip
                                        refine lv_aload_n hx hb dX6_contest_217 rfl (lv_at hl 5 rfl) ?_
                                        refine bd_g_X6_who C hR (by omega) qf_X6_31 dX6_contest_218 ?_
                                        refine lv_iload hx hb dX6_contest_221 (lv_at hl 0 rfl) ?_
                                        refine bd_ld_24 C hR (by omega) (j := (8 * j + j2)) (by omega) dX6_contest_223 ?_
                                        refine lv_aload_n hx hb dX6_contest_224 rfl (lv_at hl 5 rfl) ?_
                                        refine bd_g_X6_member C hR (by omega) qf_X6_28 dX6_contest_225 ?_
                                        refine lv_iload hx hb dX6_contest_228 (lv_at hl 0 rfl) ?_
                                        refine bd_ld_23 C hR (by omega) (j := (8 * j + j2)) (by omega) dX6_contest_230 ?_
                                        refine lv_icmp_ne (tgt := 238) hx hb dX6_contest_231 (by decide) (fun c231 => ?_) (fun c231 => ?_)
                                        · skip
                                          refine lv_iconst (v := 0) hx hb dX6_contest_238 (by decide) ?_
                                          refine lv_iadd hx hb dX6_contest_239 ?_
                                          refine lv_istore (lv' := [(4, .int ((ry_ow (ry_q2 (ry_q1 (ry_k3 (ry_k2e ym w n nb z t) w nb z j) w nb j) w j (ry_ab (ry_k3 (ry_k2e ym w n nb z t) w nb z j) w j nb)) w j j2) + 0)), (5, .int (nI (8 * j + j2))), (1, .int (nI j)), (3, .int (ry_ab (ry_k3 (ry_k2e ym w n nb z t) w nb z j) w j nb)), (2, .int (nI j)), (0, .ref (bd_ea E 18 w 0))]) hx hb dX6_contest_240 hl (by decide) rfl (fun ls hl => ?_)
                                          refine lv_iinc (v := nI ((8 * j + j2) + 1)) (lv' := [(5, .int (nI ((8 * j + j2) + 1))), (4, .int ((ry_ow (ry_q2 (ry_q1 (ry_k3 (ry_k2e ym w n nb z t) w nb z j) w nb j) w j (ry_ab (ry_k3 (ry_k2e ym w n nb z t) w nb z j) w j nb)) w j j2) + 0)), (1, .int (nI j)), (3, .int (ry_ab (ry_k3 (ry_k2e ym w n nb z t) w nb z j) w j nb)), (2, .int (nI j)), (0, .ref (bd_ea E 18 w 0))]) hx hb dX6_contest_242 hl (k := 1) rfl (nI_1 (8 * j + j2)) (by decide) rfl (fun ls hl => ?_)
                                          refine lv_goto (tgt := 185) hx hb dX6_contest_245 (by decide) ?_
                                          exact ih11 (j2 + 1) (by omega) (by omega) _ _ (hR.eq rfl rfl) hS _ (by rw [show (nI (8 * j + (j2 + 1)) : Int32) = nI ((8 * j + j2) + 1) from (by first | (simp (config := { decide := true }) only [ry_ow, eq_true c10, eq_true nc10, eq_true c36, eq_true nc36, eq_false c75, eq_false nc75, eq_true c92, eq_true nc92, eq_true c137, eq_false c157, eq_false c162, eq_false c201, eq_false nc201, eq_false c214, eq_false c231, ↓reduceIte, not_true_eq_false, not_false_eq_true, and_self, and_true, true_and, and_false, false_and]; done) | rfl)]; rw [show (ry_ow (ry_q2 (ry_q1 (ry_k3 (ry_k2e ym w n nb z t) w nb z j) w nb j) w j (ry_ab (ry_k3 (ry_k2e ym w n nb z t) w nb z j) w j nb)) w j (j2 + 1) : Int32) = (ry_ow (ry_q2 (ry_q1 (ry_k3 (ry_k2e ym w n nb z t) w nb z j) w nb j) w j (ry_ab (ry_k3 (ry_k2e ym w n nb z t) w nb z j) w j nb)) w j j2) + 0 from (by first | (simp (config := { decide := true }) only [ry_ow, eq_true c10, eq_true nc10, eq_true c36, eq_true nc36, eq_false c75, eq_false nc75, eq_true c92, eq_true nc92, eq_true c137, eq_false c157, eq_false c162, eq_false c201, eq_false nc201, eq_false c214, eq_false c231, ↓reduceIte, not_true_eq_false, not_false_eq_true, and_self, and_true, true_and, and_false, false_and]; done) | rfl)]; exact lv_sub hl [0, 1, 2, 3, 4, 5] rfl)
                                        · skip
                                          refine lv_iconst (v := 1) hx hb dX6_contest_234 (by decide) ?_
                                          refine lv_goto (tgt := 239) hx hb dX6_contest_235 (by decide) ?_
                                          refine lv_iadd hx hb dX6_contest_239 ?_
                                          refine lv_istore (lv' := [(4, .int ((ry_ow (ry_q2 (ry_q1 (ry_k3 (ry_k2e ym w n nb z t) w nb z j) w nb j) w j (ry_ab (ry_k3 (ry_k2e ym w n nb z t) w nb z j) w j nb)) w j j2) + 1)), (5, .int (nI (8 * j + j2))), (1, .int (nI j)), (3, .int (ry_ab (ry_k3 (ry_k2e ym w n nb z t) w nb z j) w j nb)), (2, .int (nI j)), (0, .ref (bd_ea E 18 w 0))]) hx hb dX6_contest_240 hl (by decide) rfl (fun ls hl => ?_)
                                          refine lv_iinc (v := nI ((8 * j + j2) + 1)) (lv' := [(5, .int (nI ((8 * j + j2) + 1))), (4, .int ((ry_ow (ry_q2 (ry_q1 (ry_k3 (ry_k2e ym w n nb z t) w nb z j) w nb j) w j (ry_ab (ry_k3 (ry_k2e ym w n nb z t) w nb z j) w j nb)) w j j2) + 1)), (1, .int (nI j)), (3, .int (ry_ab (ry_k3 (ry_k2e ym w n nb z t) w nb z j) w j nb)), (2, .int (nI j)), (0, .ref (bd_ea E 18 w 0))]) hx hb dX6_contest_242 hl (k := 1) rfl (nI_1 (8 * j + j2)) (by decide) rfl (fun ls hl => ?_)
                                          refine lv_goto (tgt := 185) hx hb dX6_contest_245 (by decide) ?_
                                          exact ih11 (j2 + 1) (by omega) (by omega) _ _ (hR.eq rfl rfl) hS _ (by rw [show (nI (8 * j + (j2 + 1)) : Int32) = nI ((8 * j + j2) + 1) from (by first | (simp (config := { decide := true }) only [ry_ow, eq_true c10, eq_true nc10, eq_true c36, eq_true nc36, eq_false c75, eq_false nc75, eq_true c92, eq_true nc92, eq_true c137, eq_false c157, eq_false c162, eq_false c201, eq_false nc201, eq_false c214, eq_true c231, ↓reduceIte, not_true_eq_false, not_false_eq_true, and_self, and_true, true_and, and_false, false_and]; done) | rfl)]; rw [show (ry_ow (ry_q2 (ry_q1 (ry_k3 (ry_k2e ym w n nb z t) w nb z j) w nb j) w j (ry_ab (ry_k3 (ry_k2e ym w n nb z t) w nb z j) w j nb)) w j (j2 + 1) : Int32) = (ry_ow (ry_q2 (ry_q1 (ry_k3 (ry_k2e ym w n nb z t) w nb z j) w nb j) w j (ry_ab (ry_k3 (ry_k2e ym w n nb z t) w nb z j) w j nb)) w j j2) + 1 from (by first | (simp (config := { decide := true }) only [ry_ow, eq_true c10, eq_true nc10, eq_true c36, eq_true nc36, eq_false c75, eq_false nc75, eq_true c92, eq_true nc92, eq_true c137, eq_false c157, eq_false c162, eq_false c201, eq_false nc201, eq_false c214, eq_true c231, ↓reduceIte, not_true_eq_false, not_false_eq_true, and_self, and_true, true_and, and_false, false_and]; done) | rfl)]; exact lv_sub hl [0, 1, 2, 3, 4, 5] rfl)
                                exact lp11 ((z j) + 1) 0 (by omega) (by omega) _ _ (hR.eq rfl rfl) hS _ (by rw [show (nI (8 * j + 0) : Int32) = nI (8 * j) from by rfl]; rw [show (ry_ow (ry_q2 (ry_q1 (ry_k3 (ry_k2e ym w n nb z t) w nb z j) w nb j) w j (ry_ab (ry_k3 (ry_k2e ym w n nb z t) w nb z j) w j nb)) w j 0 : Int32) = 0 from by rfl]; exact lv_sub hl [0, 1, 2, 3, 4, 5] rfl)
                        · skip
                          have nc92 : ¬ nb ≤ j2 := fun q9 => c92 ((nI_leI (a := nb) (b := j2) (by omega) (by omega)).mpr q9)
                          refine lv_iload_n hx hb dX6_contest_95 rfl (lv_at hl 1 rfl) ?_
                          refine lv_iload hx hb dX6_contest_96 (lv_at hl 0 rfl) ?_
                          refine lv_iload_n hx hb dX6_contest_98 rfl (lv_at hl 2 rfl) ?_
                          refine lv_icmp_eq (tgt := 116) hx hb dX6_contest_99 (by decide) (fun c99 => ?_) (fun c99 => ?_)
                          · skip
                            have nc99 : j2 = j := (nI_eq (a := j2) (b := j) (by omega) (by omega)).mp c99
                            refine lv_iconst (v := 0) hx hb dX6_contest_116 (by decide) ?_
                            refine lv_iadd hx hb dX6_contest_117 ?_
                            refine lv_istore_n (lv' := [(3, .int ((ry_ab (ry_k3 (ry_k2e ym w n nb z t) w nb z j) w j j2) + 0)), (4, .int (nI j2)), (2, .int (nI j)), (1, .int (ry_kw (ry_k2e ym w n nb z t) w nb z j)), (0, .ref (bd_ea E 18 w 0))]) hx hb dX6_contest_118 rfl hl (by decide) rfl (fun ls hl => ?_)
                            refine lv_iinc (v := nI (j2 + 1)) (lv' := [(4, .int (nI (j2 + 1))), (3, .int ((ry_ab (ry_k3 (ry_k2e ym w n nb z t) w nb z j) w j j2) + 0)), (2, .int (nI j)), (1, .int (ry_kw (ry_k2e ym w n nb z t) w nb z j)), (0, .ref (bd_ea E 18 w 0))]) hx hb dX6_contest_119 hl (k := 1) rfl (nI_1 j2) (by decide) rfl (fun ls hl => ?_)
                            refine lv_goto (tgt := 83) hx hb dX6_contest_122 (by decide) ?_
                            exact ih5 (j2 + 1) (by omega) (by omega) _ _ (hR.eq rfl rfl) hS _ (by rw [show (ry_ab (ry_k3 (ry_k2e ym w n nb z t) w nb z j) w j (j2 + 1) : Int32) = (ry_ab (ry_k3 (ry_k2e ym w n nb z t) w nb z j) w j j2) + 0 from (by first | (simp (config := { decide := true }) only [ry_ab, eq_true c10, eq_true nc10, eq_true c36, eq_true nc36, eq_false c75, eq_false nc75, eq_false c92, eq_false nc92, eq_true c99, eq_true nc99, ↓reduceIte, not_true_eq_false, not_false_eq_true, and_self, and_true, true_and, and_false, false_and]; done) | rfl)]; exact lv_sub hl [0, 1, 2, 3, 4] rfl)
                          · skip
                            have nc99 : ¬ j2 = j := fun q9 => c99 ((nI_eq (a := j2) (b := j) (by omega) (by omega)).mpr q9)
                            refine lv_aload_n hx hb dX6_contest_102 rfl (lv_at hl 4 rfl) ?_
                            refine lv_iload hx hb dX6_contest_103 (lv_at hl 0 rfl) ?_
                            refine lv_iload_n hx hb dX6_contest_105 rfl (lv_at hl 2 rfl) ?_
                            refine bd_cV1 [.int (nI j2), .int (nI j)] [.int (ry_ab (ry_k3 (ry_k2e ym w n nb z t) w nb z j) w j j2)] C (k_X6_isAhead l E xm (ry_k3 (ry_k2e ym w n nb z t) w nb z j) om w n nb z j2 j (by omega) (ry_k3_sh (ry_k2_sh (ry_k1_sh hyO n) nb) j) (by omega) (by omega)) hR hS (bd_recv C.2 hR ⟨by decide, show w < 2 by omega, (by decide)⟩ rfl rfl) qm_X6_110 qi_X6_isAhead qs_X6_isAhead qz_X6 qc_X6_isAhead qp_X6_isAhead ⟨Nat.le_of_ble_eq_true rfl, Nat.le_of_ble_eq_true rfl⟩ hl.1 (Nat.le_of_ble_eq_true rfl) dX6_contest_106 ⟨by show nb + 0 ≤ 6; omega, by show 4 * nb + 0 ≤ 24; omega⟩ (fun H locs hR hS hz106 => ?_)
                            refine bd_ifeq (P := ry_ia (ry_k3 (ry_k2e ym w n nb z t) w nb z j) w j2 j) (tgt := 116) C dX6_contest_109 (by decide) (fun c109 => ?_) (fun c109 => ?_)
                            · skip
                              refine lv_iconst (v := 0) hx hb dX6_contest_116 (by decide) ?_
                              refine lv_iadd hx hb dX6_contest_117 ?_
                              refine lv_istore_n (lv' := [(3, .int ((ry_ab (ry_k3 (ry_k2e ym w n nb z t) w nb z j) w j j2) + 0)), (4, .int (nI j2)), (2, .int (nI j)), (1, .int (ry_kw (ry_k2e ym w n nb z t) w nb z j)), (0, .ref (bd_ea E 18 w 0))]) hx hb dX6_contest_118 rfl hl (by decide) rfl (fun ls hl => ?_)
                              refine lv_iinc (v := nI (j2 + 1)) (lv' := [(4, .int (nI (j2 + 1))), (3, .int ((ry_ab (ry_k3 (ry_k2e ym w n nb z t) w nb z j) w j j2) + 0)), (2, .int (nI j)), (1, .int (ry_kw (ry_k2e ym w n nb z t) w nb z j)), (0, .ref (bd_ea E 18 w 0))]) hx hb dX6_contest_119 hl (k := 1) rfl (nI_1 j2) (by decide) rfl (fun ls hl => ?_)
                              refine lv_goto (tgt := 83) hx hb dX6_contest_122 (by decide) ?_
                              exact ih5 (j2 + 1) (by omega) (by omega) _ _ (hR.eq rfl rfl) hS _ (by rw [show (ry_ab (ry_k3 (ry_k2e ym w n nb z t) w nb z j) w j (j2 + 1) : Int32) = (ry_ab (ry_k3 (ry_k2e ym w n nb z t) w nb z j) w j j2) + 0 from (by first | (simp (config := { decide := true }) only [ry_ab, eq_true c10, eq_true nc10, eq_true c36, eq_true nc36, eq_false c75, eq_false nc75, eq_false c92, eq_false nc92, eq_false c99, eq_false nc99, eq_false c109, ↓reduceIte, not_true_eq_false, not_false_eq_true, and_self, and_true, true_and, and_false, false_and]; done) | rfl)]; exact lv_sub hl [0, 1, 2, 3, 4] rfl)
                            · skip
                              refine lv_iconst (v := 1) hx hb dX6_contest_112 (by decide) ?_
                              refine lv_goto (tgt := 117) hx hb dX6_contest_113 (by decide) ?_
                              refine lv_iadd hx hb dX6_contest_117 ?_
                              refine lv_istore_n (lv' := [(3, .int ((ry_ab (ry_k3 (ry_k2e ym w n nb z t) w nb z j) w j j2) + 1)), (4, .int (nI j2)), (2, .int (nI j)), (1, .int (ry_kw (ry_k2e ym w n nb z t) w nb z j)), (0, .ref (bd_ea E 18 w 0))]) hx hb dX6_contest_118 rfl hl (by decide) rfl (fun ls hl => ?_)
                              refine lv_iinc (v := nI (j2 + 1)) (lv' := [(4, .int (nI (j2 + 1))), (3, .int ((ry_ab (ry_k3 (ry_k2e ym w n nb z t) w nb z j) w j j2) + 1)), (2, .int (nI j)), (1, .int (ry_kw (ry_k2e ym w n nb z t) w nb z j)), (0, .ref (bd_ea E 18 w 0))]) hx hb dX6_contest_119 hl (k := 1) rfl (nI_1 j2) (by decide) rfl (fun ls hl => ?_)
                              refine lv_goto (tgt := 83) hx hb dX6_contest_122 (by decide) ?_
                              exact ih5 (j2 + 1) (by omega) (by omega) _ _ (hR.eq rfl rfl) hS _ (by rw [show (ry_ab (ry_k3 (ry_k2e ym w n nb z t) w nb z j) w j (j2 + 1) : Int32) = (ry_ab (ry_k3 (ry_k2e ym w n nb z t) w nb z j) w j j2) + 1 from (by first | (simp (config := { decide := true }) only [ry_ab, eq_true c10, eq_true nc10, eq_true c36, eq_true nc36, eq_false c75, eq_false nc75, eq_false c92, eq_false nc92, eq_false c99, eq_false nc99, eq_true c109, ↓reduceIte, not_true_eq_false, not_false_eq_true, and_self, and_true, true_and, and_false, false_and]; done) | rfl)]; exact lv_sub hl [0, 1, 2, 3, 4] rfl)
                    exact lp5 (nb + 1) 0 (by omega) (by omega) _ _ (hR.eq rfl rfl) hS _ (by rw [show (nI 0 : Int32) = 0 from by rfl]; rw [show (ry_ab (ry_k3 (ry_k2e ym w n nb z t) w nb z j) w j 0 : Int32) = 0 from by rfl]; exact lv_sub hl [0, 1, 2, 3, 4] rfl)
              exact lp3 (nb + 1) 0 (by omega) (by omega) _ _ (hR.eq rfl rfl) hS _ (by first | exact lv_sub hl [0, 1, 2] rfl | (rw [show (nI 0 : Int32) = 0 from by first | rfl | decide | simp [nI_0]]; rw [show (ry_kw (ry_k2e ym w n nb z t) w nb z 0 : Int32) = (-1) from by first | rfl | decide | simp [nI_0]]; exact lv_sub hl [0, 1, 2] rfl))
            · skip
              have nc36 : ¬ nb ≤ j := fun q9 => c36 ((nI_leI (a := nb) (b := j) (by omega) (by omega)).mpr q9)
              refine lv_aload_n hx hb dX6_contest_39 rfl (lv_at hl 1 rfl) ?_
              refine lv_aload_n hx hb dX6_contest_40 rfl (lv_at hl 1 rfl) ?_
              refine bd_g_X6_contests C hR (by omega) qf_X6_55 dX6_contest_41 ?_
              rw [show ((ry_k2 (ry_k1 ym w n) w n nb z t j) 10 w 0 : Int32) = nI t from by rw [ry_k2_f (by decide), ry_k1_f (by decide)]; exact ht]
              refine lv_iload_n hx hb dX6_contest_44 rfl (lv_at hl 0 rfl) ?_
              refine lv_iadd hx hb dX6_contest_45 ?_
              refine bd_ti (j := t + j) (nI_add t j) ?_
              refine lv_aload_n hx hb dX6_contest_46 rfl (lv_at hl 1 rfl) ?_
              refine bd_g_X6_this_0 C hR (by omega) qf_X6_3 dX6_contest_47 ?_
              refine bd_gN_X7_bands C hR  (List.mem_of_getElem? (i := 13) rfl) dX6_contest_50 ?_
              rw [show (ry_k2 (ry_k1 ym w n) w n nb z t j) 2 0 0 = nI nb from (show ry_Sh (ry_k2 (ry_k1 ym w n) w n nb z t j) n nb z from (ry_k2_sh (ry_k1_sh hyO n) j)).2.2.1]
              refine lv_irem hx hb dX6_contest_53 (nI_ne0 hnb (by omega)) ?_
              refine bd_ti (j := (t + j) % nb) (pk_rem (a := (t + j)) (d := nb) (by omega) (by omega) (by omega)) ?_
              have hmd := Nat.mod_lt (t + j) hnb
              refine bd_cV0 [.int (nI ((t + j) % nb))] [] C (k_X6_play l E xm (ry_k2 (ry_k1 ym w n) w n nb z t j) om w n nb z ((t + j) % nb) (by omega) (ry_k2_sh (ry_k1_sh hyO n) j) (Nat.mod_lt _ hnb) (ry_Mb_of hm (fun q9 => by rw [ry_k2_f (by decide), ry_k1_f (by decide)]))) hR hS (bd_recv C.2 hR ⟨by decide, show w < 2 by omega, (by decide)⟩ rfl rfl) qm_X6_106 qi_X6_play qs_X6_play qz_X6 qc_X6_play qp_X6_play ⟨Nat.le_of_ble_eq_true rfl, Nat.le_of_ble_eq_true rfl⟩ hl.1 (Nat.le_of_ble_eq_true rfl) dX6_contest_54 ⟨by show j + 1 ≤ 6; omega, by show 4 * j + 4 ≤ 24; omega⟩ (fun H locs hR hS hz54 => ?_)
              refine lv_iinc (v := nI (j + 1)) (lv' := [(1, .int (nI (j + 1))), (0, .ref (bd_ea E 18 w 0))]) hx hb dX6_contest_57 hl (k := 0) rfl (nI_1 j) (by decide) rfl (fun ls hl => ?_)
              refine lv_goto (tgt := 28) hx hb dX6_contest_60 (by decide) ?_
              exact ih2 (j + 1) (by omega) (by omega) _ _ (hR.eq rfl (by first | (simp (config := { decide := true }) only [ry_k2, eq_true c10, eq_true nc10, eq_false c36, eq_false nc36, ↓reduceIte, not_true_eq_false, not_false_eq_true, and_self, and_true, true_and, and_false, false_and]; done) | rfl)) hS _ (lv_sub hl [0, 1] rfl)
        exact lp2 (nb + 1) 0 (by omega) (by omega) _ _ (hR.eq rfl rfl) hS _ (by first | exact lv_sub hl [0, 1] rfl | (rw [show (nI 0 : Int32) = 0 from by first | rfl | decide | simp [nI_0]]; exact lv_sub hl [0, 1] rfl))
      · skip
        have nc10 : ¬ n ≤ j := fun q9 => c10 ((nI_leI (a := n) (b := j) (by omega) (by omega)).mpr q9)
        refine lv_aload_n hx hb dX6_contest_13 rfl (lv_at hl 1 rfl) ?_
        refine bd_g_X6_times C hR (by omega) qf_X6_46 dX6_contest_14 ?_
        refine lv_iload_n hx hb dX6_contest_17 rfl (lv_at hl 0 rfl) ?_
        refine lv_iconst (v := 0) hx hb dX6_contest_18 (by decide) ?_
        refine bd_st_29 C hR hS (by omega) (j := j) (by omega) dX6_contest_19 (fun H locs hR hS => ?_)
        refine lv_iinc (v := nI (j + 1)) (lv' := [(1, .int (nI (j + 1))), (0, .ref (bd_ea E 18 w 0))]) hx hb dX6_contest_20 hl (k := 0) rfl (nI_1 j) (by decide) rfl (fun ls hl => ?_)
        refine lv_goto (tgt := 2) hx hb dX6_contest_23 (by decide) ?_
        exact ih1 (j + 1) (by omega) (by omega) _ _ (hR.eq rfl (by first | (simp (config := { decide := true }) only [ry_k1, eq_false c10, eq_false nc10, ↓reduceIte, not_true_eq_false, not_false_eq_true, and_self, and_true, true_and, and_false, false_and]; done) | rfl)) hS _ (lv_sub hl [0, 1] rfl)
  exact lp1 (n + 1) 0 (by omega) (by omega) _ _ (hR.eq rfl rfl) hS _ (by first | exact lv_sub hl [0, 1] rfl | (rw [show (nI 0 : Int32) = 0 from by first | rfl | decide | simp [nI_0]]; exact lv_sub hl [0, 1] rfl))
