/-! THE MEMORIES AT FIRST -/
def kx_0 : bd_M := fun f _ _ => if f = 2 ∨ f = 3 ∨ f = 11 ∨ f = 12 ∨ f = 22 ∨ f = 23 ∨ f = 24 ∨ f = 25 then (-1) else if f = 35 then 3 else if f = 36 then 1 else 0
def ry_0 : bd_M := fun f _ _ => if f = 16 then 3 else if f = 17 then 1 else 0
theorem kx_0_sk {j w k : Nat} : kx_0 (j + 1000) w k = 0 := by
  unfold kx_0
  rw [if_neg (by omega), if_neg (by omega), if_neg (by omega)]
def cw_E (E : bd_E) (a : Nat → Nat → Nat → Nat) : bd_E := (E.1, E.2.1, E.2.2.1, a, E.2.2.2.2)
def cw_c0 (E : bd_E) (a : Nat → Nat → Nat → Nat) : Nat → Nat → Nat → va_E := bd_ce (cw_E E a) kx_0 ry_0 (fun _ => 0)
theorem cw_c8 {E : bd_E} {a : Nat → Nat → Nat → Nat} {w k : Nat} : cw_c0 E a 8 w k = bd_iA E 4 (fun _ => 0) := by
  show bd_iA E 4 (fun j => kx_0 (j + 1000) w k) = _
  rw [show (fun j => kx_0 (j + 1000) w k) = (fun _ => (0 : Int32)) from funext fun j => kx_0_sk]
set_option maxHeartbeats 4000000 in
theorem k_X1_init (l : Launch) (E : bd_E) (P : Nat → Nat → Nat → Bool) (ad : Nat → Nat → Nat → Nat) (ce : Nat → Nat → Nat → va_E) (w k b : Nat) (ha : ad 11 w k = b) (hp : P 11 w k = true) (he : ce 11 w k = .inr (1, [.int 0, .int 0, .int 0])) :
    cw_Ct l yX1_init cX1_init 1 1 24 0 0 E [.ref b] P ad ce P (fun a => cw_up ce 11 w k (cw_c0 E a 11 w k)) := by
  refine cw_open RX1 rfl rfl (by decide) (Nat.le_of_ble_eq_true rfl) ?_
  intro p e s m args below meth c ls C hao h0 hin hr hlk hS hW hl
  have hx := C.1.1
  have hb := C.1.2.1
  have hl : lv_has ls 1 [(0, .ref b)] := hl
  refine lv_aload_n hx hb dX1_init_0 rfl (lv_at hl 0 rfl) ?_
  refine cw_obj C hl.1 qm_X1_3 (Nat.le_of_ble_eq_true rfl) (Nat.le_of_ble_eq_true rfl) dX1_init_1 ?_
  refine lv_aload_n hx hb dX1_init_4 rfl (lv_at hl 0 rfl) ?_
  refine lv_iconst (v := (-1)) hx hb dX1_init_5 (by decide) ?_
  refine cw_put C hW hS ha hp he inlX1 tyX1 tyX1_ok nmX1 rfl 1 (by decide) qf_X1_9 (fun _ h => h) rfl rfl rfl (Nat.le_of_ble_eq_true rfl) dX1_init_6 (fun H locs hW hS => ?_)
  refine lv_aload_n hx hb dX1_init_9 rfl (lv_at hl 0 rfl) ?_
  refine lv_iconst (v := (-1)) hx hb dX1_init_10 (by decide) ?_
  refine cw_put C hW hS ha hp cw_up_s inlX1 tyX1 tyX1_ok nmX1 rfl 2 (by decide) qf_X1_15 (fun _ h => h) rfl rfl rfl (Nat.le_of_ble_eq_true rfl) dX1_init_11 (fun H locs hW hS => ?_)
  refine cw_rv C hr hlk (fun _ _ _ _ => rfl) (hW.eq (fun f w' k' _ => ?_)) hS (Nat.zero_le _) (Nat.zero_le _) dX1_init_14
  by_cases h : f = 11 ∧ w' = w ∧ k' = k
  · obtain ⟨rfl, rfl, rfl⟩ := h
    rw [cw_up_s, cw_up_s]
    rfl
  · rw [cw_up_n h, cw_up_n h, cw_up_n h]
set_option maxHeartbeats 4000000 in
theorem k_X3_init (l : Launch) (E : bd_E) (P : Nat → Nat → Nat → Bool) (ad : Nat → Nat → Nat → Nat) (ce : Nat → Nat → Nat → va_E) (w k b : Nat) (ha : ad 7 w k = b) (hp : P 7 w k = true) (he : ce 7 w k = .inr (3, [.null, .int 0, .int 0, .int 0, .int 0, .int 0, .int 0, .int 0, .int 0])) (hn : ¬ P 8 w k = true) (hd : bd_dm 8 w k) :
    cw_Ct l yX3_init cX3_init 1 1 24 1 4 E [.ref b] P ad ce (cw_in P 8 w k) (fun a => cw_up (cw_up ce 8 w k (cw_c0 E a 8 w k)) 7 w k (cw_c0 E a 7 w k)) := by
  refine cw_open RX3 rfl rfl (by decide) (Nat.le_of_ble_eq_true rfl) ?_
  intro p e s m args below meth c ls C hao h0 hin hr hlk hS hW hl
  have hx := C.1.1
  have hb := C.1.2.1
  have hl : lv_has ls 1 [(0, .ref b)] := hl
  refine lv_aload_n hx hb dX3_init_0 rfl (lv_at hl 0 rfl) ?_
  refine cw_obj C hl.1 qm_X3_3 (Nat.le_of_ble_eq_true rfl) (Nat.le_of_ble_eq_true rfl) dX3_init_1 ?_
  refine lv_aload_n hx hb dX3_init_4 rfl (lv_at hl 0 rfl) ?_
  refine lv_iconst (v := 4) hx hb dX3_init_5 (by decide) ?_
  refine cw_newi (n := 4) (f := 8) (w := w) (q := k) C hW hS h0 hn hd (by decide) ⟨Nat.le_of_ble_eq_true rfl, Nat.le_of_ble_eq_true rfl⟩ dX3_init_6 (fun a8 H hW hS => ?_)
  have n78 : ¬ ((7 : Nat) = 8 ∧ w = w ∧ k = k) := fun h => absurd h.1 (by decide)
  have ha1 : cw_ua ad 8 w k a8 7 w k = b := (cw_ua_n n78).trans ha
  have hp1 : cw_in P 8 w k 7 w k = true := cw_in_o hp
  refine cw_putF C hW hS ha1 hp1 ((cw_up_n n78).trans he) inlX3 tyX3 tyX3_ok nmX3 rfl 0 (by decide) qf_X3_9 (fun _ h => h) rfl hin rfl rfl rfl (Nat.le_of_ble_eq_true rfl) dX3_init_8 (fun H locs hW hS => ?_)
  refine lv_aload_n hx hb dX3_init_11 rfl (lv_at hl 0 rfl) ?_
  refine lv_iconst (v := (-1)) hx hb dX3_init_12 (by decide) ?_
  refine cw_put C hW hS ha1 hp1 cw_up_s inlX3 tyX3 tyX3_ok nmX3 rfl 3 (by decide) qf_X3_15 (fun _ h => h) rfl rfl rfl (Nat.le_of_ble_eq_true rfl) dX3_init_13 (fun H locs hW hS => ?_)
  refine lv_aload_n hx hb dX3_init_16 rfl (lv_at hl 0 rfl) ?_
  refine lv_iconst (v := (-1)) hx hb dX3_init_17 (by decide) ?_
  refine cw_put C hW hS ha1 hp1 cw_up_s inlX3 tyX3 tyX3_ok nmX3 rfl 4 (by decide) qf_X3_19 (fun _ h => h) rfl rfl rfl (Nat.le_of_ble_eq_true rfl) dX3_init_18 (fun H locs hW hS => ?_)
  refine cw_rv (P0 := P) (ad0 := ad) C hr hlk (fun f w' k' hq => cw_ua_n (fun h => by obtain ⟨rfl, rfl, rfl⟩ := h; exact hn hq)) (hW.eq (fun f w' k' _ => ?_)) hS (Nat.le_of_ble_eq_true rfl) (Nat.le_of_ble_eq_true rfl) dX3_init_21
  by_cases h : f = 7 ∧ w' = w ∧ k' = k
  · obtain ⟨rfl, rfl, rfl⟩ := h
    rw [cw_up_s, cw_up_s]
    show _ = (Sum.inr (3, [.ref (cw_ua ad 8 w' k' a8 8 w' k'), .int 0, .int 0, .int (-1), .int (-1), .int 0, .int 0, .int 0, .int 0]) : va_E)
    rw [cw_ua_s]
    rfl
  · rw [cw_up_n h, cw_up_n h, cw_up_n h, cw_up_n h, cw_c8]
