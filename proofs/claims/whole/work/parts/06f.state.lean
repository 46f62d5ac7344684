/-! A STATE OF THE REFERENCE IS MADE (rows laid by wip/whole/tools/ctor6.py) -/
def cw_P6 (P : Nat → Nat → Nat → Bool) (w : Nat) : Nat → Nat → Nat → Bool := cw_in (cw_in (cw_in (cw_in (cw_in (cw_in (cw_in (cw_in (cw_in (cw_in (cw_in P 19 w 0) 20 w 0) 21 w 0) 22 w 0) 23 w 0) 24 w 0) 25 w 0) 26 w 0) 27 w 0) 28 w 0) 29 w 0
def cw_F6 (E : bd_E) (ce : Nat → Nat → Nat → va_E) (w : Nat) (a : Nat → Nat → Nat → Nat) : Nat → Nat → Nat → va_E := fun f' w' k' => if 18 ≤ f' ∧ f' ≤ 29 ∧ w' = w ∧ k' = 0 then cw_c0 E a f' w' k' else ce f' w' k'
set_option maxHeartbeats 4000000 in
set_option maxRecDepth 100000 in
theorem k_X6_init (l : Launch) (E : bd_E) (P : Nat → Nat → Nat → Bool) (ad : Nat → Nat → Nat → Nat) (ce : Nat → Nat → Nat → va_E) (w b b1 : Nat) (hw : w < 2) (ha : ad 18 w 0 = b) (hp : P 18 w 0 = true) (ha12 : ad 12 0 0 = b1) (hp12 : P 12 0 0 = true) (he : ce 18 w 0 = .inr (6, [.int 0, .int 0, .int 0, .null, .null, .null, .null, .null, .null, .null, .null, .null, .null, .null, .null])) (hn : ∀ f, 19 ≤ f → f ≤ 29 → ¬ P f w 0 = true) :
    cw_Ct l yX6_init cX6_init 2 1 24 11 258 E [.ref b, .ref b1] P ad ce (cw_P6 P w) (cw_F6 E ce w) := by
  refine cw_open RX6 rfl rfl (by decide) (Nat.le_of_ble_eq_true rfl) ?_
  intro p e s m args below meth c ls C hao h0 hin hr hlk hS hW hl
  have hx := C.1.1
  have hb := C.1.2.1
  have hl : lv_has ls 2 [(0, .ref b), (1, .ref b1)] := hl
  refine lv_aload_n hx hb dX6_init_0 rfl (lv_at hl 0 rfl) ?_
  refine lv_aload_n hx hb dX6_init_1 rfl (lv_at hl 1 rfl) ?_
  refine cw_putF C hW hS ha hp he inlX6 tyX6 tyX6_ok nmX6 rfl 14 (by decide) qf_X6_3 (fun _ h => h) rfl hin rfl rfl rfl (Nat.le_of_ble_eq_true rfl) dX6_init_2 (fun H locs hW hS => ?_)
  refine lv_aload_n hx hb dX6_init_5 rfl (lv_at hl 0 rfl) ?_
  refine cw_obj C hl.1 qm_X6_9 (Nat.le_of_ble_eq_true rfl) (Nat.le_of_ble_eq_true rfl) dX6_init_6 ?_
  refine lv_aload_n hx hb dX6_init_9 rfl (lv_at hl 0 rfl) ?_
  refine lv_bipush (v := 24) hx hb dX6_init_10 (by decide) ?_
  refine cw_newi (n := 24) (f := 19) (w := w) (q := 0) C hW hS h0 (by simp [cw_in, hn 19 (by decide) (by decide)]) ⟨by decide, hw, by decide⟩ (by decide) ⟨Nat.le_of_ble_eq_true rfl, Nat.le_of_ble_eq_true rfl⟩ dX6_init_12 (fun a19 H hW hS => ?_)
  have ha19 : (cw_ua ad 19 w 0 a19) 18 w 0 = b := (cw_ua_n (fun q => absurd q.1 (by decide))).trans ha
  refine cw_putF C hW hS ha19 (by simp [cw_in, hp]) ((cw_up_n (fun q => absurd q.1 (by decide))).trans cw_up_s) inlX6 tyX6 tyX6_ok nmX6 rfl 3 (by decide) qf_X6_15 (fun _ h => h) rfl hin rfl rfl rfl (Nat.le_of_ble_eq_true rfl) dX6_init_14 (fun H locs hW hS => ?_)
  refine lv_aload_n hx hb dX6_init_17 rfl (lv_at hl 0 rfl) ?_
  refine lv_bipush (v := 24) hx hb dX6_init_18 (by decide) ?_
  refine cw_newi (n := 24) (f := 20) (w := w) (q := 0) C hW hS h0 (by simp [cw_in, hn 20 (by decide) (by decide)]) ⟨by decide, hw, by decide⟩ (by decide) ⟨Nat.le_of_ble_eq_true rfl, Nat.le_of_ble_eq_true rfl⟩ dX6_init_20 (fun a20 H hW hS => ?_)
  have ha20 : (cw_ua (cw_ua ad 19 w 0 a19) 20 w 0 a20) 18 w 0 = b := (cw_ua_n (fun q => absurd q.1 (by decide))).trans ha19
  refine cw_putF C hW hS ha20 (by simp [cw_in, hp]) ((cw_up_n (fun q => absurd q.1 (by decide))).trans cw_up_s) inlX6 tyX6 tyX6_ok nmX6 rfl 4 (by decide) qf_X6_19 (fun _ h => h) rfl hin rfl rfl rfl (Nat.le_of_ble_eq_true rfl) dX6_init_22 (fun H locs hW hS => ?_)
  refine lv_aload_n hx hb dX6_init_25 rfl (lv_at hl 0 rfl) ?_
  refine lv_bipush (v := 24) hx hb dX6_init_26 (by decide) ?_
  refine cw_newi (n := 24) (f := 21) (w := w) (q := 0) C hW hS h0 (by simp [cw_in, hn 21 (by decide) (by decide)]) ⟨by decide, hw, by decide⟩ (by decide) ⟨Nat.le_of_ble_eq_true rfl, Nat.le_of_ble_eq_true rfl⟩ dX6_init_28 (fun a21 H hW hS => ?_)
  have ha21 : (cw_ua (cw_ua (cw_ua ad 19 w 0 a19) 20 w 0 a20) 21 w 0 a21) 18 w 0 = b := (cw_ua_n (fun q => absurd q.1 (by decide))).trans ha20
  refine cw_putF C hW hS ha21 (by simp [cw_in, hp]) ((cw_up_n (fun q => absurd q.1 (by decide))).trans cw_up_s) inlX6 tyX6 tyX6_ok nmX6 rfl 5 (by decide) qf_X6_22 (fun _ h => h) rfl hin rfl rfl rfl (Nat.le_of_ble_eq_true rfl) dX6_init_30 (fun H locs hW hS => ?_)
  refine lv_aload_n hx hb dX6_init_33 rfl (lv_at hl 0 rfl) ?_
  refine lv_bipush (v := 24) hx hb dX6_init_34 (by decide) ?_
  refine cw_newi (n := 24) (f := 22) (w := w) (q := 0) C hW hS h0 (by simp [cw_in, hn 22 (by decide) (by decide)]) ⟨by decide, hw, by decide⟩ (by decide) ⟨Nat.le_of_ble_eq_true rfl, Nat.le_of_ble_eq_true rfl⟩ dX6_init_36 (fun a22 H hW hS => ?_)
  have ha22 : (cw_ua (cw_ua (cw_ua (cw_ua ad 19 w 0 a19) 20 w 0 a20) 21 w 0 a21) 22 w 0 a22) 18 w 0 = b := (cw_ua_n (fun q => absurd q.1 (by decide))).trans ha21
  refine cw_putF C hW hS ha22 (by simp [cw_in, hp]) ((cw_up_n (fun q => absurd q.1 (by decide))).trans cw_up_s) inlX6 tyX6 tyX6_ok nmX6 rfl 6 (by decide) qf_X6_25 (fun _ h => h) rfl hin rfl rfl rfl (Nat.le_of_ble_eq_true rfl) dX6_init_38 (fun H locs hW hS => ?_)
  refine lv_aload_n hx hb dX6_init_41 rfl (lv_at hl 0 rfl) ?_
  refine lv_bipush (v := 48) hx hb dX6_init_42 (by decide) ?_
  refine cw_newi (n := 48) (f := 23) (w := w) (q := 0) C hW hS h0 (by simp [cw_in, hn 23 (by decide) (by decide)]) ⟨by decide, hw, by decide⟩ (by decide) ⟨Nat.le_of_ble_eq_true rfl, Nat.le_of_ble_eq_true rfl⟩ dX6_init_44 (fun a23 H hW hS => ?_)
  have ha23 : (cw_ua (cw_ua (cw_ua (cw_ua (cw_ua ad 19 w 0 a19) 20 w 0 a20) 21 w 0 a21) 22 w 0 a22) 23 w 0 a23) 18 w 0 = b := (cw_ua_n (fun q => absurd q.1 (by decide))).trans ha22
  refine cw_putF C hW hS ha23 (by simp [cw_in, hp]) ((cw_up_n (fun q => absurd q.1 (by decide))).trans cw_up_s) inlX6 tyX6 tyX6_ok nmX6 rfl 7 (by decide) qf_X6_28 (fun _ h => h) rfl hin rfl rfl rfl (Nat.le_of_ble_eq_true rfl) dX6_init_46 (fun H locs hW hS => ?_)
  refine lv_aload_n hx hb dX6_init_49 rfl (lv_at hl 0 rfl) ?_
  refine lv_bipush (v := 48) hx hb dX6_init_50 (by decide) ?_
  refine cw_newi (n := 48) (f := 24) (w := w) (q := 0) C hW hS h0 (by simp [cw_in, hn 24 (by decide) (by decide)]) ⟨by decide, hw, by decide⟩ (by decide) ⟨Nat.le_of_ble_eq_true rfl, Nat.le_of_ble_eq_true rfl⟩ dX6_init_52 (fun a24 H hW hS => ?_)
  have ha24 : (cw_ua (cw_ua (cw_ua (cw_ua (cw_ua (cw_ua ad 19 w 0 a19) 20 w 0 a20) 21 w 0 a21) 22 w 0 a22) 23 w 0 a23) 24 w 0 a24) 18 w 0 = b := (cw_ua_n (fun q => absurd q.1 (by decide))).trans ha23
  refine cw_putF C hW hS ha24 (by simp [cw_in, hp]) ((cw_up_n (fun q => absurd q.1 (by decide))).trans cw_up_s) inlX6 tyX6 tyX6_ok nmX6 rfl 8 (by decide) qf_X6_31 (fun _ h => h) rfl hin rfl rfl rfl (Nat.le_of_ble_eq_true rfl) dX6_init_54 (fun H locs hW hS => ?_)
  refine lv_aload_n hx hb dX6_init_57 rfl (lv_at hl 0 rfl) ?_
  refine lv_bipush (v := 6) hx hb dX6_init_58 (by decide) ?_
  refine cw_newi (n := 6) (f := 25) (w := w) (q := 0) C hW hS h0 (by simp [cw_in, hn 25 (by decide) (by decide)]) ⟨by decide, hw, by decide⟩ (by decide) ⟨Nat.le_of_ble_eq_true rfl, Nat.le_of_ble_eq_true rfl⟩ dX6_init_60 (fun a25 H hW hS => ?_)
  have ha25 : (cw_ua (cw_ua (cw_ua (cw_ua (cw_ua (cw_ua (cw_ua ad 19 w 0 a19) 20 w 0 a20) 21 w 0 a21) 22 w 0 a22) 23 w 0 a23) 24 w 0 a24) 25 w 0 a25) 18 w 0 = b := (cw_ua_n (fun q => absurd q.1 (by decide))).trans ha24
  refine cw_putF C hW hS ha25 (by simp [cw_in, hp]) ((cw_up_n (fun q => absurd q.1 (by decide))).trans cw_up_s) inlX6 tyX6 tyX6_ok nmX6 rfl 9 (by decide) qf_X6_34 (fun _ h => h) rfl hin rfl rfl rfl (Nat.le_of_ble_eq_true rfl) dX6_init_62 (fun H locs hW hS => ?_)
  refine lv_aload_n hx hb dX6_init_65 rfl (lv_at hl 0 rfl) ?_
  refine lv_bipush (v := 6) hx hb dX6_init_66 (by decide) ?_
  refine cw_newi (n := 6) (f := 26) (w := w) (q := 0) C hW hS h0 (by simp [cw_in, hn 26 (by decide) (by decide)]) ⟨by decide, hw, by decide⟩ (by decide) ⟨Nat.le_of_ble_eq_true rfl, Nat.le_of_ble_eq_true rfl⟩ dX6_init_68 (fun a26 H hW hS => ?_)
  have ha26 : (cw_ua (cw_ua (cw_ua (cw_ua (cw_ua (cw_ua (cw_ua (cw_ua ad 19 w 0 a19) 20 w 0 a20) 21 w 0 a21) 22 w 0 a22) 23 w 0 a23) 24 w 0 a24) 25 w 0 a25) 26 w 0 a26) 18 w 0 = b := (cw_ua_n (fun q => absurd q.1 (by decide))).trans ha25
  refine cw_putF C hW hS ha26 (by simp [cw_in, hp]) ((cw_up_n (fun q => absurd q.1 (by decide))).trans cw_up_s) inlX6 tyX6 tyX6_ok nmX6 rfl 10 (by decide) qf_X6_37 (fun _ h => h) rfl hin rfl rfl rfl (Nat.le_of_ble_eq_true rfl) dX6_init_70 (fun H locs hW hS => ?_)
  refine lv_aload_n hx hb dX6_init_73 rfl (lv_at hl 0 rfl) ?_
  refine lv_bipush (v := 6) hx hb dX6_init_74 (by decide) ?_
  refine cw_newi (n := 6) (f := 27) (w := w) (q := 0) C hW hS h0 (by simp [cw_in, hn 27 (by decide) (by decide)]) ⟨by decide, hw, by decide⟩ (by decide) ⟨Nat.le_of_ble_eq_true rfl, Nat.le_of_ble_eq_true rfl⟩ dX6_init_76 (fun a27 H hW hS => ?_)
  have ha27 : (cw_ua (cw_ua (cw_ua (cw_ua (cw_ua (cw_ua (cw_ua (cw_ua (cw_ua ad 19 w 0 a19) 20 w 0 a20) 21 w 0 a21) 22 w 0 a22) 23 w 0 a23) 24 w 0 a24) 25 w 0 a25) 26 w 0 a26) 27 w 0 a27) 18 w 0 = b := (cw_ua_n (fun q => absurd q.1 (by decide))).trans ha26
  refine cw_putF C hW hS ha27 (by simp [cw_in, hp]) ((cw_up_n (fun q => absurd q.1 (by decide))).trans cw_up_s) inlX6 tyX6 tyX6_ok nmX6 rfl 11 (by decide) qf_X6_40 (fun _ h => h) rfl hin rfl rfl rfl (Nat.le_of_ble_eq_true rfl) dX6_init_78 (fun H locs hW hS => ?_)
  refine lv_aload_n hx hb dX6_init_81 rfl (lv_at hl 0 rfl) ?_
  refine lv_bipush (v := 24) hx hb dX6_init_82 (by decide) ?_
  refine cw_newi (n := 24) (f := 28) (w := w) (q := 0) C hW hS h0 (by simp [cw_in, hn 28 (by decide) (by decide)]) ⟨by decide, hw, by decide⟩ (by decide) ⟨Nat.le_of_ble_eq_true rfl, Nat.le_of_ble_eq_true rfl⟩ dX6_init_84 (fun a28 H hW hS => ?_)
  have ha28 : (cw_ua (cw_ua (cw_ua (cw_ua (cw_ua (cw_ua (cw_ua (cw_ua (cw_ua (cw_ua ad 19 w 0 a19) 20 w 0 a20) 21 w 0 a21) 22 w 0 a22) 23 w 0 a23) 24 w 0 a24) 25 w 0 a25) 26 w 0 a26) 27 w 0 a27) 28 w 0 a28) 18 w 0 = b := (cw_ua_n (fun q => absurd q.1 (by decide))).trans ha27
  refine cw_putF C hW hS ha28 (by simp [cw_in, hp]) ((cw_up_n (fun q => absurd q.1 (by decide))).trans cw_up_s) inlX6 tyX6 tyX6_ok nmX6 rfl 12 (by decide) qf_X6_43 (fun _ h => h) rfl hin rfl rfl rfl (Nat.le_of_ble_eq_true rfl) dX6_init_86 (fun H locs hW hS => ?_)
  refine lv_aload_n hx hb dX6_init_89 rfl (lv_at hl 0 rfl) ?_
  refine lv_bipush (v := 24) hx hb dX6_init_90 (by decide) ?_
  refine cw_newi (n := 24) (f := 29) (w := w) (q := 0) C hW hS h0 (by simp [cw_in, hn 29 (by decide) (by decide)]) ⟨by decide, hw, by decide⟩ (by decide) ⟨Nat.le_of_ble_eq_true rfl, Nat.le_of_ble_eq_true rfl⟩ dX6_init_92 (fun a29 H hW hS => ?_)
  have ha29 : (cw_ua (cw_ua (cw_ua (cw_ua (cw_ua (cw_ua (cw_ua (cw_ua (cw_ua (cw_ua (cw_ua ad 19 w 0 a19) 20 w 0 a20) 21 w 0 a21) 22 w 0 a22) 23 w 0 a23) 24 w 0 a24) 25 w 0 a25) 26 w 0 a26) 27 w 0 a27) 28 w 0 a28) 29 w 0 a29) 18 w 0 = b := (cw_ua_n (fun q => absurd q.1 (by decide))).trans ha28
  refine cw_putF C hW hS ha29 (by simp [cw_in, hp]) ((cw_up_n (fun q => absurd q.1 (by decide))).trans cw_up_s) inlX6 tyX6 tyX6_ok nmX6 rfl 13 (by decide) qf_X6_46 (fun _ h => h) rfl hin rfl rfl rfl (Nat.le_of_ble_eq_true rfl) dX6_init_94 (fun H locs hW hS => ?_)
  obtain ⟨AD, hAD⟩ : ∃ z : Nat → Nat → Nat → Nat, z = cw_ua (cw_ua (cw_ua (cw_ua (cw_ua (cw_ua (cw_ua (cw_ua (cw_ua (cw_ua (cw_ua ad 19 w 0 a19) 20 w 0 a20) 21 w 0 a21) 22 w 0 a22) 23 w 0 a23) 24 w 0 a24) 25 w 0 a25) 26 w 0 a26) 27 w 0 a27) 28 w 0 a28) 29 w 0 a29 := ⟨_, rfl⟩
  rw [← hAD] at hW
  have hag : ∀ f' w' k', P f' w' k' = true → AD f' w' k' = ad f' w' k' := fun f' w' k' hq => by
    rw [hAD]
    repeat rw [cw_ua_n (fun q => by obtain ⟨rfl, rfl, rfl⟩ := q; exact hn _ (by decide) (by decide) hq)]
  have A12 : AD 12 0 0 = b1 := (hag 12 0 0 hp12).trans ha12
  have A19 : AD 19 w 0 = a19 := by rw [hAD]; simp [cw_ua]
  have A20 : AD 20 w 0 = a20 := by rw [hAD]; simp [cw_ua]
  have A21 : AD 21 w 0 = a21 := by rw [hAD]; simp [cw_ua]
  have A22 : AD 22 w 0 = a22 := by rw [hAD]; simp [cw_ua]
  have A23 : AD 23 w 0 = a23 := by rw [hAD]; simp [cw_ua]
  have A24 : AD 24 w 0 = a24 := by rw [hAD]; simp [cw_ua]
  have A25 : AD 25 w 0 = a25 := by rw [hAD]; simp [cw_ua]
  have A26 : AD 26 w 0 = a26 := by rw [hAD]; simp [cw_ua]
  have A27 : AD 27 w 0 = a27 := by rw [hAD]; simp [cw_ua]
  have A28 : AD 28 w 0 = a28 := by rw [hAD]; simp [cw_ua]
  have A29 : AD 29 w 0 = a29 := by rw [hAD]; simp [cw_ua]
  refine cw_rv (P0 := P) (ad0 := ad) C hr hlk hag (hW.eq (fun f' w' k' hq => ?_)) hS (Nat.le_of_ble_eq_true rfl) (Nat.le_of_ble_eq_true rfl) dX6_init_97
  by_cases c1 : 18 ≤ f' ∧ f' ≤ 29 ∧ w' = w ∧ k' = 0
  · rw [show cw_F6 E ce w AD f' w' k' = cw_c0 E AD f' w' k' from if_pos c1]
    obtain ⟨c2, c3, rfl, rfl⟩ := c1
    obtain rfl | rfl | rfl | rfl | rfl | rfl | rfl | rfl | rfl | rfl | rfl | rfl : f' = 18 ∨ f' = 19 ∨ f' = 20 ∨ f' = 21 ∨ f' = 22 ∨ f' = 23 ∨ f' = 24 ∨ f' = 25 ∨ f' = 26 ∨ f' = 27 ∨ f' = 28 ∨ f' = 29 := by omega
    · rw [cw_up_s]
      show _ = (Sum.inr (6, [.int 0, .int 0, .int 0, .ref (AD 19 w' 0), .ref (AD 20 w' 0), .ref (AD 21 w' 0), .ref (AD 22 w' 0), .ref (AD 23 w' 0), .ref (AD 24 w' 0), .ref (AD 25 w' 0), .ref (AD 26 w' 0), .ref (AD 27 w' 0), .ref (AD 28 w' 0), .ref (AD 29 w' 0), .ref (AD 12 0 0)]) : va_E)
      rw [A19, A20, A21, A22, A23, A24, A25, A26, A27, A28, A29, A12]
      rfl
    · rw [show cw_c0 E AD 19 w' 0 = bd_iA E 24 (fun _ => 0) from rfl]
      repeat rw [cw_up_n (fun q => absurd q.1 (by decide))]
      exact cw_up_s
    · rw [show cw_c0 E AD 20 w' 0 = bd_iA E 24 (fun _ => 0) from rfl]
      repeat rw [cw_up_n (fun q => absurd q.1 (by decide))]
      exact cw_up_s
    · rw [show cw_c0 E AD 21 w' 0 = bd_iA E 24 (fun _ => 0) from rfl]
      repeat rw [cw_up_n (fun q => absurd q.1 (by decide))]
      exact cw_up_s
    · rw [show cw_c0 E AD 22 w' 0 = bd_iA E 24 (fun _ => 0) from rfl]
      repeat rw [cw_up_n (fun q => absurd q.1 (by decide))]
      exact cw_up_s
    · rw [show cw_c0 E AD 23 w' 0 = bd_iA E 48 (fun _ => 0) from rfl]
      repeat rw [cw_up_n (fun q => absurd q.1 (by decide))]
      exact cw_up_s
    · rw [show cw_c0 E AD 24 w' 0 = bd_iA E 48 (fun _ => 0) from rfl]
      repeat rw [cw_up_n (fun q => absurd q.1 (by decide))]
      exact cw_up_s
    · rw [show cw_c0 E AD 25 w' 0 = bd_iA E 6 (fun _ => 0) from rfl]
      repeat rw [cw_up_n (fun q => absurd q.1 (by decide))]
      exact cw_up_s
    · rw [show cw_c0 E AD 26 w' 0 = bd_iA E 6 (fun _ => 0) from rfl]
      repeat rw [cw_up_n (fun q => absurd q.1 (by decide))]
      exact cw_up_s
    · rw [show cw_c0 E AD 27 w' 0 = bd_iA E 6 (fun _ => 0) from rfl]
      repeat rw [cw_up_n (fun q => absurd q.1 (by decide))]
      exact cw_up_s
    · rw [show cw_c0 E AD 28 w' 0 = bd_iA E 24 (fun _ => 0) from rfl]
      repeat rw [cw_up_n (fun q => absurd q.1 (by decide))]
      exact cw_up_s
    · rw [show cw_c0 E AD 29 w' 0 = bd_iA E 24 (fun _ => 0) from rfl]
      repeat rw [cw_up_n (fun q => absurd q.1 (by decide))]
      exact cw_up_s
  · rw [show cw_F6 E ce w AD f' w' k' = ce f' w' k' from if_neg c1]
    repeat rw [cw_up_n (fun q => c1 ⟨by omega, by omega, q.2.1, q.2.2⟩)]
