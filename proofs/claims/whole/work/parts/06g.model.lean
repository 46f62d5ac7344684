/-! THE REFERENCE IS MADE (rows laid by wip/whole/tools/ctor7.py) -/
theorem cw_W.eqB {E : bd_E} {P : Nat → Nat → Nat → Bool} {ad : Nat → Nat → Nat → Nat} {ce ce' : Nat → Nat → Nat → va_E} {H : Heap} (h : cw_W E P ad ce H) (he : ∀ f w k, P f w k = true → ce f w k = ce' f w k ∨ ∃ n g g', ce f w k = bd_iA E n g ∧ ce' f w k = bd_iA E n g' ∧ ∀ i, i < n → g i = g' i) : cw_W E P ad ce' H :=
  ⟨h.1, h.2.1, h.2.2.1, fun f w k hp => by
    have h9 := h.2.2.2 f w k hp
    rcases he f w k hp with h1 | ⟨n, g, g', h1, h2, h3⟩
    · rw [← h1]; exact h9
    · rw [h1] at h9
      rw [h2]
      have e : (fun j : Fin n => Value.int (g j.val)) = (fun j : Fin n => Value.int (g' j.val)) := funext fun j => by rw [h3 j.val j.isLt]
      have e2 : vp_cell (bd_eK E 0) (n, .inl g) = vp_cell (bd_eK E 0) (n, .inl g') := by
        rw [vp_cell_i, vp_cell_i]
        unfold arrV
        rw [e]
      show H[ad f w k]? = some (vp_cell (bd_eK E 0) (n, .inl g'))
      rw [← e2]
      exact h9⟩
theorem cw_P6_of {P : Nat → Nat → Nat → Bool} {w f' w' k' : Nat} (h : cw_P6 P w f' w' k' = true) : P f' w' k' = true ∨ (19 ≤ f' ∧ f' ≤ 29 ∧ w' = w ∧ k' = 0) := by
  unfold cw_P6 at h
  refine (cw_in_of h).elim (fun h => ?_) (fun h => Or.inr ⟨by omega, by omega, h.2.1, h.2.2⟩)
  refine (cw_in_of h).elim (fun h => ?_) (fun h => Or.inr ⟨by omega, by omega, h.2.1, h.2.2⟩)
  refine (cw_in_of h).elim (fun h => ?_) (fun h => Or.inr ⟨by omega, by omega, h.2.1, h.2.2⟩)
  refine (cw_in_of h).elim (fun h => ?_) (fun h => Or.inr ⟨by omega, by omega, h.2.1, h.2.2⟩)
  refine (cw_in_of h).elim (fun h => ?_) (fun h => Or.inr ⟨by omega, by omega, h.2.1, h.2.2⟩)
  refine (cw_in_of h).elim (fun h => ?_) (fun h => Or.inr ⟨by omega, by omega, h.2.1, h.2.2⟩)
  refine (cw_in_of h).elim (fun h => ?_) (fun h => Or.inr ⟨by omega, by omega, h.2.1, h.2.2⟩)
  refine (cw_in_of h).elim (fun h => ?_) (fun h => Or.inr ⟨by omega, by omega, h.2.1, h.2.2⟩)
  refine (cw_in_of h).elim (fun h => ?_) (fun h => Or.inr ⟨by omega, by omega, h.2.1, h.2.2⟩)
  refine (cw_in_of h).elim (fun h => ?_) (fun h => Or.inr ⟨by omega, by omega, h.2.1, h.2.2⟩)
  refine (cw_in_of h).elim (fun h => ?_) (fun h => Or.inr ⟨by omega, by omega, h.2.1, h.2.2⟩)
  exact Or.inl h
theorem cw_P6_o {P : Nat → Nat → Nat → Bool} {w f' w' k' : Nat} (h : P f' w' k' = true) : cw_P6 P w f' w' k' = true := by simp [cw_P6, cw_in, h]
theorem cw_P6_in {P : Nat → Nat → Nat → Bool} {w f : Nat} (h1 : 19 ≤ f) (h2 : f ≤ 29) : cw_P6 P w f w 0 = true := by
  obtain rfl | rfl | rfl | rfl | rfl | rfl | rfl | rfl | rfl | rfl | rfl : f = 19 ∨ f = 20 ∨ f = 21 ∨ f = 22 ∨ f = 23 ∨ f = 24 ∨ f = 25 ∨ f = 26 ∨ f = 27 ∨ f = 28 ∨ f = 29 := by omega
  all_goals simp [cw_P6, cw_in]
def cw_P7 (P : Nat → Nat → Nat → Bool) : Nat → Nat → Nat → Bool := cw_P6 (cw_in (cw_P6 (cw_in (cw_in (cw_in (cw_in (cw_in (cw_in P 13 0 0) 14 0 0) 15 0 0) 16 0 0) 17 0 0) 18 0 0) 0) 18 1 0) 1
def cw_F7 (E : bd_E) (ce : Nat → Nat → Nat → va_E) (a : Nat → Nat → Nat → Nat) : Nat → Nat → Nat → va_E := fun f' w' k' => if 12 ≤ f' ∧ f' ≤ 29 ∧ (w' = 0 ∨ (w' = 1 ∧ 18 ≤ f')) ∧ k' = 0 then cw_c0 E a f' w' k' else ce f' w' k'
set_option maxHeartbeats 8000000 in
set_option maxRecDepth 100000 in
theorem k_X7_init (l : Launch) (E : bd_E) (P : Nat → Nat → Nat → Bool) (ad : Nat → Nat → Nat → Nat) (ce : Nat → Nat → Nat → va_E) (b : Nat) (ha : ad 12 0 0 = b) (hp : P 12 0 0 = true) (he : ce 12 0 0 = .inr (7, [.int 0, .int 0, .null, .int 0, .null, .null, .null, .null, .null, .null])) (hn : ∀ f w, 13 ≤ f → f ≤ 29 → ¬ P f w 0 = true) :
    cw_Ct l yX7_init cX7_init 1 2 45 29 704 E [.ref b] P ad ce (cw_P7 P) (cw_F7 E ce) := by
  refine cw_open RX7 rfl rfl (by decide) (Nat.le_of_ble_eq_true rfl) ?_
  intro p e s m args below meth c ls C hao h0 hin hr hlk hS hW hl
  have hx := C.1.1
  have hb := C.1.2.1
  have hl : lv_has ls 1 [(0, .ref b)] := hl
  refine lv_aload_n hx hb dX7_init_0 rfl (lv_at hl 0 rfl) ?_
  refine cw_obj C hl.1 qm_X7_1 (Nat.le_of_ble_eq_true rfl) (Nat.le_of_ble_eq_true rfl) dX7_init_1 ?_
  refine lv_aload_n hx hb dX7_init_4 rfl (lv_at hl 0 rfl) ?_
  refine lv_bipush (v := 96) hx hb dX7_init_5 (by decide) ?_
  refine cw_newi (n := 96) (f := 13) (w := 0) (q := 0) C hW hS h0 (by simp [cw_in, hn 13 0 (by decide) (by decide)]) ⟨by decide, by decide, by decide⟩ (by decide) ⟨Nat.le_of_ble_eq_true rfl, Nat.le_of_ble_eq_true rfl⟩ dX7_init_7 (fun a13 H hW hS => ?_)
  have ha13 : (cw_ua ad 13 0 0 a13) 12 0 0 = b := (cw_ua_n (fun q => absurd q.1 (by decide))).trans ha
  refine cw_putF C hW hS ha13 (by simp [cw_in, hp]) ((cw_up_n (fun q => absurd q.1 (by decide))).trans he) inlX7 tyX7 tyX7_ok nmX7 rfl 2 (by decide) qf_X7_9 (fun _ h => h) rfl hin rfl rfl rfl (Nat.le_of_ble_eq_true rfl) dX7_init_9 (fun H locs hW hS => ?_)
  refine lv_aload_n hx hb dX7_init_12 rfl (lv_at hl 0 rfl) ?_
  refine lv_bipush (v := 6) hx hb dX7_init_13 (by decide) ?_
  refine cw_newi (n := 6) (f := 14) (w := 0) (q := 0) C hW hS h0 (by simp [cw_in, hn 14 0 (by decide) (by decide)]) ⟨by decide, by decide, by decide⟩ (by decide) ⟨Nat.le_of_ble_eq_true rfl, Nat.le_of_ble_eq_true rfl⟩ dX7_init_15 (fun a14 H hW hS => ?_)
  have ha14 : (cw_ua (cw_ua ad 13 0 0 a13) 14 0 0 a14) 12 0 0 = b := (cw_ua_n (fun q => absurd q.1 (by decide))).trans ha13
  refine cw_putF C hW hS ha14 (by simp [cw_in, hp]) ((cw_up_n (fun q => absurd q.1 (by decide))).trans cw_up_s) inlX7 tyX7 tyX7_ok nmX7 rfl 4 (by decide) qf_X7_13 (fun _ h => h) rfl hin rfl rfl rfl (Nat.le_of_ble_eq_true rfl) dX7_init_17 (fun H locs hW hS => ?_)
  refine lv_aload_n hx hb dX7_init_20 rfl (lv_at hl 0 rfl) ?_
  refine lv_bipush (v := 48) hx hb dX7_init_21 (by decide) ?_
  refine cw_newi (n := 48) (f := 15) (w := 0) (q := 0) C hW hS h0 (by simp [cw_in, hn 15 0 (by decide) (by decide)]) ⟨by decide, by decide, by decide⟩ (by decide) ⟨Nat.le_of_ble_eq_true rfl, Nat.le_of_ble_eq_true rfl⟩ dX7_init_23 (fun a15 H hW hS => ?_)
  have ha15 : (cw_ua (cw_ua (cw_ua ad 13 0 0 a13) 14 0 0 a14) 15 0 0 a15) 12 0 0 = b := (cw_ua_n (fun q => absurd q.1 (by decide))).trans ha14
  refine cw_putF C hW hS ha15 (by simp [cw_in, hp]) ((cw_up_n (fun q => absurd q.1 (by decide))).trans cw_up_s) inlX7 tyX7 tyX7_ok nmX7 rfl 5 (by decide) qf_X7_16 (fun _ h => h) rfl hin rfl rfl rfl (Nat.le_of_ble_eq_true rfl) dX7_init_25 (fun H locs hW hS => ?_)
  refine lv_aload_n hx hb dX7_init_28 rfl (lv_at hl 0 rfl) ?_
  refine lv_iconst (v := 4) hx hb dX7_init_29 (by decide) ?_
  refine cw_newi (n := 4) (f := 16) (w := 0) (q := 0) C hW hS h0 (by simp [cw_in, hn 16 0 (by decide) (by decide)]) ⟨by decide, by decide, by decide⟩ (by decide) ⟨Nat.le_of_ble_eq_true rfl, Nat.le_of_ble_eq_true rfl⟩ dX7_init_30 (fun a16 H hW hS => ?_)
  have ha16 : (cw_ua (cw_ua (cw_ua (cw_ua ad 13 0 0 a13) 14 0 0 a14) 15 0 0 a15) 16 0 0 a16) 12 0 0 = b := (cw_ua_n (fun q => absurd q.1 (by decide))).trans ha15
  refine lv_dup hx hb dX7_init_32 rfl ?_
  refine lv_iconst (v := 0) hx hb dX7_init_33 (by decide) ?_
  refine lv_iconst (v := 3) hx hb dX7_init_34 (by decide) ?_
  refine cw_sti (n := 4) (j := 0) (f := 16) (w := 0) (q := 0) C hW hS cw_ua_s cw_in_s cw_up_s (by decide) (by decide) dX7_init_35 (fun H locs hW hS => ?_)
  refine lv_dup hx hb dX7_init_36 rfl ?_
  refine lv_iconst (v := 1) hx hb dX7_init_37 (by decide) ?_
  refine lv_iconst (v := 3) hx hb dX7_init_38 (by decide) ?_
  refine cw_sti (n := 4) (j := 1) (f := 16) (w := 0) (q := 0) C hW hS cw_ua_s cw_in_s cw_up_s (by decide) (by decide) dX7_init_39 (fun H locs hW hS => ?_)
  refine lv_dup hx hb dX7_init_40 rfl ?_
  refine lv_iconst (v := 2) hx hb dX7_init_41 (by decide) ?_
  refine lv_iconst (v := 3) hx hb dX7_init_42 (by decide) ?_
  refine cw_sti (n := 4) (j := 2) (f := 16) (w := 0) (q := 0) C hW hS cw_ua_s cw_in_s cw_up_s (by decide) (by decide) dX7_init_43 (fun H locs hW hS => ?_)
  refine lv_dup hx hb dX7_init_44 rfl ?_
  refine lv_iconst (v := 3) hx hb dX7_init_45 (by decide) ?_
  refine lv_iconst (v := 3) hx hb dX7_init_46 (by decide) ?_
  refine cw_sti (n := 4) (j := 3) (f := 16) (w := 0) (q := 0) C hW hS cw_ua_s cw_in_s cw_up_s (by decide) (by decide) dX7_init_47 (fun H locs hW hS => ?_)
  refine cw_putF C hW hS ha16 (by simp [cw_in, hp]) ((cw_up_n (fun q => absurd q.1 (by decide))).trans ((cw_up_n (fun q => absurd q.1 (by decide))).trans ((cw_up_n (fun q => absurd q.1 (by decide))).trans ((cw_up_n (fun q => absurd q.1 (by decide))).trans ((cw_up_n (fun q => absurd q.1 (by decide))).trans cw_up_s))))) inlX7 tyX7 tyX7_ok nmX7 rfl 6 (by decide) qf_X7_19 (fun _ h => h) rfl hin rfl rfl rfl (Nat.le_of_ble_eq_true rfl) dX7_init_48 (fun H locs hW hS => ?_)
  refine lv_aload_n hx hb dX7_init_51 rfl (lv_at hl 0 rfl) ?_
  refine lv_iconst (v := 4) hx hb dX7_init_52 (by decide) ?_
  refine cw_newi (n := 4) (f := 17) (w := 0) (q := 0) C hW hS h0 (by simp [cw_in, hn 17 0 (by decide) (by decide)]) ⟨by decide, by decide, by decide⟩ (by decide) ⟨Nat.le_of_ble_eq_true rfl, Nat.le_of_ble_eq_true rfl⟩ dX7_init_53 (fun a17 H hW hS => ?_)
  have ha17 : (cw_ua (cw_ua (cw_ua (cw_ua (cw_ua ad 13 0 0 a13) 14 0 0 a14) 15 0 0 a15) 16 0 0 a16) 17 0 0 a17) 12 0 0 = b := (cw_ua_n (fun q => absurd q.1 (by decide))).trans ha16
  refine lv_dup hx hb dX7_init_55 rfl ?_
  refine lv_iconst (v := 0) hx hb dX7_init_56 (by decide) ?_
  refine lv_iconst (v := 1) hx hb dX7_init_57 (by decide) ?_
  refine cw_sti (n := 4) (j := 0) (f := 17) (w := 0) (q := 0) C hW hS cw_ua_s cw_in_s cw_up_s (by decide) (by decide) dX7_init_58 (fun H locs hW hS => ?_)
  refine lv_dup hx hb dX7_init_59 rfl ?_
  refine lv_iconst (v := 1) hx hb dX7_init_60 (by decide) ?_
  refine lv_iconst (v := 1) hx hb dX7_init_61 (by decide) ?_
  refine cw_sti (n := 4) (j := 1) (f := 17) (w := 0) (q := 0) C hW hS cw_ua_s cw_in_s cw_up_s (by decide) (by decide) dX7_init_62 (fun H locs hW hS => ?_)
  refine lv_dup hx hb dX7_init_63 rfl ?_
  refine lv_iconst (v := 2) hx hb dX7_init_64 (by decide) ?_
  refine lv_iconst (v := 1) hx hb dX7_init_65 (by decide) ?_
  refine cw_sti (n := 4) (j := 2) (f := 17) (w := 0) (q := 0) C hW hS cw_ua_s cw_in_s cw_up_s (by decide) (by decide) dX7_init_66 (fun H locs hW hS => ?_)
  refine lv_dup hx hb dX7_init_67 rfl ?_
  refine lv_iconst (v := 3) hx hb dX7_init_68 (by decide) ?_
  refine lv_iconst (v := 1) hx hb dX7_init_69 (by decide) ?_
  refine cw_sti (n := 4) (j := 3) (f := 17) (w := 0) (q := 0) C hW hS cw_ua_s cw_in_s cw_up_s (by decide) (by decide) dX7_init_70 (fun H locs hW hS => ?_)
  refine cw_putF C hW hS ha17 (by simp [cw_in, hp]) ((cw_up_n (fun q => absurd q.1 (by decide))).trans ((cw_up_n (fun q => absurd q.1 (by decide))).trans ((cw_up_n (fun q => absurd q.1 (by decide))).trans ((cw_up_n (fun q => absurd q.1 (by decide))).trans ((cw_up_n (fun q => absurd q.1 (by decide))).trans cw_up_s))))) inlX7 tyX7 tyX7_ok nmX7 rfl 7 (by decide) qf_X7_22 (fun _ h => h) rfl hin rfl rfl rfl (Nat.le_of_ble_eq_true rfl) dX7_init_71 (fun H locs hW hS => ?_)
  have qn : ∀ f w, 18 ≤ f → f ≤ 29 → ¬ (cw_in (cw_in (cw_in (cw_in (cw_in P 13 0 0) 14 0 0) 15 0 0) 16 0 0) 17 0 0) f w 0 = true := fun f w h1 h2 q => by
    have h9 := hn f w (by omega) h2
    simp only [cw_in, Bool.or_eq_true, decide_eq_true_eq] at q
    rcases q with ((((q | q) | q) | q) | q) | q
    · exact h9 q
    · omega
    · omega
    · omega
    · omega
    · omega
  have q12 : (cw_in (cw_in (cw_in (cw_in (cw_in P 13 0 0) 14 0 0) 15 0 0) 16 0 0) 17 0 0) 12 0 0 = true := by simp [cw_in, hp]
  obtain ⟨P5, hP5⟩ : ∃ z : Nat → Nat → Nat → Bool, z = cw_in (cw_in (cw_in (cw_in (cw_in P 13 0 0) 14 0 0) 15 0 0) 16 0 0) 17 0 0 := ⟨_, rfl⟩
  obtain ⟨AD5, hA5⟩ : ∃ z : Nat → Nat → Nat → Nat, z = cw_ua (cw_ua (cw_ua (cw_ua (cw_ua ad 13 0 0 a13) 14 0 0 a14) 15 0 0 a15) 16 0 0 a16) 17 0 0 a17 := ⟨_, rfl⟩
  rw [← hP5] at qn q12
  rw [← hP5, ← hA5] at hW
  have hb5 : AD5 12 0 0 = b := by rw [hA5]; exact ha17
  have B13 : AD5 13 0 0 = a13 := by rw [hA5]; simp [cw_ua]
  have B14 : AD5 14 0 0 = a14 := by rw [hA5]; simp [cw_ua]
  have B15 : AD5 15 0 0 = a15 := by rw [hA5]; simp [cw_ua]
  have B16 : AD5 16 0 0 = a16 := by rw [hA5]; simp [cw_ua]
  have B17 : AD5 17 0 0 = a17 := by rw [hA5]; simp [cw_ua]
  have hag5 : ∀ f' w' k', P f' w' k' = true → AD5 f' w' k' = ad f' w' k' := fun f' w' k' hq => by
    rw [hA5]
    repeat rw [cw_ua_n (fun q => by obtain ⟨rfl, rfl, rfl⟩ := q; exact hn _ 0 (by decide) (by decide) hq)]
  refine lv_aload_n hx hb dX7_init_74 rfl (lv_at hl 0 rfl) ?_
  refine cw_new (ci := 6) (f := 18) (w := 0) (q := 0) (fs := [.int 0, .int 0, .int 0, .null, .null, .null, .null, .null, .null, .null, .null, .null, .null, .null, .null]) C hW hS h0 (qn 18 0 (by decide) (by decide)) ⟨by decide, by decide, by decide⟩ inlX6 tyX6 tyX6_ok rfl qk_X7_25 qa_X6 qz_X6 (fun i hi => by rcases (by omega : i = 0 ∨ i = 1 ∨ i = 2 ∨ i = 3 ∨ i = 4 ∨ i = 5 ∨ i = 6 ∨ i = 7 ∨ i = 8 ∨ i = 9 ∨ i = 10 ∨ i = 11 ∨ i = 12 ∨ i = 13 ∨ i = 14) with rfl | rfl | rfl | rfl | rfl | rfl | rfl | rfl | rfl | rfl | rfl | rfl | rfl | rfl | rfl <;> rfl) ⟨Nat.le_of_ble_eq_true rfl, Nat.le_of_ble_eq_true rfl⟩ dX7_init_75 (fun s0 H hW hS => ?_)
  refine lv_dup hx hb dX7_init_78 rfl ?_
  refine lv_aload_n hx hb dX7_init_79 rfl (lv_at hl 0 rfl) ?_
  refine cw_cN (host := "BandDayModel") [.ref b] [.ref s0, .ref b] C hao (Nat.le_trans h0 hS.1) (k_X6_init l E _ _ _ 0 s0 b (by decide) cw_ua_s cw_in_s ((cw_ua_n (fun q => absurd q.1 (by decide))).trans hb5) (cw_in_o q12) cw_up_s (fun f h1 h2 q => (cw_in_of q).elim (qn f 0 (by omega) h2) (fun z => by omega))) hW hS (List.mem_of_getElem? (i := 2) rfl) qi_X6_init qz_X6 qc_X6_init rfl qp_X6_init.2 ⟨Nat.le_of_ble_eq_true rfl, Nat.le_of_ble_eq_true rfl⟩ hl.1 (Nat.le_of_ble_eq_true rfl) dX7_init_80 ⟨Nat.le_of_ble_eq_true rfl, Nat.le_of_ble_eq_true rfl⟩ (fun H locs D0 hD0 hW hS hz0 => ?_)
  have hb6 : D0 12 0 0 = b := (hD0 12 0 0 (cw_in_o q12)).trans ((cw_ua_n (fun q => absurd q.1 (by decide))).trans hb5)
  refine cw_putF C hW hS hb6 (cw_P6_o (cw_in_o q12)) ((if_neg (fun q => absurd q.1 (by decide))).trans ((cw_up_n (fun q => absurd q.1 (by decide))).trans cw_up_s)) inlX7 tyX7 tyX7_ok nmX7 rfl 8 (by decide) qf_X7_30 (fun _ h => h) rfl hin rfl rfl rfl (Nat.le_of_ble_eq_true rfl) dX7_init_83 (fun H locs hW hS => ?_)
  refine lv_aload_n hx hb dX7_init_86 rfl (lv_at hl 0 rfl) ?_
  refine cw_new (ci := 6) (f := 18) (w := 1) (q := 0) (fs := [.int 0, .int 0, .int 0, .null, .null, .null, .null, .null, .null, .null, .null, .null, .null, .null, .null]) C hW hS h0 ((fun q => (cw_P6_of q).elim (fun q => (cw_in_of q).elim (qn 18 1 (by decide) (by decide)) (fun q => absurd q.2.1 (by decide))) (fun q => absurd q.1 (by decide)))) ⟨by decide, by decide, by decide⟩ inlX6 tyX6 tyX6_ok rfl qk_X7_25 qa_X6 qz_X6 (fun i hi => by rcases (by omega : i = 0 ∨ i = 1 ∨ i = 2 ∨ i = 3 ∨ i = 4 ∨ i = 5 ∨ i = 6 ∨ i = 7 ∨ i = 8 ∨ i = 9 ∨ i = 10 ∨ i = 11 ∨ i = 12 ∨ i = 13 ∨ i = 14) with rfl | rfl | rfl | rfl | rfl | rfl | rfl | rfl | rfl | rfl | rfl | rfl | rfl | rfl | rfl <;> rfl) ⟨Nat.le_of_ble_eq_true rfl, Nat.le_of_ble_eq_true rfl⟩ dX7_init_87 (fun s1 H hW hS => ?_)
  refine lv_dup hx hb dX7_init_90 rfl ?_
  refine lv_aload_n hx hb dX7_init_91 rfl (lv_at hl 0 rfl) ?_
  refine cw_cN (host := "BandDayModel") [.ref b] [.ref s1, .ref b] C hao (Nat.le_trans h0 hS.1) (k_X6_init l E _ _ _ 1 s1 b (by decide) cw_ua_s cw_in_s ((cw_ua_n (fun q => absurd q.1 (by decide))).trans hb6) (cw_in_o (cw_P6_o (cw_in_o q12))) cw_up_s (fun f h1 h2 q => (cw_in_of q).elim (fun q => (cw_P6_of q).elim (fun q => (cw_in_of q).elim (qn f 1 (by omega) h2) (fun z => by omega)) (fun z => by omega)) (fun z => by omega))) hW hS (List.mem_of_getElem? (i := 2) rfl) qi_X6_init qz_X6 qc_X6_init rfl qp_X6_init.2 ⟨Nat.le_of_ble_eq_true rfl, Nat.le_of_ble_eq_true rfl⟩ hl.1 (Nat.le_of_ble_eq_true rfl) dX7_init_92 ⟨Nat.le_of_ble_eq_true rfl, Nat.le_of_ble_eq_true rfl⟩ (fun H locs D1 hD1 hW hS hz1 => ?_)
  have hb7 : D1 12 0 0 = b := (hD1 12 0 0 (cw_in_o (cw_P6_o (cw_in_o q12)))).trans ((cw_ua_n (fun q => absurd q.1 (by decide))).trans hb6)
  refine cw_putF C hW hS hb7 (cw_P6_o (cw_in_o (cw_P6_o (cw_in_o q12)))) ((if_neg (fun q => absurd q.1 (by decide))).trans ((cw_up_n (fun q => absurd q.1 (by decide))).trans cw_up_s)) inlX7 tyX7 tyX7_ok nmX7 rfl 9 (by decide) qf_X7_34 (fun _ h => h) rfl hin rfl rfl rfl (Nat.le_of_ble_eq_true rfl) dX7_init_95 (fun H locs hW hS => ?_)
  have hag : ∀ f' w' k', P f' w' k' = true → D1 f' w' k' = ad f' w' k' := fun f' w' k' hq => by
    have u5 : P5 f' w' k' = true := by rw [hP5]; simp [cw_in, hq]
    have n18 : ∀ w, ¬ (f' = 18 ∧ w' = w ∧ k' = 0) := fun w q => by obtain ⟨rfl, rfl, rfl⟩ := q; exact hn _ _ (by decide) (by decide) hq
    exact (hD1 _ _ _ (cw_in_o (cw_P6_o (cw_in_o u5)))).trans ((cw_ua_n (n18 1)).trans ((hD0 _ _ _ (cw_in_o u5)).trans ((cw_ua_n (n18 0)).trans (hag5 _ _ _ hq))))
  have G13 : D1 13 0 0 = a13 := (hD1 _ _ _ (cw_in_o (cw_P6_o (cw_in_o (by rw [hP5]; simp [cw_in]))))).trans ((cw_ua_n (fun q => absurd q.1 (by decide))).trans ((hD0 _ _ _ (cw_in_o (by rw [hP5]; simp [cw_in]))).trans ((cw_ua_n (fun q => absurd q.1 (by decide))).trans B13)))
  have G14 : D1 14 0 0 = a14 := (hD1 _ _ _ (cw_in_o (cw_P6_o (cw_in_o (by rw [hP5]; simp [cw_in]))))).trans ((cw_ua_n (fun q => absurd q.1 (by decide))).trans ((hD0 _ _ _ (cw_in_o (by rw [hP5]; simp [cw_in]))).trans ((cw_ua_n (fun q => absurd q.1 (by decide))).trans B14)))
  have G15 : D1 15 0 0 = a15 := (hD1 _ _ _ (cw_in_o (cw_P6_o (cw_in_o (by rw [hP5]; simp [cw_in]))))).trans ((cw_ua_n (fun q => absurd q.1 (by decide))).trans ((hD0 _ _ _ (cw_in_o (by rw [hP5]; simp [cw_in]))).trans ((cw_ua_n (fun q => absurd q.1 (by decide))).trans B15)))
  have G16 : D1 16 0 0 = a16 := (hD1 _ _ _ (cw_in_o (cw_P6_o (cw_in_o (by rw [hP5]; simp [cw_in]))))).trans ((cw_ua_n (fun q => absurd q.1 (by decide))).trans ((hD0 _ _ _ (cw_in_o (by rw [hP5]; simp [cw_in]))).trans ((cw_ua_n (fun q => absurd q.1 (by decide))).trans B16)))
  have G17 : D1 17 0 0 = a17 := (hD1 _ _ _ (cw_in_o (cw_P6_o (cw_in_o (by rw [hP5]; simp [cw_in]))))).trans ((cw_ua_n (fun q => absurd q.1 (by decide))).trans ((hD0 _ _ _ (cw_in_o (by rw [hP5]; simp [cw_in]))).trans ((cw_ua_n (fun q => absurd q.1 (by decide))).trans B17)))
  have G18 : D1 18 0 0 = s0 := (hD1 _ _ _ (cw_in_o (cw_P6_o cw_in_s))).trans ((cw_ua_n (fun q => absurd q.2.1 (by decide))).trans ((hD0 _ _ _ cw_in_s).trans cw_ua_s))
  have G19 : D1 18 1 0 = s1 := (hD1 _ _ _ cw_in_s).trans cw_ua_s
  have GS : ∀ f, 19 ≤ f → f ≤ 29 → D1 f 0 0 = D0 f 0 0 := fun f h1 h2 => (hD1 _ _ _ (cw_in_o (cw_P6_in h1 h2))).trans (cw_ua_n (fun q => by omega))
  have hP7 : cw_P6 (cw_in (cw_P6 (cw_in P5 18 0 0) 0) 18 1 0) 1 = cw_P7 P := by rw [hP5]; rfl
  rw [hP7] at hW
  refine cw_rv (P0 := P) (ad0 := ad) C hr hlk hag (hW.eqB (fun f' w' k' hq => ?_)) hS (Nat.le_of_ble_eq_true rfl) (Nat.le_of_ble_eq_true rfl) dX7_init_98
  by_cases c1 : 12 ≤ f' ∧ f' ≤ 29 ∧ (w' = 0 ∨ (w' = 1 ∧ 18 ≤ f')) ∧ k' = 0
  · rw [show cw_F7 E ce D1 f' w' k' = cw_c0 E D1 f' w' k' from if_pos c1]
    obtain ⟨c2, c3, c4, rfl⟩ := c1
    rcases c4 with rfl | ⟨rfl, c5⟩
    · obtain rfl | rfl | rfl | rfl | rfl | rfl | c6 : f' = 12 ∨ f' = 13 ∨ f' = 14 ∨ f' = 15 ∨ f' = 16 ∨ f' = 17 ∨ 18 ≤ f' := by omega
      · left
        rw [cw_up_s]
        show _ = (Sum.inr (7, [.int 0, .int 0, .ref (D1 13 0 0), .int 0, .ref (D1 14 0 0), .ref (D1 15 0 0), .ref (D1 16 0 0), .ref (D1 17 0 0), .ref (D1 18 0 0), .ref (D1 18 1 0)]) : va_E)
        rw [G13, G14, G15, G16, G17, G18, G19]
        rfl
      · left
        rw [show cw_c0 E D1 13 0 0 = bd_iA E 96 (fun _ => 0) from rfl]
        rw [cw_up_n (fun q => absurd q.1 (by decide)), show ∀ X, cw_F6 E X 1 D1 13 0 0 = X 13 0 0 from fun X => if_neg (fun q => absurd q.1 (by decide)), cw_up_n (fun q => absurd q.1 (by decide)), cw_up_n (fun q => absurd q.1 (by decide)), show ∀ X, cw_F6 E X 0 D0 13 0 0 = X 13 0 0 from fun X => if_neg (fun q => absurd q.1 (by decide))]
        repeat rw [cw_up_n (fun q => absurd q.1 (by decide))]
        exact cw_up_s
      · left
        rw [show cw_c0 E D1 14 0 0 = bd_iA E 6 (fun _ => 0) from rfl]
        rw [cw_up_n (fun q => absurd q.1 (by decide)), show ∀ X, cw_F6 E X 1 D1 14 0 0 = X 14 0 0 from fun X => if_neg (fun q => absurd q.1 (by decide)), cw_up_n (fun q => absurd q.1 (by decide)), cw_up_n (fun q => absurd q.1 (by decide)), show ∀ X, cw_F6 E X 0 D0 14 0 0 = X 14 0 0 from fun X => if_neg (fun q => absurd q.1 (by decide))]
        repeat rw [cw_up_n (fun q => absurd q.1 (by decide))]
        exact cw_up_s
      · left
        rw [show cw_c0 E D1 15 0 0 = bd_iA E 48 (fun _ => 0) from rfl]
        rw [cw_up_n (fun q => absurd q.1 (by decide)), show ∀ X, cw_F6 E X 1 D1 15 0 0 = X 15 0 0 from fun X => if_neg (fun q => absurd q.1 (by decide)), cw_up_n (fun q => absurd q.1 (by decide)), cw_up_n (fun q => absurd q.1 (by decide)), show ∀ X, cw_F6 E X 0 D0 15 0 0 = X 15 0 0 from fun X => if_neg (fun q => absurd q.1 (by decide))]
        repeat rw [cw_up_n (fun q => absurd q.1 (by decide))]
        exact cw_up_s
      · refine Or.inr ⟨4, upd (upd (upd (upd (fun _ => 0) 0 3) 1 3) 2 3) 3 3, fun j => ry_0 16 0 j, ?_, rfl, fun i hi => by match i, hi with | 0, _ => rfl | 1, _ => rfl | 2, _ => rfl | 3, _ => rfl⟩
        rw [cw_up_n (fun q => absurd q.1 (by decide)), show ∀ X, cw_F6 E X 1 D1 16 0 0 = X 16 0 0 from fun X => if_neg (fun q => absurd q.1 (by decide)), cw_up_n (fun q => absurd q.1 (by decide)), cw_up_n (fun q => absurd q.1 (by decide)), show ∀ X, cw_F6 E X 0 D0 16 0 0 = X 16 0 0 from fun X => if_neg (fun q => absurd q.1 (by decide))]
        repeat rw [cw_up_n (fun q => absurd q.1 (by decide))]
        exact cw_up_s
      · refine Or.inr ⟨4, upd (upd (upd (upd (fun _ => 0) 0 1) 1 1) 2 1) 3 1, fun j => ry_0 17 0 j, ?_, rfl, fun i hi => by match i, hi with | 0, _ => rfl | 1, _ => rfl | 2, _ => rfl | 3, _ => rfl⟩
        rw [cw_up_n (fun q => absurd q.1 (by decide)), show ∀ X, cw_F6 E X 1 D1 17 0 0 = X 17 0 0 from fun X => if_neg (fun q => absurd q.1 (by decide)), cw_up_n (fun q => absurd q.1 (by decide)), cw_up_n (fun q => absurd q.1 (by decide)), show ∀ X, cw_F6 E X 0 D0 17 0 0 = X 17 0 0 from fun X => if_neg (fun q => absurd q.1 (by decide))]
        repeat rw [cw_up_n (fun q => absurd q.1 (by decide))]
        exact cw_up_s
      · left
        rw [cw_up_n (fun q => by omega), show ∀ X, cw_F6 E X 1 D1 f' 0 0 = X f' 0 0 from fun X => if_neg (fun q => by omega), cw_up_n (fun q => by omega), cw_up_n (fun q => by omega), show ∀ X, cw_F6 E X 0 D0 f' 0 0 = cw_c0 E D0 f' 0 0 from fun X => if_pos ⟨c6, c3, rfl, rfl⟩]
        obtain rfl | rfl | rfl | rfl | rfl | rfl | rfl | rfl | rfl | rfl | rfl | rfl : f' = 18 ∨ f' = 19 ∨ f' = 20 ∨ f' = 21 ∨ f' = 22 ∨ f' = 23 ∨ f' = 24 ∨ f' = 25 ∨ f' = 26 ∨ f' = 27 ∨ f' = 28 ∨ f' = 29 := by omega
        · show (Sum.inr (6, [.int 0, .int 0, .int 0, .ref (D0 19 0 0), .ref (D0 20 0 0), .ref (D0 21 0 0), .ref (D0 22 0 0), .ref (D0 23 0 0), .ref (D0 24 0 0), .ref (D0 25 0 0), .ref (D0 26 0 0), .ref (D0 27 0 0), .ref (D0 28 0 0), .ref (D0 29 0 0), .ref (D0 12 0 0)]) : va_E) = Sum.inr (6, [.int 0, .int 0, .int 0, .ref (D1 19 0 0), .ref (D1 20 0 0), .ref (D1 21 0 0), .ref (D1 22 0 0), .ref (D1 23 0 0), .ref (D1 24 0 0), .ref (D1 25 0 0), .ref (D1 26 0 0), .ref (D1 27 0 0), .ref (D1 28 0 0), .ref (D1 29 0 0), .ref (D1 12 0 0)])
          rw [GS 19 (by decide) (by decide), GS 20 (by decide) (by decide), GS 21 (by decide) (by decide), GS 22 (by decide) (by decide), GS 23 (by decide) (by decide), GS 24 (by decide) (by decide), GS 25 (by decide) (by decide), GS 26 (by decide) (by decide), GS 27 (by decide) (by decide), GS 28 (by decide) (by decide), GS 29 (by decide) (by decide), hb6, hb7]
        · rfl
        · rfl
        · rfl
        · rfl
        · rfl
        · rfl
        · rfl
        · rfl
        · rfl
        · rfl
        · rfl
    · left
      rw [cw_up_n (fun q => by omega), show ∀ X, cw_F6 E X 1 D1 f' 1 0 = cw_c0 E D1 f' 1 0 from fun X => if_pos ⟨c5, c3, rfl, rfl⟩]
  · left
    rw [show cw_F7 E ce D1 f' w' k' = ce f' w' k' from if_neg c1]
    rw [cw_up_n (fun q => c1 ⟨by omega, by omega, by omega, by omega⟩)]
    rw [show ∀ X, cw_F6 E X 1 D1 f' w' k' = X f' w' k' from fun X => if_neg (fun q => c1 ⟨by omega, by omega, by omega, by omega⟩)]
    rw [cw_up_n (fun q => c1 ⟨by omega, by omega, by omega, by omega⟩), cw_up_n (fun q => c1 ⟨by omega, by omega, by omega, by omega⟩)]
    rw [show ∀ X, cw_F6 E X 0 D0 f' w' k' = X f' w' k' from fun X => if_neg (fun q => c1 ⟨by omega, by omega, by omega, by omega⟩)]
    repeat rw [cw_up_n (fun q => c1 ⟨by omega, by omega, by omega, by omega⟩)]
