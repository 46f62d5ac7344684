/-! A BANDDAY IS MADE: two seasons, two contests -/
abbrev cw_n5 (f k : Nat) : Prop := ((f = 1 ∨ f = 2) ∧ k = 0) ∨ cw_n4 24 6 f k
def cw_P5 (P : Nat → Nat → Nat → Bool) (n : Nat) : Nat → Nat → Nat → Bool := fun f' w' k' => P f' w' k' || decide (w' < n ∧ cw_n5 f' k')
def cw_F5 (E : bd_E) (ce : Nat → Nat → Nat → va_E) (a : Nat → Nat → Nat → Nat) : Nat → Nat → Nat → va_E := fun f' w' k' => if (f' = 0 ∧ w' = 0 ∧ k' = 0) ∨ (w' < 2 ∧ cw_n5 f' k') then cw_c0 E a f' w' k' else ce f' w' k'
theorem cw_P5_of {P : Nat → Nat → Nat → Bool} {n f' w' k' : Nat} : cw_P5 P n f' w' k' = true ↔ P f' w' k' = true ∨ (w' < n ∧ cw_n5 f' k') := by
  simp only [cw_P5, Bool.or_eq_true, decide_eq_true_eq]
theorem cw_P5_0 {P : Nat → Nat → Nat → Bool} : P = cw_P5 P 0 := by
  funext f' w' k'
  refine Bool.eq_iff_iff.mpr ?_
  rw [cw_P5_of]
  exact ⟨Or.inl, fun h => h.elim id (fun h => absurd h.1 (Nat.not_lt_zero _))⟩
theorem cw_P5_1 {P : Nat → Nat → Nat → Bool} {w : Nat} : cw_P4 (cw_in (cw_in (cw_P5 P w) 2 w 0) 1 w 0) w 24 6 = cw_P5 P (w + 1) := by
  funext f' w' k'
  refine Bool.eq_iff_iff.mpr ?_
  rw [cw_P5_of]
  simp only [cw_in, Bool.or_eq_true, decide_eq_true_eq, cw_P4_of, cw_P5_of]
  constructor
  · rintro ((((h | ⟨h1, h2⟩) | h) | h) | ⟨h1, h2⟩)
    · exact Or.inl h
    · exact Or.inr ⟨by omega, h2⟩
    · exact Or.inr ⟨by omega, by omega⟩
    · exact Or.inr ⟨by omega, by omega⟩
    · exact Or.inr ⟨by omega, Or.inr h2⟩
  · rintro (h | ⟨h1, h2⟩)
    · exact Or.inl (Or.inl (Or.inl (Or.inl h)))
    · by_cases h3 : w' < w
      · exact Or.inl (Or.inl (Or.inl (Or.inr ⟨h3, h2⟩)))
      · have h4 : w' = w := by omega
        rcases h2 with ⟨h5 | h5, h6⟩ | h2
        · exact Or.inl (Or.inr ⟨h5, h4, h6⟩)
        · exact Or.inl (Or.inl (Or.inr ⟨h5, h4, h6⟩))
        · exact Or.inr ⟨h4, h2⟩
theorem cw_c0_a5 {E : bd_E} {a1 a2 : Nat → Nat → Nat → Nat} {w : Nat} (h : ∀ f k, cw_n5 f k → a2 f w k = a1 f w k) {f k : Nat} (hn : cw_n5 f k) : cw_eq E (cw_c0 E a1 f w k) (cw_c0 E a2 f w k) := by
  by_cases h7 : 7 ≤ f
  · exact cw_c0_ag (n := 24) (m := 6) (fun f k h9 => h f k (Or.inr h9)) h7 (by omega)
  · obtain ⟨rfl, rfl⟩ | ⟨rfl, rfl⟩ | ⟨rfl, rfl⟩ | ⟨rfl, rfl⟩ | ⟨rfl, rfl⟩ | ⟨rfl, rfl⟩ : (f = 1 ∧ k = 0) ∨ (f = 2 ∧ k = 0) ∨ (f = 3 ∧ k = 0) ∨ (f = 4 ∧ k = 0) ∨ (f = 5 ∧ k = 0) ∨ (f = 6 ∧ k = 0) := by omega
    · refine cw_eq.of ?_
      show (Sum.inr (4, [.ref (a1 3 w 0), .ref (a1 4 w 0), .ref (a1 5 w 0), .ref (a1 6 w 0), .int 0, .int 0, .int 0, .int 0, .int 0]) : va_E) = Sum.inr (4, [.ref (a2 3 w 0), .ref (a2 4 w 0), .ref (a2 5 w 0), .ref (a2 6 w 0), .int 0, .int 0, .int 0, .int 0, .int 0])
      rw [h 3 0 (by omega), h 4 0 (by omega), h 5 0 (by omega), h 6 0 (by omega)]
    · refine cw_eq.of ?_
      show (Sum.inr (2, [.ref (a1 1 w 0)]) : va_E) = Sum.inr (2, [.ref (a2 1 w 0)])
      rw [h 1 0 (by omega)]
    · refine cw_eq.rA (g := fun i => some (a1 7 w i)) (g' := fun i => some (a2 7 w i)) (fun i hi => ?_)
      rw [h 7 i (by omega)]
    · refine cw_eq.rA (g := fun i => some (a1 9 w i)) (g' := fun i => some (a2 9 w i)) (fun i hi => ?_)
      rw [h 9 i (by omega)]
    · exact cw_eq.rf
    · exact cw_eq.rf
def cw_F2 (E : bd_E) (ce : Nat → Nat → Nat → va_E) (w : Nat) (a : Nat → Nat → Nat → Nat) : Nat → Nat → Nat → va_E := fun f' w' k' => if w' = w ∧ cw_n5 f' k' then cw_c0 E a f' w' k' else ce f' w' k'
set_option maxHeartbeats 8000000 in
set_option maxRecDepth 100000 in
theorem k_X2_init (l : Launch) (E : bd_E) (P : Nat → Nat → Nat → Bool) (ad : Nat → Nat → Nat → Nat) (ce : Nat → Nat → Nat → va_E) (w b : Nat) (hw : w < 2) (ha : ad 2 w 0 = b) (hp : P 2 w 0 = true) (he : ce 2 w 0 = .inr (2, [.null])) (hno : ∀ f k, cw_n5 f k → f ≠ 2 → ¬ P f w k = true) :
    cw_Ct l yX2_init cX2_init 1 4 86 113 605 E [.ref b] P ad ce (cw_P4 (cw_in P 1 w 0) w 24 6) (cw_F2 E ce w) := by
  refine cw_open RX2 rfl rfl (by decide) (Nat.le_of_ble_eq_true rfl) ?_
  intro p e s m args below meth c ls C hao h0 hin hr hlk hS hW hl
  have hx := C.1.1
  have hb := C.1.2.1
  have hl : lv_has ls 1 [(0, .ref b)] := hl
  refine lv_aload_n hx hb dX2_init_0 rfl (lv_at hl 0 rfl) ?_
  refine cw_obj C hl.1 qm_X2_3 (Nat.le_of_ble_eq_true rfl) (Nat.le_of_ble_eq_true rfl) dX2_init_1 ?_
  refine lv_aload_n hx hb dX2_init_4 rfl (lv_at hl 0 rfl) ?_
  refine cw_new (ci := 4) (f := 1) (w := w) (q := 0) (fs := [.null, .null, .null, .null, .int 0, .int 0, .int 0, .int 0, .int 0]) C hW hS h0 (hno 1 0 (by omega) (by decide)) ⟨by decide, hw, by decide⟩ inlX4 tyX4 tyX4_ok rfl qk_X2_9 qa_X4 qz_X4 (fun i hi => by match i, hi with | 0, _ => rfl | 1, _ => rfl | 2, _ => rfl | 3, _ => rfl | 4, _ => rfl | 5, _ => rfl | 6, _ => rfl | 7, _ => rfl | 8, _ => rfl) ⟨Nat.le_of_ble_eq_true rfl, Nat.le_of_ble_eq_true rfl⟩ dX2_init_5 (fun c1 H hW hS => ?_)
  refine lv_dup hx hb dX2_init_8 rfl ?_
  have hin1 : ∀ f k, cw_n4 24 6 f k → ¬ cw_in P 1 w 0 f w k = true := fun f k h1 q => (cw_in_of q).elim (hno f k (Or.inr h1) (by omega)) (fun q => by omega)
  refine cw_cI [] [.ref c1, .ref b] C hao (Nat.le_trans h0 hS.1) (k_X4_init l E _ _ _ w c1 hw cw_ua_s cw_in_s cw_up_s hin1) hW hS qm_X2_11 qi_X4_init qz_X4 qc_X4_init rfl qp_X4_init.2 ⟨Nat.le_of_ble_eq_true rfl, Nat.le_of_ble_eq_true rfl⟩ hl.1 (Nat.le_of_ble_eq_true rfl) dX2_init_9 ⟨Nat.le_of_ble_eq_true rfl, Nat.le_of_ble_eq_true rfl⟩ (fun H locs adB hagB hW hS hz => ?_)
  have hagP : ∀ f' w' k', P f' w' k' = true → adB f' w' k' = ad f' w' k' := fun f' w' k' hq => (hagB f' w' k' (cw_in_o hq)).trans (cw_ua_n (fun q => by obtain ⟨rfl, rfl, rfl⟩ := q; exact hno 1 0 (by omega) (by decide) hq))
  have hB1 : adB 1 w 0 = c1 := (hagB 1 w 0 cw_in_s).trans cw_ua_s
  have hB2 : adB 2 w 0 = b := (hagP 2 w 0 hp).trans ha
  have hFo : ∀ f' w' k', P f' w' k' = true → cw_F4 E (cw_up ce 1 w 0 (Sum.inr (4, [.null, .null, .null, .null, .int 0, .int 0, .int 0, .int 0, .int 0]))) w adB f' w' k' = ce f' w' k' := fun f' w' k' hq => by
    have hz1 : ¬ (f' = 1 ∧ w' = w ∧ k' = 0) := fun q => by obtain ⟨rfl, rfl, rfl⟩ := q; exact hno 1 0 (by omega) (by decide) hq
    unfold cw_F4
    rw [if_neg (fun q => by obtain ⟨rfl, q2⟩ := q; exact hno f' k' (by omega) (by omega) hq), cw_up_n hz1]
  refine cw_putF C hW hS hB2 (cw_P4_of.mpr (Or.inl (cw_in_o hp))) ((hFo 2 w 0 hp).trans he) inlX2 tyX2 tyX2_ok nmX2 rfl 0 (by decide) qf_X2_12 (fun _ h => h) rfl hin rfl rfl rfl (Nat.le_of_ble_eq_true rfl) dX2_init_12 (fun H locs hW hS => ?_)
  refine cw_rv (P0 := P) (ad0 := ad) C hr hlk hagP (hW.eqE (fun f' w' k' hq => ?_)) hS (Nat.le_of_ble_eq_true rfl) (Nat.le_of_ble_eq_true rfl) dX2_init_15
  unfold cw_F2
  by_cases c2 : f' = 2 ∧ w' = w ∧ k' = 0
  · rw [c2.1, c2.2.1, c2.2.2, cw_up_s, if_pos ⟨rfl, by omega⟩]
    refine cw_eq.of ?_
    show (Sum.inr (2, [.ref c1]) : va_E) = Sum.inr (2, [.ref (adB 1 w 0)])
    rw [hB1]
  · rw [cw_up_n c2]
    unfold cw_F4
    by_cases c3 : w' = w ∧ cw_n5 f' k'
    · rw [if_pos c3, if_pos ⟨c3.1, by omega⟩]
      exact cw_eq.rf
    · rw [if_neg c3, if_neg (fun q => c3 ⟨q.1, by omega⟩), cw_up_n (fun q => c3 ⟨q.2.1, by omega⟩)]
      exact cw_eq.rf
set_option maxHeartbeats 8000000 in
set_option maxRecDepth 100000 in
theorem k_X5_init (l : Launch) (E : bd_E) (P : Nat → Nat → Nat → Bool) (ad : Nat → Nat → Nat → Nat) (ce : Nat → Nat → Nat → va_E) (b : Nat) (ha : ad 0 0 0 = b) (hp : P 0 0 0 = true) (he : ce 0 0 0 = .inr (5, [.null, .null, .null, .null])) (hno : ∀ f w k, w < 2 → cw_n5 f k → ¬ P f w k = true) :
    cw_Ct l yX5_init cX5_init 1 5 106 228 1212 E [.ref b] P ad ce (cw_P5 P 2) (cw_F5 E ce) := by
  refine cw_open RX5 rfl rfl (by decide) (Nat.le_of_ble_eq_true rfl) ?_
  intro p e s m args below meth c ls C hao h0 hin hr hlk hS hW hl
  have hx := C.1.1
  have hb := C.1.2.1
  have hl : lv_has ls 1 [(0, .ref b)] := hl
  refine lv_aload_n hx hb dX5_init_0 rfl (lv_at hl 0 rfl) ?_
  refine cw_obj C hl.1 qm_X5_1 (Nat.le_of_ble_eq_true rfl) (Nat.le_of_ble_eq_true rfl) dX5_init_1 ?_
  rw [cw_P5_0 (P := P)] at hW
  have hagA0 : ∀ f w k, P f w k = true → ad f w k = ad f w k := fun _ _ _ _ => rfl
  have hoA0 : ∀ f' w' k', P f' w' k' = true → ¬ (f' = 0 ∧ w' = 0 ∧ k' = 0) → ce f' w' k' = ce f' w' k' := fun _ _ _ _ _ => rfl
  have hmA0 : ∀ w', w' < 0 → ∀ f k, cw_n5 f k → cw_eq E (ce f w' k) (cw_c0 E ad f w' k) := fun w' h => absurd h (Nat.not_lt_zero _)
  have hA0 := ha
  have hC0 := he
  -- season 0
  have hp0 : cw_P5 P 0 0 0 0 = true := cw_P5_of.mpr (Or.inl hp)
  have hqn0 : ∀ f k, cw_n5 f k → ¬ cw_P5 P 0 f 0 k = true := fun f k h1 q => (cw_P5_of.mp q).elim (hno f 0 k (by decide) h1) (fun q => absurd q.1 (Nat.lt_irrefl _))
  refine lv_aload_n hx hb dX5_init_4 rfl (lv_at hl 0 rfl) ?_
  refine cw_new (ci := 2) (f := 2) (w := 0) (q := 0) (fs := [.null]) C hW hS h0 (hqn0 2 0 (by omega)) ⟨by decide, by decide, by decide⟩ inlX2 tyX2 tyX2_ok rfl qk_X5_7 qa_X2 qz_X2 (fun i hi => by match i, hi with | 0, _ => rfl) ⟨Nat.le_of_ble_eq_true rfl, Nat.le_of_ble_eq_true rfl⟩ dX5_init_5 (fun c20 H hW hS => ?_)
  refine lv_dup hx hb dX5_init_8 rfl ?_
  have hin0 : ∀ f k, cw_n5 f k → f ≠ 2 → ¬ cw_in (cw_P5 P 0) 2 0 0 f 0 k = true := fun f k h1 h2 q => (cw_in_of q).elim (hqn0 f k h1) (fun q => h2 q.1)
  refine cw_cN (host := "BandDay") [] [.ref c20, .ref b] C hao (Nat.le_trans h0 hS.1) (k_X2_init l E _ _ _ 0 c20 (by decide) cw_ua_s cw_in_s cw_up_s hin0) hW hS (List.mem_of_getElem? (i := 3) rfl) qi_X2_init qz_X2 qc_X2_init rfl qp_X2_init.2 ⟨Nat.le_of_ble_eq_true rfl, Nat.le_of_ble_eq_true rfl⟩ hl.1 (Nat.le_of_ble_eq_true rfl) dX5_init_9 ⟨Nat.le_of_ble_eq_true rfl, Nat.le_of_ble_eq_true rfl⟩ (fun H locs adD0 hagB0 hW hS hz0 => ?_)
  rw [cw_P5_1] at hW
  have hagF0 : ∀ f' w' k', cw_P5 P 0 f' w' k' = true → adD0 f' w' k' = ad f' w' k' := fun f' w' k' hq => (hagB0 f' w' k' (cw_in_o hq)).trans (cw_ua_n (fun q => by obtain ⟨rfl, rfl, rfl⟩ := q; exact hqn0 2 0 (by omega) hq))
  have hB20 : adD0 2 0 0 = c20 := (hagB0 2 0 0 cw_in_s).trans cw_ua_s
  have hA1 : adD0 0 0 0 = b := (hagF0 0 0 0 hp0).trans hA0
  have hFo0 : ∀ f' w' k', cw_P5 P 0 f' w' k' = true → cw_F2 E (cw_up ce 2 0 0 (Sum.inr (2, [.null]))) 0 adD0 f' w' k' = ce f' w' k' := fun f' w' k' hq => by
    have hz1 : ¬ (f' = 2 ∧ w' = 0 ∧ k' = 0) := fun q => by obtain ⟨rfl, rfl, rfl⟩ := q; exact hqn0 2 0 (by omega) hq
    unfold cw_F2
    rw [if_neg (fun q => by obtain ⟨rfl, q2⟩ := q; exact hqn0 f' k' q2 hq), cw_up_n hz1]
  refine cw_putF C hW hS hA1 (cw_P5_of.mpr (Or.inl hp)) ((hFo0 0 0 0 hp0).trans hC0) inlX5 tyX5 tyX5_ok nmX5 rfl 0 (by decide) qf_X5_10 (fun _ h => h) rfl hin rfl rfl rfl (Nat.le_of_ble_eq_true rfl) dX5_init_12 (fun H locs hW hS => ?_)
  refine lv_aload_n hx hb dX5_init_15 rfl (lv_at hl 0 rfl) ?_
  refine lv_aload_n hx hb dX5_init_16 rfl (lv_at hl 0 rfl) ?_
  refine cw_get C hW hA1 (cw_P5_of.mpr (Or.inl hp)) cw_up_s inlX5 rfl 0 (by decide) qf_X5_10 (fun _ h => h) rfl dX5_init_17 ?_
  refine cw_get (ci := 2) (fs := [.ref (adD0 1 0 0)]) C hW hB20 (cw_P5_of.mpr (Or.inr ⟨by decide, by omega⟩)) ((cw_up_n (f' := 2) (w' := 0) (k' := 0) (by omega)).trans (by unfold cw_F2; rw [if_pos ⟨rfl, by omega⟩]; rfl)) inlX2 rfl 0 (by decide) qf_X5_16 (fun _ h => h) rfl dX5_init_20 ?_
  refine cw_putF C hW hS hA1 (cw_P5_of.mpr (Or.inl hp)) cw_up_s inlX5 tyX5 tyX5_ok nmX5 rfl 1 (by decide) qf_X5_20 (fun _ h => h) rfl hin rfl rfl rfl (Nat.le_of_ble_eq_true rfl) dX5_init_23 (fun H locs hW hS => ?_)
  obtain ⟨ce1, hCe1⟩ : ∃ ce2 : Nat → Nat → Nat → va_E, ce2 = cw_up (cw_up (cw_F2 E (cw_up ce 2 0 0 (Sum.inr (2, [.null]))) 0 adD0) 0 0 0 (Sum.inr (5, [.ref c20, .null, .null, .null]))) 0 0 0 (Sum.inr (5, [.ref c20, .ref (adD0 1 0 0), .null, .null])) := ⟨_, rfl⟩
  have hW : cw_W E (cw_P5 P 1) adD0 ce1 H := by rw [hCe1]; exact hW
  have hC1 : ce1 0 0 0 = (Sum.inr (5, [.ref c20, .ref (adD0 1 0 0), .null, .null])) := by rw [hCe1]; exact cw_up_s
  have hagA1 : ∀ f w k, P f w k = true → adD0 f w k = ad f w k := fun f w k hq => (hagF0 f w k (cw_P5_of.mpr (Or.inl hq))).trans (hagA0 f w k hq)
  have hoA1 : ∀ f' w' k', P f' w' k' = true → ¬ (f' = 0 ∧ w' = 0 ∧ k' = 0) → ce1 f' w' k' = ce f' w' k' := fun f' w' k' hq hne => by
    refine Eq.trans (b := ce f' w' k') ?_ (hoA0 f' w' k' hq hne)
    rw [hCe1, cw_up_n hne, cw_up_n hne, hFo0 f' w' k' (cw_P5_of.mpr (Or.inl hq))]
  have hmA1 : ∀ w', w' < 1 → ∀ f k, cw_n5 f k → cw_eq E (ce1 f w' k) (cw_c0 E adD0 f w' k) := fun w' hw' f k hn => by
    by_cases hwn : w' = 0
    · subst hwn
      rw [hCe1, cw_up_n (by omega), cw_up_n (by omega)]
      unfold cw_F2
      rw [if_pos ⟨rfl, hn⟩]
      exact cw_eq.rf
    · have hq : cw_P5 P 0 f w' k = true := cw_P5_of.mpr (Or.inr ⟨by omega, hn⟩)
      rw [hCe1, cw_up_n (by omega), cw_up_n (by omega), hFo0 f w' k hq]
      exact (hmA0 w' (by omega) f k hn).tr (cw_c0_a5 (w := w') (fun f k h => hagF0 f w' k (cw_P5_of.mpr (Or.inr ⟨by omega, h⟩))) hn)
  clear hCe1
  -- season 1
  have hp1 : cw_P5 P 1 0 0 0 = true := cw_P5_of.mpr (Or.inl hp)
  have hqn1 : ∀ f k, cw_n5 f k → ¬ cw_P5 P 1 f 1 k = true := fun f k h1 q => (cw_P5_of.mp q).elim (hno f 1 k (by decide) h1) (fun q => absurd q.1 (Nat.lt_irrefl _))
  refine lv_aload_n hx hb dX5_init_26 rfl (lv_at hl 0 rfl) ?_
  refine cw_new (ci := 2) (f := 2) (w := 1) (q := 0) (fs := [.null]) C hW hS h0 (hqn1 2 0 (by omega)) ⟨by decide, by decide, by decide⟩ inlX2 tyX2 tyX2_ok rfl qk_X5_7 qa_X2 qz_X2 (fun i hi => by match i, hi with | 0, _ => rfl) ⟨Nat.le_of_ble_eq_true rfl, Nat.le_of_ble_eq_true rfl⟩ dX5_init_27 (fun c21 H hW hS => ?_)
  refine lv_dup hx hb dX5_init_30 rfl ?_
  have hin1 : ∀ f k, cw_n5 f k → f ≠ 2 → ¬ cw_in (cw_P5 P 1) 2 1 0 f 1 k = true := fun f k h1 h2 q => (cw_in_of q).elim (hqn1 f k h1) (fun q => h2 q.1)
  refine cw_cN (host := "BandDay") [] [.ref c21, .ref b] C hao (Nat.le_trans h0 hS.1) (k_X2_init l E _ _ _ 1 c21 (by decide) cw_ua_s cw_in_s cw_up_s hin1) hW hS (List.mem_of_getElem? (i := 3) rfl) qi_X2_init qz_X2 qc_X2_init rfl qp_X2_init.2 ⟨Nat.le_of_ble_eq_true rfl, Nat.le_of_ble_eq_true rfl⟩ hl.1 (Nat.le_of_ble_eq_true rfl) dX5_init_31 ⟨Nat.le_of_ble_eq_true rfl, Nat.le_of_ble_eq_true rfl⟩ (fun H locs adD1 hagB1 hW hS hz1 => ?_)
  rw [cw_P5_1] at hW
  have hagF1 : ∀ f' w' k', cw_P5 P 1 f' w' k' = true → adD1 f' w' k' = adD0 f' w' k' := fun f' w' k' hq => (hagB1 f' w' k' (cw_in_o hq)).trans (cw_ua_n (fun q => by obtain ⟨rfl, rfl, rfl⟩ := q; exact hqn1 2 0 (by omega) hq))
  have hB21 : adD1 2 1 0 = c21 := (hagB1 2 1 0 cw_in_s).trans cw_ua_s
  have hA2 : adD1 0 0 0 = b := (hagF1 0 0 0 hp1).trans hA1
  have hFo1 : ∀ f' w' k', cw_P5 P 1 f' w' k' = true → cw_F2 E (cw_up ce1 2 1 0 (Sum.inr (2, [.null]))) 1 adD1 f' w' k' = ce1 f' w' k' := fun f' w' k' hq => by
    have hz1 : ¬ (f' = 2 ∧ w' = 1 ∧ k' = 0) := fun q => by obtain ⟨rfl, rfl, rfl⟩ := q; exact hqn1 2 0 (by omega) hq
    unfold cw_F2
    rw [if_neg (fun q => by obtain ⟨rfl, q2⟩ := q; exact hqn1 f' k' q2 hq), cw_up_n hz1]
  refine cw_putF C hW hS hA2 (cw_P5_of.mpr (Or.inl hp)) ((hFo1 0 0 0 hp1).trans hC1) inlX5 tyX5 tyX5_ok nmX5 rfl 2 (by decide) qf_X5_21 (fun _ h => h) rfl hin rfl rfl rfl (Nat.le_of_ble_eq_true rfl) dX5_init_34 (fun H locs hW hS => ?_)
  refine lv_aload_n hx hb dX5_init_37 rfl (lv_at hl 0 rfl) ?_
  refine lv_aload_n hx hb dX5_init_38 rfl (lv_at hl 0 rfl) ?_
  refine cw_get C hW hA2 (cw_P5_of.mpr (Or.inl hp)) cw_up_s inlX5 rfl 2 (by decide) qf_X5_21 (fun _ h => h) rfl dX5_init_39 ?_
  refine cw_get (ci := 2) (fs := [.ref (adD1 1 1 0)]) C hW hB21 (cw_P5_of.mpr (Or.inr ⟨by decide, by omega⟩)) ((cw_up_n (f' := 2) (w' := 1) (k' := 0) (by omega)).trans (by unfold cw_F2; rw [if_pos ⟨rfl, by omega⟩]; rfl)) inlX2 rfl 0 (by decide) qf_X5_16 (fun _ h => h) rfl dX5_init_42 ?_
  refine cw_putF C hW hS hA2 (cw_P5_of.mpr (Or.inl hp)) cw_up_s inlX5 tyX5 tyX5_ok nmX5 rfl 3 (by decide) qf_X5_24 (fun _ h => h) rfl hin rfl rfl rfl (Nat.le_of_ble_eq_true rfl) dX5_init_45 (fun H locs hW hS => ?_)
  obtain ⟨ce2, hCe2⟩ : ∃ ce2 : Nat → Nat → Nat → va_E, ce2 = cw_up (cw_up (cw_F2 E (cw_up ce1 2 1 0 (Sum.inr (2, [.null]))) 1 adD1) 0 0 0 (Sum.inr (5, [.ref c20, .ref (adD0 1 0 0), .ref c21, .null]))) 0 0 0 (Sum.inr (5, [.ref c20, .ref (adD0 1 0 0), .ref c21, .ref (adD1 1 1 0)])) := ⟨_, rfl⟩
  have hW : cw_W E (cw_P5 P 2) adD1 ce2 H := by rw [hCe2]; exact hW
  have hC2 : ce2 0 0 0 = (Sum.inr (5, [.ref c20, .ref (adD0 1 0 0), .ref c21, .ref (adD1 1 1 0)])) := by rw [hCe2]; exact cw_up_s
  have hagA2 : ∀ f w k, P f w k = true → adD1 f w k = ad f w k := fun f w k hq => (hagF1 f w k (cw_P5_of.mpr (Or.inl hq))).trans (hagA1 f w k hq)
  have hoA2 : ∀ f' w' k', P f' w' k' = true → ¬ (f' = 0 ∧ w' = 0 ∧ k' = 0) → ce2 f' w' k' = ce f' w' k' := fun f' w' k' hq hne => by
    refine Eq.trans (b := ce1 f' w' k') ?_ (hoA1 f' w' k' hq hne)
    rw [hCe2, cw_up_n hne, cw_up_n hne, hFo1 f' w' k' (cw_P5_of.mpr (Or.inl hq))]
  have hmA2 : ∀ w', w' < 2 → ∀ f k, cw_n5 f k → cw_eq E (ce2 f w' k) (cw_c0 E adD1 f w' k) := fun w' hw' f k hn => by
    by_cases hwn : w' = 1
    · subst hwn
      rw [hCe2, cw_up_n (by omega), cw_up_n (by omega)]
      unfold cw_F2
      rw [if_pos ⟨rfl, hn⟩]
      exact cw_eq.rf
    · have hq : cw_P5 P 1 f w' k = true := cw_P5_of.mpr (Or.inr ⟨by omega, hn⟩)
      rw [hCe2, cw_up_n (by omega), cw_up_n (by omega), hFo1 f w' k hq]
      exact (hmA1 w' (by omega) f k hn).tr (cw_c0_a5 (w := w') (fun f k h => hagF1 f w' k (cw_P5_of.mpr (Or.inr ⟨by omega, h⟩))) hn)
  clear hCe2
  refine cw_rv (P0 := P) (ad0 := ad) C hr hlk hagA2 (hW.eqE (fun f' w' k' hq => ?_)) hS (Nat.le_refl _) (Nat.le_refl _) dX5_init_48
  unfold cw_F5
  by_cases c0 : f' = 0 ∧ w' = 0 ∧ k' = 0
  · obtain ⟨rfl, rfl, rfl⟩ := c0
    rw [if_pos (Or.inl ⟨rfl, rfl, rfl⟩), hC2]
    refine cw_eq.of ?_
    show _ = (Sum.inr (5, [.ref (adD1 2 0 0), .ref (adD1 1 0 0), .ref (adD1 2 1 0), .ref (adD1 1 1 0)]) : va_E)
    rw [hB21, hagF1 1 0 0 (cw_P5_of.mpr (Or.inr ⟨by decide, by omega⟩)), hagF1 2 0 0 (cw_P5_of.mpr (Or.inr ⟨by decide, by omega⟩)), hB20]
  · rcases cw_P5_of.mp hq with h9 | h9
    · rw [if_neg (fun q => q.elim c0 (fun q => hno f' w' k' q.1 q.2 h9))]
      exact cw_eq.of (hoA2 f' w' k' h9 c0)
    · rw [if_pos (Or.inr h9)]
      exact hmA2 w' h9.1 f' k' h9.2
