/-! A SEASON IS MADE, with its players, bands, piece and taste -/
def cw_eq (E : bd_E) (e e' : va_E) : Prop := ∀ (q : Nat) (H : Heap), va_at (bd_eD E) vwCl (q, e) H → va_at (bd_eD E) vwCl (q, e') H
theorem cw_eq.rf {E : bd_E} {e : va_E} : cw_eq E e e := fun _ _ h => h
theorem cw_eq.tr {E : bd_E} {e1 e2 e3 : va_E} (a : cw_eq E e1 e2) (b : cw_eq E e2 e3) : cw_eq E e1 e3 := fun q H h => b q H (a q H h)
theorem cw_eq.of {E : bd_E} {e e' : va_E} (h : e = e') : cw_eq E e e' := by subst h; exact cw_eq.rf
theorem cw_eq.rA {E : bd_E} {t n : Nat} {g g' : Nat → Option Nat} (h : ∀ i, i < n → g i = g' i) : cw_eq E (bd_rA E t n g) (bd_rA E t n g') := fun _ _ ha => cw_rA h ha
theorem cw_eq.iA {E : bd_E} {n : Nat} {g g' : Nat → Int32} (h : ∀ i, i < n → g i = g' i) : cw_eq E (bd_iA E n g) (bd_iA E n g') := fun q H ha => by
  have e : (fun j : Fin n => Value.int (g j.val)) = (fun j : Fin n => Value.int (g' j.val)) := funext fun j => by rw [h j.val j.isLt]
  have e2 : vp_cell (bd_eK E 0) (n, .inl g) = vp_cell (bd_eK E 0) (n, .inl g') := by
    rw [vp_cell_i, vp_cell_i]
    unfold arrV
    rw [e]
  show H[q]? = some (vp_cell (bd_eK E 0) (n, .inl g'))
  rw [← e2]
  exact ha
theorem cw_W.eqE {E : bd_E} {P : Nat → Nat → Nat → Bool} {ad : Nat → Nat → Nat → Nat} {ce ce' : Nat → Nat → Nat → va_E} {H : Heap} (h : cw_W E P ad ce H) (he : ∀ f w k, P f w k = true → cw_eq E (ce f w k) (ce' f w k)) : cw_W E P ad ce' H := ⟨h.1, h.2.1, h.2.2.1, fun f w k hp => he f w k hp _ _ (h.2.2.2 f w k hp)⟩
/-- what is made, with n players and m bands -/
abbrev cw_n4 (n m f k : Nat) : Prop := (k = 0 ∧ 3 ≤ f ∧ f ≤ 6) ∨ ((f = 7 ∨ f = 8) ∧ k < n) ∨ ((f = 9 ∨ f = 10) ∧ k < m) ∨ (f = 11 ∧ k < 8 * m)
def cw_P4 (P : Nat → Nat → Nat → Bool) (w n m : Nat) : Nat → Nat → Nat → Bool := fun f' w' k' => P f' w' k' || decide (w' = w ∧ cw_n4 n m f' k')
def cw_F4 (E : bd_E) (ce : Nat → Nat → Nat → va_E) (w : Nat) (a : Nat → Nat → Nat → Nat) : Nat → Nat → Nat → va_E := fun f' w' k' => if w' = w ∧ ((f' = 1 ∧ k' = 0) ∨ cw_n4 24 6 f' k') then cw_c0 E a f' w' k' else ce f' w' k'
theorem cw_P4_of {P : Nat → Nat → Nat → Bool} {w n m f' w' k' : Nat} : cw_P4 P w n m f' w' k' = true ↔ P f' w' k' = true ∨ (w' = w ∧ cw_n4 n m f' k') := by
  simp only [cw_P4, Bool.or_eq_true, decide_eq_true_eq]
theorem cw_P4_0 {P : Nat → Nat → Nat → Bool} {w : Nat} : cw_in (cw_in (cw_in (cw_in P 3 w 0) 4 w 0) 5 w 0) 6 w 0 = cw_P4 P w 0 0 := by
  funext f' w' k'
  refine Bool.eq_iff_iff.mpr ?_
  rw [cw_P4_of]
  simp only [cw_in, Bool.or_eq_true, decide_eq_true_eq]
  constructor
  · rintro ((((h | h) | h) | h) | h)
    · exact Or.inl h
    all_goals exact Or.inr ⟨h.2.1, Or.inl ⟨h.2.2, by omega, by omega⟩⟩
  · rintro (h | ⟨h1, h2⟩)
    · exact Or.inl (Or.inl (Or.inl (Or.inl h)))
    · obtain h3 | h3 | h3 | h3 : (f' = 3 ∧ k' = 0) ∨ (f' = 4 ∧ k' = 0) ∨ (f' = 5 ∧ k' = 0) ∨ (f' = 6 ∧ k' = 0) := by omega
      · exact Or.inl (Or.inl (Or.inl (Or.inr ⟨h3.1, h1, h3.2⟩)))
      · exact Or.inl (Or.inl (Or.inr ⟨h3.1, h1, h3.2⟩))
      · exact Or.inl (Or.inr ⟨h3.1, h1, h3.2⟩)
      · exact Or.inr ⟨h3.1, h1, h3.2⟩
theorem cw_P4_n {P : Nat → Nat → Nat → Bool} {w n m : Nat} : cw_in (cw_in (cw_P4 P w n m) 7 w n) 8 w n = cw_P4 P w (n + 1) m := by
  funext f' w' k'
  refine Bool.eq_iff_iff.mpr ?_
  rw [cw_P4_of]
  simp only [cw_in, Bool.or_eq_true, decide_eq_true_eq, cw_P4_of]
  constructor
  · rintro (((h | ⟨h1, h2⟩) | h) | h)
    · exact Or.inl h
    · exact Or.inr ⟨h1, by omega⟩
    · exact Or.inr ⟨h.2.1, by omega⟩
    · exact Or.inr ⟨h.2.1, by omega⟩
  · rintro (h | ⟨h1, h2⟩)
    · exact Or.inl (Or.inl (Or.inl h))
    · by_cases h3 : f' = 7 ∧ k' = n
      · exact Or.inl (Or.inr ⟨h3.1, h1, h3.2⟩)
      · by_cases h4 : f' = 8 ∧ k' = n
        · exact Or.inr ⟨h4.1, h1, h4.2⟩
        · exact Or.inl (Or.inl (Or.inr ⟨h1, by omega⟩))
theorem cw_P4_m {P : Nat → Nat → Nat → Bool} {w n m : Nat} : cw_P0 (cw_in (cw_P4 P w n m) 9 w m) w m 8 = cw_P4 P w n (m + 1) := by
  funext f' w' k'
  refine Bool.eq_iff_iff.mpr ?_
  rw [cw_P4_of, cw_P0_of]
  simp only [cw_in, Bool.or_eq_true, decide_eq_true_eq, cw_P4_of]
  constructor
  · rintro (((h | ⟨h1, h2⟩) | h) | h | h)
    · exact Or.inl h
    · exact Or.inr ⟨h1, by omega⟩
    · exact Or.inr ⟨h.2.1, by omega⟩
    · exact Or.inr ⟨h.2.1, by omega⟩
    · exact Or.inr ⟨h.2.1, by omega⟩
  · rintro (h | ⟨h1, h2⟩)
    · exact Or.inl (Or.inl (Or.inl h))
    · by_cases h3 : f' = 9 ∧ k' = m
      · exact Or.inl (Or.inr ⟨h3.1, h1, h3.2⟩)
      · by_cases h4 : f' = 10 ∧ k' = m
        · exact Or.inr (Or.inl ⟨h4.1, h1, h4.2⟩)
        · by_cases h5 : f' = 11 ∧ 8 * m ≤ k' ∧ k' < 8 * m + 8
          · exact Or.inr (Or.inr ⟨h5.1, h1, h5.2.1, h5.2.2⟩)
          · exact Or.inl (Or.inl (Or.inr ⟨h1, by omega⟩))
theorem cw_c0_ag {E : bd_E} {a1 a2 : Nat → Nat → Nat → Nat} {w n m : Nat} (h : ∀ f k, cw_n4 n m f k → a2 f w k = a1 f w k) {f k : Nat} (h7 : 7 ≤ f) (hn : cw_n4 n m f k) : cw_eq E (cw_c0 E a1 f w k) (cw_c0 E a2 f w k) := by
  obtain rfl | rfl | rfl | rfl | rfl : f = 7 ∨ f = 8 ∨ f = 9 ∨ f = 10 ∨ f = 11 := by omega
  · refine cw_eq.of ?_
    show (Sum.inr (3, [.ref (a1 8 w k), .int 0, .int 0, .int (-1), .int (-1), .int 0, .int 0, .int 0, .int 0]) : va_E) = Sum.inr (3, [.ref (a2 8 w k), .int 0, .int 0, .int (-1), .int (-1), .int 0, .int 0, .int 0, .int 0])
    rw [h 8 k (by omega)]
  · rw [cw_c8, cw_c8]; exact cw_eq.rf
  · refine cw_eq.of ?_
    show (Sum.inr (0, [.ref (a1 10 w k), .int 0, .int 0, .int (-1), .int (-1), .int (-1), .int (-1), .int 0, .int 0]) : va_E) = Sum.inr (0, [.ref (a2 10 w k), .int 0, .int 0, .int (-1), .int (-1), .int (-1), .int (-1), .int 0, .int 0])
    rw [h 10 k (by omega)]
  · refine cw_eq.rA (g := fun i => some (a1 11 w (8 * k + i))) (g' := fun i => some (a2 11 w (8 * k + i))) (fun i hi => ?_)
    rw [h 11 (8 * k + i) (by omega)]
  · exact cw_eq.rf
abbrev cw_sn (a3 a4 a5 a6 : Nat) : va_E := .inr (4, [.ref a3, .ref a4, .ref a5, .ref a6, .int 0, .int 0, .int 0, .int 0, .int 0])
/-- in the loops -/
def cw_J4 (E : bd_E) (P : Nat → Nat → Nat → Bool) (ad : Nat → Nat → Nat → Nat) (ce : Nat → Nat → Nat → va_E) (w b a3 a4 a5 a6 n m h : Nat) (H : Heap) : Prop := ∃ (ad1 : Nat → Nat → Nat → Nat) (ce1 : Nat → Nat → Nat → va_E) (g3 g4 : Nat → Option Nat) (g5 g6 : Nat → Int32), cw_W E (cw_P4 P w n m) ad1 ce1 H ∧ (∀ f w k, P f w k = true → ad1 f w k = ad f w k) ∧ (ad1 1 w 0 = b ∧ ad1 3 w 0 = a3 ∧ ad1 4 w 0 = a4 ∧ ad1 5 w 0 = a5 ∧ ad1 6 w 0 = a6) ∧ (ce1 1 w 0 = cw_sn a3 a4 a5 a6 ∧ ce1 3 w 0 = bd_rA E 1 24 g3 ∧ ce1 4 w 0 = bd_rA E 2 6 g4 ∧ ce1 5 w 0 = bd_iA E 4 g5 ∧ ce1 6 w 0 = bd_iA E 4 g6) ∧ ((∀ i, i < n → g3 i = some (ad1 7 w i)) ∧ (∀ i, i < m → g4 i = some (ad1 9 w i)) ∧ ∀ i, i < h → g5 i = 3 ∧ g6 i = 1) ∧ (∀ f k, 7 ≤ f → cw_n4 n m f k → cw_eq E (ce1 f w k) (cw_c0 E ad1 f w k)) ∧ ∀ f' w' k', P f' w' k' = true → ¬ (f' = 1 ∧ w' = w ∧ k' = 0) → ce1 f' w' k' = ce f' w' k'
set_option maxHeartbeats 8000000 in
set_option maxRecDepth 100000 in
theorem k_X4_init (l : Launch) (E : bd_E) (P : Nat → Nat → Nat → Bool) (ad : Nat → Nat → Nat → Nat) (ce : Nat → Nat → Nat → va_E) (w b : Nat) (hw : w < 2) (ha : ad 1 w 0 = b) (hp : P 1 w 0 = true) (he : ce 1 w 0 = .inr (4, [.null, .null, .null, .null, .int 0, .int 0, .int 0, .int 0, .int 0])) (hno : ∀ f k, cw_n4 24 6 f k → ¬ P f w k = true) :
    cw_Ct l yX4_init cX4_init 2 3 65 112 596 E [.ref b] P ad ce (cw_P4 P w 24 6) (cw_F4 E ce w) := by
  refine cw_open RX4 rfl rfl (by decide) (Nat.le_of_ble_eq_true rfl) ?_
  intro p e s m args below meth c ls C hao h0 hin hr hlk hS hW hl
  have hx := C.1.1
  have hb := C.1.2.1
  have hl : lv_has ls 2 [(0, .ref b)] := hl
  have nof : ∀ f, f ≠ 1 → ∀ w' k', ¬ ((1 : Nat) = f ∧ w = w' ∧ 0 = k') := fun f h w' k' q => h q.1.symm
  refine lv_aload_n hx hb dX4_init_0 rfl (lv_at hl 0 rfl) ?_
  refine cw_obj C hl.1 qm_X4_3 (Nat.le_of_ble_eq_true rfl) (Nat.le_of_ble_eq_true rfl) dX4_init_1 ?_
  refine lv_aload_n hx hb dX4_init_4 rfl (lv_at hl 0 rfl) ?_
  refine lv_bipush (v := 24) hx hb dX4_init_5 (by decide) ?_
  refine cw_newq (n := 24) (t := 1) (X := RX3) (f := 3) (w := w) (q := 0) C hao.1 rfl hW hS h0 (hno 3 0 (by omega)) ⟨by decide, hw, by decide⟩ qk_X4_9 (by decide) ⟨Nat.le_of_ble_eq_true rfl, Nat.le_of_ble_eq_true rfl⟩ dX4_init_7 (fun a3 H hW hS => ?_)
  refine cw_putF C hW hS ((cw_ua_n (nof 3 (by decide) _ _)).trans ha) (cw_in_o hp) ((cw_up_n (nof 3 (by decide) _ _)).trans he) inlX4 tyX4 tyX4_ok nmX4 rfl 0 (by decide) qf_X4_11 (fun _ h => h) rfl hin rfl rfl rfl (Nat.le_of_ble_eq_true rfl) dX4_init_10 (fun H locs hW hS => ?_)
  refine lv_aload_n hx hb dX4_init_13 rfl (lv_at hl 0 rfl) ?_
  refine lv_bipush (v := 6) hx hb dX4_init_14 (by decide) ?_
  have hin3 : ∀ f k, cw_n4 24 6 f k → f ≠ 3 → ¬ cw_in P 3 w 0 f w k = true := fun f k h h2 q => (cw_in_of q).elim (hno f k h) (fun q => h2 q.1)
  refine cw_newq (n := 6) (t := 2) (X := RX0) (f := 4) (w := w) (q := 0) C hao.2.1 rfl hW hS h0 (hin3 4 0 (by omega) (by decide)) ⟨by decide, hw, by decide⟩ qk_X4_17 (by decide) ⟨Nat.le_of_ble_eq_true rfl, Nat.le_of_ble_eq_true rfl⟩ dX4_init_16 (fun a4 H hW hS => ?_)
  refine cw_putF C hW hS ((cw_ua_n (nof 4 (by decide) _ _)).trans ((cw_ua_n (nof 3 (by decide) _ _)).trans ha)) (cw_in_o (cw_in_o hp)) ((cw_up_n (nof 4 (by decide) _ _)).trans cw_up_s) inlX4 tyX4 tyX4_ok nmX4 rfl 1 (by decide) qf_X4_19 (fun _ h => h) rfl hin rfl rfl rfl (Nat.le_of_ble_eq_true rfl) dX4_init_19 (fun H locs hW hS => ?_)
  refine lv_aload_n hx hb dX4_init_22 rfl (lv_at hl 0 rfl) ?_
  refine lv_iconst (v := 4) hx hb dX4_init_23 (by decide) ?_
  have hin4 : ∀ f k, cw_n4 24 6 f k → f ≠ 3 → f ≠ 4 → ¬ cw_in (cw_in P 3 w 0) 4 w 0 f w k = true := fun f k h h2 h3 q => (cw_in_of q).elim (hin3 f k h h2) (fun q => h3 q.1)
  refine cw_newi (n := 4) (f := 5) (w := w) (q := 0) C hW hS h0 (hin4 5 0 (by omega) (by decide) (by decide)) ⟨by decide, hw, by decide⟩ (by decide) ⟨Nat.le_of_ble_eq_true rfl, Nat.le_of_ble_eq_true rfl⟩ dX4_init_24 (fun a5 H hW hS => ?_)
  refine cw_putF C hW hS ((cw_ua_n (nof 5 (by decide) _ _)).trans ((cw_ua_n (nof 4 (by decide) _ _)).trans ((cw_ua_n (nof 3 (by decide) _ _)).trans ha))) (cw_in_o (cw_in_o (cw_in_o hp))) ((cw_up_n (nof 5 (by decide) _ _)).trans cw_up_s) inlX4 tyX4 tyX4_ok nmX4 rfl 2 (by decide) qf_X4_23 (fun _ h => h) rfl hin rfl rfl rfl (Nat.le_of_ble_eq_true rfl) dX4_init_26 (fun H locs hW hS => ?_)
  refine lv_aload_n hx hb dX4_init_29 rfl (lv_at hl 0 rfl) ?_
  refine lv_iconst (v := 4) hx hb dX4_init_30 (by decide) ?_
  refine cw_newi (n := 4) (f := 6) (w := w) (q := 0) C hW hS h0 (fun q => (cw_in_of q).elim (hin4 6 0 (by omega) (by decide) (by decide)) (fun q => absurd q.1 (by decide))) ⟨by decide, hw, by decide⟩ (by decide) ⟨Nat.le_of_ble_eq_true rfl, Nat.le_of_ble_eq_true rfl⟩ dX4_init_31 (fun a6 H hW hS => ?_)
  have hA1 := (cw_ua_n (q := a6) (nof 6 (by decide) w 0)).trans ((cw_ua_n (q := a5) (nof 5 (by decide) w 0)).trans ((cw_ua_n (q := a4) (nof 4 (by decide) w 0)).trans ((cw_ua_n (q := a3) (nof 3 (by decide) w 0)).trans ha)))
  refine cw_putF C hW hS hA1 (cw_in_o (cw_in_o (cw_in_o (cw_in_o hp)))) ((cw_up_n (nof 6 (by decide) _ _)).trans cw_up_s) inlX4 tyX4 tyX4_ok nmX4 rfl 3 (by decide) qf_X4_27 (fun _ h => h) rfl hin rfl rfl rfl (Nat.le_of_ble_eq_true rfl) dX4_init_33 (fun H locs hW hS => ?_)
  have hJ0 : cw_J4 E P ad ce w b a3 a4 a5 a6 0 0 0 H := by
    refine ⟨_, _, fun _ => none, fun _ => none, fun _ => 0, fun _ => 0, (by rw [← cw_P4_0]; exact hW), fun f' w' k' hq => ?_, ⟨hA1, ?_, ?_, ?_, cw_ua_s⟩, ⟨cw_up_s, ?_, ?_, ?_, ?_⟩, ⟨fun i hi => absurd hi (Nat.not_lt_zero _), fun i hi => absurd hi (Nat.not_lt_zero _), fun i hi => absurd hi (Nat.not_lt_zero _)⟩, fun f k h7 hn => absurd hn (by omega), fun f' w' k' hq hne => ?_⟩
    · have h9 : ∀ f, 3 ≤ f → f ≤ 6 → ¬ (f' = f ∧ w' = w ∧ k' = 0) := fun f h1 h2 q => by obtain ⟨rfl, rfl, rfl⟩ := q; exact hno f' 0 (by omega) hq
      rw [cw_ua_n (h9 6 (by decide) (by decide)), cw_ua_n (h9 5 (by decide) (by decide)), cw_ua_n (h9 4 (by decide) (by decide)), cw_ua_n (h9 3 (by decide) (by decide))]
    · rw [cw_ua_n (by omega), cw_ua_n (by omega), cw_ua_n (by omega), cw_ua_s]
    · rw [cw_ua_n (by omega), cw_ua_n (by omega), cw_ua_s]
    · rw [cw_ua_n (by omega), cw_ua_s]
    · rw [cw_up_n (by omega), cw_up_n (by omega), cw_up_n (by omega), cw_up_n (by omega), cw_up_n (by omega), cw_up_n (by omega), cw_up_n (by omega), cw_up_s]
    · rw [cw_up_n (by omega), cw_up_n (by omega), cw_up_n (by omega), cw_up_n (by omega), cw_up_n (by omega), cw_up_s]
    · rw [cw_up_n (by omega), cw_up_n (by omega), cw_up_n (by omega), cw_up_s]
    · rw [cw_up_n (by omega), cw_up_s]
    · have h9 : ∀ f, 3 ≤ f → f ≤ 6 → ¬ (f' = f ∧ w' = w ∧ k' = 0) := fun f h1 h2 q => by obtain ⟨rfl, rfl, rfl⟩ := q; exact hno f' 0 (by omega) hq
      rw [cw_up_n hne, cw_up_n (h9 6 (by decide) (by decide)), cw_up_n hne, cw_up_n (h9 5 (by decide) (by decide)), cw_up_n hne, cw_up_n (h9 4 (by decide) (by decide)), cw_up_n hne, cw_up_n (h9 3 (by decide) (by decide))]
  clear hW hin3 hin4
  refine lv_iconst (v := 0) hx hb dX4_init_36 (by decide) ?_
  refine lv_istore_n (lv' := [(1, .int 0), (0, .ref b)]) hx hb dX4_init_37 rfl hl (by decide) rfl (fun ls hl => ?_)
  -- the third loop
  have lp3 : ∀ (t j : Nat), j ≤ 4 → 4 - j < t → ∀ (H : Heap) (locs : List Loc), cw_J4 E P ad ce w b a3 a4 a5 a6 24 6 j H → va_S (bd_A E) s.heap H locs → ∀ ls : Array Slot, lv_has ls 2 [(1, .int (nI j)), (0, .ref b)] → W p l e { frames := 3, cells := 112, slots := 596, locals := 65 } s m args below meth c H locs 112 596 (MQ below (cw_Q E P ad (cw_P4 P w 24 6) (cw_F4 E ce w)) args s 112 596 (bd_A E)) (F0 m 92 ls []) := by
    intro t
    induction t with
    | zero => intro j h1 h2; exact absurd h2 (Nat.not_lt_zero _)
    | succ t ih =>
      intro j hj1 hj2 H locs hJ hS ls hl
      obtain ⟨ad1, ce1, g3, g4, g5, g6, hW, hag, ⟨hA1, hA3, hA4, hA5, hA6⟩, ⟨h1, h3, h4, h5, h6⟩, ⟨hg3, hg4, hg5⟩, hmd, hold⟩ := hJ
      refine lv_iload_n hx hb dX4_init_92 rfl (lv_at hl 0 rfl) ?_
      refine lv_iconst (v := 4) hx hb dX4_init_93 (by decide) ?_
      refine lv_icmp_ge (tgt := 117) hx hb dX4_init_94 (by decide) (fun c94 => ?_) (fun c94 => ?_)
      · obtain rfl : 4 = j := by
          have := (nI_leI (a := 4) (b := j) (by decide) (by omega)).mp c94
          omega
        refine cw_rv (P0 := P) (ad0 := ad) C hr hlk hag (hW.eqE (fun f' w' k' hq => ?_)) hS (Nat.le_refl _) (Nat.le_refl _) dX4_init_117
        unfold cw_F4
        by_cases c1 : w' = w ∧ ((f' = 1 ∧ k' = 0) ∨ cw_n4 24 6 f' k')
        · rw [if_pos c1]
          obtain ⟨rfl, c2⟩ := c1
          by_cases c7 : 7 ≤ f'
          · exact hmd f' k' c7 (by omega)
          · obtain ⟨rfl, rfl⟩ | ⟨rfl, rfl⟩ | ⟨rfl, rfl⟩ | ⟨rfl, rfl⟩ | ⟨rfl, rfl⟩ : (f' = 1 ∧ k' = 0) ∨ (f' = 3 ∧ k' = 0) ∨ (f' = 4 ∧ k' = 0) ∨ (f' = 5 ∧ k' = 0) ∨ (f' = 6 ∧ k' = 0) := by omega
            · refine cw_eq.of (h1.trans ?_)
              show _ = (Sum.inr (4, [.ref (ad1 3 w' 0), .ref (ad1 4 w' 0), .ref (ad1 5 w' 0), .ref (ad1 6 w' 0), .int 0, .int 0, .int 0, .int 0, .int 0]) : va_E)
              rw [hA3, hA4, hA5, hA6]
            · rw [h3]
              exact cw_eq.rA (g' := fun i => some (ad1 7 w' i)) hg3
            · rw [h4]
              exact cw_eq.rA (g' := fun i => some (ad1 9 w' i)) hg4
            · rw [h5]
              exact cw_eq.iA (g' := fun _ => 3) (fun i hi => (hg5 i hi).1)
            · rw [h6]
              exact cw_eq.iA (g' := fun _ => 1) (fun i hi => (hg5 i hi).2)
        · rw [if_neg c1]
          rcases cw_P4_of.mp hq with h9 | h9
          · exact cw_eq.of (hold _ _ _ h9 (fun q => c1 ⟨q.2.1, Or.inl ⟨q.1, q.2.2⟩⟩))
          · exact absurd ⟨h9.1, Or.inr h9.2⟩ c1
      · have hj4 : j < 4 := Nat.lt_of_not_le (fun q => c94 ((nI_leI (a := 4) (b := j) (by decide) (by omega)).mpr q))
        have hq1 : cw_P4 P w 24 6 1 w 0 = true := cw_P4_of.mpr (Or.inl hp)
        have hq5 : cw_P4 P w 24 6 5 w 0 = true := cw_P4_of.mpr (Or.inr ⟨rfl, by omega⟩)
        have hq6 : cw_P4 P w 24 6 6 w 0 = true := cw_P4_of.mpr (Or.inr ⟨rfl, by omega⟩)
        refine lv_aload_n hx hb dX4_init_97 rfl (lv_at hl 1 rfl) ?_
        refine cw_get C hW hA1 hq1 h1 inlX4 rfl 2 (by decide) qf_X4_23 (fun _ h => h) rfl dX4_init_98 ?_
        refine lv_iload_n hx hb dX4_init_101 rfl (lv_at hl 0 rfl) ?_
        refine lv_iconst (v := 3) hx hb dX4_init_102 (by decide) ?_
        refine cw_sti (n := 4) (j := j) (g := g5) (x := 3) C hW hS hA5 hq5 h5 hj4 (by decide) dX4_init_103 (fun H locs hW hS => ?_)
        refine lv_aload_n hx hb dX4_init_104 rfl (lv_at hl 1 rfl) ?_
        refine cw_get C hW hA1 hq1 ((cw_up_n (by omega)).trans h1) inlX4 rfl 3 (by decide) qf_X4_27 (fun _ h => h) rfl dX4_init_105 ?_
        refine lv_iload_n hx hb dX4_init_108 rfl (lv_at hl 0 rfl) ?_
        refine lv_iconst (v := 1) hx hb dX4_init_109 (by decide) ?_
        refine cw_sti (n := 4) (j := j) (g := g6) (x := 1) C hW hS hA6 hq6 ((cw_up_n (by omega)).trans h6) hj4 (by decide) dX4_init_110 (fun H locs hW hS => ?_)
        refine lv_iinc (v := nI (j + 1)) (lv' := [(1, .int (nI (j + 1))), (0, .ref b)]) hx hb dX4_init_111 hl (k := 0) rfl (nI_1 j) (by decide) rfl (fun ls hl => ?_)
        refine lv_goto (tgt := 92) hx hb dX4_init_114 (by decide) ?_
        refine ih (j + 1) (by omega) (by omega) H locs ⟨ad1, _, g3, g4, upd g5 j 3, upd g6 j 1, hW, hag, ⟨hA1, hA3, hA4, hA5, hA6⟩, ⟨?_, ?_, ?_, ?_, cw_up_s⟩, ⟨hg3, hg4, fun i hi => ?_⟩, fun f k h7 hn => ?_, fun f' w' k' hq hne => ?_⟩ hS ls hl
        · rw [cw_up_n (by omega), cw_up_n (by omega)]; exact h1
        · rw [cw_up_n (by omega), cw_up_n (by omega)]; exact h3
        · rw [cw_up_n (by omega), cw_up_n (by omega)]; exact h4
        · rw [cw_up_n (by omega), cw_up_s]
        · by_cases hij : i = j
          · subst hij
            simp [upd]
          · have := hg5 i (by omega)
            simp [upd, hij, this]
        · rw [cw_up_n (by omega), cw_up_n (by omega)]
          exact hmd f k h7 hn
        · have h9 : ∀ f, 3 ≤ f → f ≤ 6 → ¬ (f' = f ∧ w' = w ∧ k' = 0) := fun f h1 h2 q => by obtain ⟨rfl, rfl, rfl⟩ := q; exact hno f' 0 (by omega) hq
          rw [cw_up_n (h9 6 (by decide) (by decide)), cw_up_n (h9 5 (by decide) (by decide))]
          exact hold f' w' k' hq hne
  -- the second loop
  have lp2 : ∀ (t j : Nat), j ≤ 6 → 6 - j < t → ∀ (H : Heap) (locs : List Loc), cw_J4 E P ad ce w b a3 a4 a5 a6 24 j 0 H → va_S (bd_A E) s.heap H locs → ∀ ls : Array Slot, lv_has ls 2 [(1, .int (nI j)), (0, .ref b)] → W p l e { frames := 3, cells := 112, slots := 596, locals := 65 } s m args below meth c H locs (52 + 10 * j) (350 + 41 * j) (MQ below (cw_Q E P ad (cw_P4 P w 24 6) (cw_F4 E ce w)) args s 112 596 (bd_A E)) (F0 m 65 ls []) := by
    intro t
    induction t with
    | zero => intro j h1 h2; exact absurd h2 (Nat.not_lt_zero _)
    | succ t ih =>
      intro j hj1 hj2 H locs hJ hS ls hl
      refine lv_iload_n hx hb dX4_init_65 rfl (lv_at hl 0 rfl) ?_
      refine lv_bipush (v := 6) hx hb dX4_init_66 (by decide) ?_
      refine lv_icmp_ge (tgt := 90) hx hb dX4_init_68 (by decide) (fun c68 => ?_) (fun c68 => ?_)
      · obtain rfl : 6 = j := by
          have := (nI_leI (a := 6) (b := j) (by decide) (by omega)).mp c68
          omega
        refine lv_iconst (v := 0) hx hb dX4_init_90 (by decide) ?_
        refine lv_istore_n (lv' := [(1, .int 0), (0, .ref b)]) hx hb dX4_init_91 rfl hl (by decide) rfl (fun ls hl => ?_)
        exact lp3 5 0 (by decide) (by decide) H locs hJ hS ls hl
      · have hj6 : j < 6 := Nat.lt_of_not_le (fun q => c68 ((nI_leI (a := 6) (b := j) (by decide) (by omega)).mpr q))
        obtain ⟨ad1, ce1, g3, g4, g5, g6, hW, hag, ⟨hA1, hA3, hA4, hA5, hA6⟩, ⟨h1, h3, h4, h5, h6⟩, ⟨hg3, hg4, hg5⟩, hmd, hold⟩ := hJ
        have hq1 : cw_P4 P w 24 j 1 w 0 = true := cw_P4_of.mpr (Or.inl hp)
        have hqs : ∀ f, 3 ≤ f → f ≤ 6 → cw_P4 P w 24 j f w 0 = true := fun f h1 h2 => cw_P4_of.mpr (Or.inr ⟨rfl, by omega⟩)
        have hqn : ∀ f k, cw_n4 24 6 f k → ¬ cw_n4 24 j f k → ¬ cw_P4 P w 24 j f w k = true := fun f k h1 h2 q => (cw_P4_of.mp q).elim (hno f k h1) (fun q => h2 q.2)
        refine lv_aload_n hx hb dX4_init_71 rfl (lv_at hl 1 rfl) ?_
        refine cw_get C hW hA1 hq1 h1 inlX4 rfl 1 (by decide) qf_X4_19 (fun _ h => h) rfl dX4_init_72 ?_
        refine lv_iload_n hx hb dX4_init_75 rfl (lv_at hl 0 rfl) ?_
        refine cw_new (ci := 0) (f := 9) (w := w) (q := j) (fs := [.null, .int 0, .int 0, .int 0, .int 0, .int 0, .int 0, .int 0, .int 0]) C hW hS h0 (hqn 9 j (by omega) (by omega)) ⟨by decide, hw, hj6⟩ inlX0 tyX0 tyX0_ok rfl qk_X4_17 qa_X0 qz_X0 (fun i hi => by match i, hi with | 0, _ => rfl | 1, _ => rfl | 2, _ => rfl | 3, _ => rfl | 4, _ => rfl | 5, _ => rfl | 6, _ => rfl | 7, _ => rfl | 8, _ => rfl) ⟨by show 52 + 10 * j + 1 ≤ 112; omega, by show 350 + 41 * j + 9 ≤ 596; omega⟩ dX4_init_76 (fun a H hW hS => ?_)
        refine lv_dup hx hb dX4_init_79 rfl ?_
        have hin9 : ∀ f k, cw_n4 24 6 f k → ¬ cw_n4 24 j f k → f ≠ 9 → ¬ cw_in (cw_P4 P w 24 j) 9 w j f w k = true := fun f k h1 h2 h3 q => (cw_in_of q).elim (hqn f k h1 h2) (fun q => h3 q.1)
        refine cw_cI [] [.ref a, .int (nI j), .ref a4] C hao (Nat.le_trans h0 hS.1) (k_X0_init l E _ _ _ w j a hw hj6 cw_ua_s cw_in_s cw_up_s (hin9 10 j (by omega) (by omega) (by decide)) (fun i hi => hin9 11 (8 * j + i) (by omega) (by omega) (by decide))) hW hS qm_X4_31 qi_X0_init qz_X0 qc_X0_init rfl qp_X0_init.2 ⟨Nat.le_of_ble_eq_true rfl, Nat.le_of_ble_eq_true rfl⟩ hl.1 (Nat.le_of_ble_eq_true rfl) dX4_init_80 ⟨by show 52 + 10 * j + 1 + 9 ≤ 112; omega, by show 350 + 41 * j + 9 + 32 ≤ 596; omega⟩ (fun H locs ad3 hag3 hW hS hz => ?_)
        have hag4 : ∀ f' w' k', cw_P4 P w 24 j f' w' k' = true → ad3 f' w' k' = ad1 f' w' k' := fun f' w' k' hq => (hag3 f' w' k' (cw_in_o hq)).trans (cw_ua_n (fun q => by obtain ⟨rfl, rfl, rfl⟩ := q; exact hqn 9 k' (by omega) (by omega) hq))
        have hAa : ad3 9 w j = a := (hag3 _ _ _ cw_in_s).trans cw_ua_s
        have hFo : ∀ f' w' k', cw_P4 P w 24 j f' w' k' = true → cw_F0 E (cw_up ce1 9 w j (Sum.inr (0, [.null, .int 0, .int 0, .int 0, .int 0, .int 0, .int 0, .int 0, .int 0]))) w j ad3 f' w' k' = ce1 f' w' k' := fun f' w' k' hq => by
          unfold cw_F0
          have hz9 : ¬ (f' = 9 ∧ w' = w ∧ k' = j) := fun q => by obtain ⟨rfl, rfl, rfl⟩ := q; exact hqn 9 k' (by omega) (by omega) hq
          have hz10 : ¬ (f' = 10 ∧ w' = w ∧ k' = j) := fun q => by obtain ⟨rfl, rfl, rfl⟩ := q; exact hqn 10 k' (by omega) (by omega) hq
          have hz11 : ¬ (f' = 11 ∧ w' = w ∧ 8 * j ≤ k' ∧ k' < 8 * j + 8) := fun q => by obtain ⟨rfl, rfl, q1, q2⟩ := q; exact hqn 11 k' (by omega) (by omega) hq
          rw [if_neg (fun q => q.elim (fun q => q.1.elim (fun q1 => hz9 ⟨q1, q.2⟩) (fun q1 => hz10 ⟨q1, q.2⟩)) hz11), cw_up_n hz9]
        refine cw_stq (t := 2) (X := RX0) (ci := 0) (N := 9) (T := TX0) (fs := [.ref (ad3 10 w j), .int 0, .int 0, .int (-1), .int (-1), .int (-1), .int (-1), .int 0, .int 0]) (n := 6) (j := j) (g := g4) C hW hS ((hag4 4 w 0 (hqs 4 (by decide) (by decide))).trans hA4) hAa (by rw [cw_P4_m]; exact cw_P4_of.mpr (Or.inr ⟨rfl, by omega⟩)) ((hFo 4 w 0 (hqs 4 (by decide) (by decide))).trans h4) rfl (by rw [cw_P4_m]; exact cw_P4_of.mpr (Or.inr ⟨rfl, by omega⟩)) (by unfold cw_F0; rw [if_pos (Or.inl ⟨Or.inl rfl, rfl, rfl⟩)]; rfl) rfl hj6 (by decide) dX4_init_83 (fun H locs hW hS => ?_)
        rw [cw_P4_m] at hW
        refine lv_iinc (v := nI (j + 1)) (lv' := [(1, .int (nI (j + 1))), (0, .ref b)]) hx hb dX4_init_84 hl (k := 0) rfl (nI_1 j) (by decide) rfl (fun ls hl => ?_)
        refine lv_goto (tgt := 65) hx hb dX4_init_87 (by decide) ?_
        refine W.widen (k := 52 + 10 * (j + 1)) (n := 350 + 41 * (j + 1)) (by show 52 + 10 * j + 1 + 9 ≤ _; omega) (by show 350 + 41 * j + 9 + 32 ≤ _; omega) ?_
        refine ih (j + 1) (by omega) (by omega) H locs ⟨ad3, _, g3, va_up g4 j (some a), g5, g6, hW, ?_, ⟨(hag4 _ _ _ hq1).trans hA1, (hag4 _ _ _ (hqs 3 (by decide) (by decide))).trans hA3, (hag4 _ _ _ (hqs 4 (by decide) (by decide))).trans hA4, (hag4 _ _ _ (hqs 5 (by decide) (by decide))).trans hA5, (hag4 _ _ _ (hqs 6 (by decide) (by decide))).trans hA6⟩, ⟨?_, ?_, cw_up_s, ?_, ?_⟩, ⟨fun i hi => ?_, fun i hi => ?_, hg5⟩, fun f k h7 hn => ?_, fun f' w' k' hq hne => ?_⟩ hS ls hl
        · intro f' w' k' hq
          exact (hag4 f' w' k' (cw_P4_of.mpr (Or.inl hq))).trans (hag f' w' k' hq)
        · rw [cw_up_n (by omega)]; exact (hFo 1 w 0 hq1).trans h1
        · rw [cw_up_n (by omega)]; exact (hFo 3 w 0 (hqs 3 (by decide) (by decide))).trans h3
        · rw [cw_up_n (by omega)]; exact (hFo 5 w 0 (hqs 5 (by decide) (by decide))).trans h5
        · rw [cw_up_n (by omega)]; exact (hFo 6 w 0 (hqs 6 (by decide) (by decide))).trans h6
        · rw [hag4 7 w i (cw_P4_of.mpr (Or.inr ⟨rfl, by omega⟩))]; exact hg3 i hi
        · by_cases hij : i = j
          · subst hij
            rw [hAa]
            simp [va_up]
          · rw [hag4 9 w i (cw_P4_of.mpr (Or.inr ⟨rfl, by omega⟩)), ← hg4 i (by omega)]
            simp [va_up, hij]
        · rw [cw_up_n (by omega)]
          by_cases hnew : cw_n4 24 j f k
          · have hq9 : cw_P4 P w 24 j f w k = true := cw_P4_of.mpr (Or.inr ⟨rfl, hnew⟩)
            rw [hFo f w k hq9]
            exact (hmd f k h7 hnew).tr (cw_c0_ag (n := 24) (m := j) (fun f k h => hag4 f w k (cw_P4_of.mpr (Or.inr ⟨rfl, h⟩))) h7 hnew)
          · unfold cw_F0
            rw [if_pos (by omega)]
            exact cw_eq.rf
        · rw [cw_up_n (fun q => by obtain ⟨rfl, rfl, rfl⟩ := q; exact hno 4 0 (by omega) hq), hFo f' w' k' (cw_P4_of.mpr (Or.inl hq))]
          exact hold f' w' k' hq hne
  -- the first loop
  have lp1 : ∀ (t j : Nat), j ≤ 24 → 24 - j < t → ∀ (H : Heap) (locs : List Loc), cw_J4 E P ad ce w b a3 a4 a5 a6 j 0 0 H → va_S (bd_A E) s.heap H locs → ∀ ls : Array Slot, lv_has ls 2 [(1, .int (nI j)), (0, .ref b)] → W p l e { frames := 3, cells := 112, slots := 596, locals := 65 } s m args below meth c H locs (4 + 2 * j) (38 + 13 * j) (MQ below (cw_Q E P ad (cw_P4 P w 24 6) (cw_F4 E ce w)) args s 112 596 (bd_A E)) (F0 m 38 ls []) := by
    intro t
    induction t with
    | zero => intro j h1 h2; exact absurd h2 (Nat.not_lt_zero _)
    | succ t ih =>
      intro j hj1 hj2 H locs hJ hS ls hl
      refine lv_iload_n hx hb dX4_init_38 rfl (lv_at hl 0 rfl) ?_
      refine lv_bipush (v := 24) hx hb dX4_init_39 (by decide) ?_
      refine lv_icmp_ge (tgt := 63) hx hb dX4_init_41 (by decide) (fun c41 => ?_) (fun c41 => ?_)
      · obtain rfl : 24 = j := by
          have := (nI_leI (a := 24) (b := j) (by decide) (by omega)).mp c41
          omega
        refine lv_iconst (v := 0) hx hb dX4_init_63 (by decide) ?_
        refine lv_istore_n (lv' := [(1, .int 0), (0, .ref b)]) hx hb dX4_init_64 rfl hl (by decide) rfl (fun ls hl => ?_)
        exact lp2 7 0 (by decide) (by decide) H locs hJ hS ls hl
      · have hj24 : j < 24 := Nat.lt_of_not_le (fun q => c41 ((nI_leI (a := 24) (b := j) (by decide) (by omega)).mpr q))
        obtain ⟨ad1, ce1, g3, g4, g5, g6, hW, hag, ⟨hA1, hA3, hA4, hA5, hA6⟩, ⟨h1, h3, h4, h5, h6⟩, ⟨hg3, hg4, hg5⟩, hmd, hold⟩ := hJ
        have hq1 : cw_P4 P w j 0 1 w 0 = true := cw_P4_of.mpr (Or.inl hp)
        have hqs : ∀ f, 3 ≤ f → f ≤ 6 → cw_P4 P w j 0 f w 0 = true := fun f h1 h2 => cw_P4_of.mpr (Or.inr ⟨rfl, by omega⟩)
        have hqn : ∀ f k, cw_n4 24 6 f k → ¬ cw_n4 j 0 f k → ¬ cw_P4 P w j 0 f w k = true := fun f k h1 h2 q => (cw_P4_of.mp q).elim (hno f k h1) (fun q => h2 q.2)
        refine lv_aload_n hx hb dX4_init_44 rfl (lv_at hl 1 rfl) ?_
        refine cw_get C hW hA1 hq1 h1 inlX4 rfl 0 (by decide) qf_X4_11 (fun _ h => h) rfl dX4_init_45 ?_
        refine lv_iload_n hx hb dX4_init_48 rfl (lv_at hl 0 rfl) ?_
        refine cw_new (ci := 3) (f := 7) (w := w) (q := j) (fs := [.null, .int 0, .int 0, .int 0, .int 0, .int 0, .int 0, .int 0, .int 0]) C hW hS h0 (hqn 7 j (by omega) (by omega)) ⟨by decide, hw, hj24⟩ inlX3 tyX3 tyX3_ok rfl qk_X4_9 qa_X3 qz_X3 (fun i hi => by match i, hi with | 0, _ => rfl | 1, _ => rfl | 2, _ => rfl | 3, _ => rfl | 4, _ => rfl | 5, _ => rfl | 6, _ => rfl | 7, _ => rfl | 8, _ => rfl) ⟨by show 4 + 2 * j + 1 ≤ 112; omega, by show 38 + 13 * j + 9 ≤ 596; omega⟩ dX4_init_49 (fun a H hW hS => ?_)
        refine lv_dup hx hb dX4_init_52 rfl ?_
        have hin7 : ¬ cw_in (cw_P4 P w j 0) 7 w j 8 w j = true := fun q => (cw_in_of q).elim (hqn 8 j (by omega) (by omega)) (fun q => absurd q.1 (by decide))
        refine cw_cN (host := "BandDay") [] [.ref a, .int (nI j), .ref a3] C hao (Nat.le_trans h0 hS.1) (k_X3_init l E _ _ _ w j a cw_ua_s cw_in_s cw_up_s hin7 ⟨by decide, hw, hj24⟩) hW hS (List.mem_of_getElem? (i := 1) rfl) qi_X3_init qz_X3 qc_X3_init rfl qp_X3_init.2 ⟨Nat.le_of_ble_eq_true rfl, Nat.le_of_ble_eq_true rfl⟩ hl.1 (Nat.le_of_ble_eq_true rfl) dX4_init_53 ⟨by show 4 + 2 * j + 1 + 1 ≤ 112; omega, by show 38 + 13 * j + 9 + 4 ≤ 596; omega⟩ (fun H locs ad3 hag3 hW hS hz => ?_)
        have hag4 : ∀ f' w' k', cw_P4 P w j 0 f' w' k' = true → ad3 f' w' k' = ad1 f' w' k' := fun f' w' k' hq => (hag3 f' w' k' (cw_in_o hq)).trans (cw_ua_n (fun q => by obtain ⟨rfl, rfl, rfl⟩ := q; exact hqn 7 k' (by omega) (by omega) hq))
        have hAa : ad3 7 w j = a := (hag3 _ _ _ cw_in_s).trans cw_ua_s
        have hFo : ∀ f' w' k', cw_P4 P w j 0 f' w' k' = true → cw_up (cw_up (cw_up ce1 7 w j (Sum.inr (3, [.null, .int 0, .int 0, .int 0, .int 0, .int 0, .int 0, .int 0, .int 0]))) 8 w j (cw_c0 E ad3 8 w j)) 7 w j (cw_c0 E ad3 7 w j) f' w' k' = ce1 f' w' k' := fun f' w' k' hq => by
          have hz7 : ¬ (f' = 7 ∧ w' = w ∧ k' = j) := fun q => by obtain ⟨rfl, rfl, rfl⟩ := q; exact hqn 7 k' (by omega) (by omega) hq
          have hz8 : ¬ (f' = 8 ∧ w' = w ∧ k' = j) := fun q => by obtain ⟨rfl, rfl, rfl⟩ := q; exact hqn 8 k' (by omega) (by omega) hq
          rw [cw_up_n hz7, cw_up_n hz8, cw_up_n hz7]
        refine cw_stq (t := 1) (X := RX3) (ci := 3) (N := 9) (T := TX3) (fs := [.ref (ad3 8 w j), .int 0, .int 0, .int (-1), .int (-1), .int 0, .int 0, .int 0, .int 0]) (n := 24) (j := j) (g := g3) C hW hS ((hag4 3 w 0 (hqs 3 (by decide) (by decide))).trans hA3) hAa (by rw [cw_P4_n]; exact cw_P4_of.mpr (Or.inr ⟨rfl, by omega⟩)) ((hFo 3 w 0 (hqs 3 (by decide) (by decide))).trans h3) rfl (by rw [cw_P4_n]; exact cw_P4_of.mpr (Or.inr ⟨rfl, by omega⟩)) cw_up_s rfl hj24 (by decide) dX4_init_56 (fun H locs hW hS => ?_)
        rw [cw_P4_n] at hW
        refine lv_iinc (v := nI (j + 1)) (lv' := [(1, .int (nI (j + 1))), (0, .ref b)]) hx hb dX4_init_57 hl (k := 0) rfl (nI_1 j) (by decide) rfl (fun ls hl => ?_)
        refine lv_goto (tgt := 38) hx hb dX4_init_60 (by decide) ?_
        refine W.widen (k := 4 + 2 * (j + 1)) (n := 38 + 13 * (j + 1)) (by show 4 + 2 * j + 1 + 1 ≤ _; omega) (by show 38 + 13 * j + 9 + 4 ≤ _; omega) ?_
        refine ih (j + 1) (by omega) (by omega) H locs ⟨ad3, _, va_up g3 j (some a), g4, g5, g6, hW, ?_, ⟨(hag4 _ _ _ hq1).trans hA1, (hag4 _ _ _ (hqs 3 (by decide) (by decide))).trans hA3, (hag4 _ _ _ (hqs 4 (by decide) (by decide))).trans hA4, (hag4 _ _ _ (hqs 5 (by decide) (by decide))).trans hA5, (hag4 _ _ _ (hqs 6 (by decide) (by decide))).trans hA6⟩, ⟨?_, cw_up_s, ?_, ?_, ?_⟩, ⟨fun i hi => ?_, fun i hi => absurd hi (Nat.not_lt_zero _), hg5⟩, fun f k h7 hn => ?_, fun f' w' k' hq hne => ?_⟩ hS ls hl
        · intro f' w' k' hq
          exact (hag4 f' w' k' (cw_P4_of.mpr (Or.inl hq))).trans (hag f' w' k' hq)
        · rw [cw_up_n (by omega)]; exact (hFo 1 w 0 hq1).trans h1
        · rw [cw_up_n (by omega)]; exact (hFo 4 w 0 (hqs 4 (by decide) (by decide))).trans h4
        · rw [cw_up_n (by omega)]; exact (hFo 5 w 0 (hqs 5 (by decide) (by decide))).trans h5
        · rw [cw_up_n (by omega)]; exact (hFo 6 w 0 (hqs 6 (by decide) (by decide))).trans h6
        · by_cases hij : i = j
          · subst hij
            rw [hAa]
            simp [va_up]
          · rw [hag4 7 w i (cw_P4_of.mpr (Or.inr ⟨rfl, by omega⟩)), ← hg3 i (by omega)]
            simp [va_up, hij]
        · rw [cw_up_n (by omega)]
          by_cases hnew : cw_n4 j 0 f k
          · have hq9 : cw_P4 P w j 0 f w k = true := cw_P4_of.mpr (Or.inr ⟨rfl, hnew⟩)
            rw [hFo f w k hq9]
            exact (hmd f k h7 hnew).tr (cw_c0_ag (n := j) (m := 0) (fun f k h => hag4 f w k (cw_P4_of.mpr (Or.inr ⟨rfl, h⟩))) h7 hnew)
          · obtain ⟨rfl, rfl⟩ | ⟨rfl, rfl⟩ : (f = 7 ∧ k = j) ∨ (f = 8 ∧ k = j) := by omega
            · rw [cw_up_s]; exact cw_eq.rf
            · rw [cw_up_n (by omega), cw_up_s]; exact cw_eq.rf
        · rw [cw_up_n (fun q => by obtain ⟨rfl, rfl, rfl⟩ := q; exact hno 3 0 (by omega) hq), hFo f' w' k' (cw_P4_of.mpr (Or.inl hq))]
          exact hold f' w' k' hq hne
  exact lp1 25 0 (by decide) (by decide) H locs hJ0 hS ls hl
