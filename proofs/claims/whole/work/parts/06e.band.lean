/-! A BAND IS MADE, with its eight chairs -/
theorem cw_rA {E : bd_E} {t n q : Nat} {g g' : Nat → Option Nat} {H : Heap} (h : ∀ i, i < n → g i = g' i) (ha : va_at (bd_eD E) vwCl (q, bd_rA E t n g) H) : va_at (bd_eD E) vwCl (q, bd_rA E t n g') H := by
  have e : (fun j : Fin n => va_rf (g j.val)) = (fun j : Fin n => va_rf (g' j.val)) := funext fun j => by rw [h j.val j.isLt]
  have e2 : vp_cell (bd_eK E t) (n, .inr (.inr (.inr (.inr g)))) = vp_cell (bd_eK E t) (n, .inr (.inr (.inr (.inr g')))) := by
    rw [vp_cell_q, vp_cell_q]
    unfold arrV
    rw [e]
  show H[q]? = some (vp_cell (bd_eK E t) (n, .inr (.inr (.inr (.inr g')))))
  rw [← e2]
  exact ha
theorem cw_W.eqA {E : bd_E} {P : Nat → Nat → Nat → Bool} {ad : Nat → Nat → Nat → Nat} {ce ce' : Nat → Nat → Nat → va_E} {H : Heap} (h : cw_W E P ad ce H) (he : ∀ f w k, P f w k = true → ce f w k = ce' f w k ∨ ∃ t n g g', ce f w k = bd_rA E t n g ∧ ce' f w k = bd_rA E t n g' ∧ ∀ i, i < n → g i = g' i) : cw_W E P ad ce' H :=
  ⟨h.1, h.2.1, h.2.2.1, fun f w k hp => by
    have h9 := h.2.2.2 f w k hp
    rcases he f w k hp with h1 | ⟨t, n, g, g', h1, h2, h3⟩
    · rw [← h1]; exact h9
    · rw [h1] at h9
      rw [h2]
      exact cw_rA h3 h9⟩
def cw_P0 (P : Nat → Nat → Nat → Bool) (w k n : Nat) : Nat → Nat → Nat → Bool := fun f' w' k' => P f' w' k' || decide ((f' = 10 ∧ w' = w ∧ k' = k) ∨ (f' = 11 ∧ w' = w ∧ 8 * k ≤ k' ∧ k' < 8 * k + n))
def cw_F0 (E : bd_E) (ce : Nat → Nat → Nat → va_E) (w k : Nat) (a : Nat → Nat → Nat → Nat) : Nat → Nat → Nat → va_E := fun f' w' k' => if ((f' = 9 ∨ f' = 10) ∧ w' = w ∧ k' = k) ∨ (f' = 11 ∧ w' = w ∧ 8 * k ≤ k' ∧ k' < 8 * k + 8) then cw_c0 E a f' w' k' else ce f' w' k'
theorem cw_P0_of {P : Nat → Nat → Nat → Bool} {w k n f' w' k' : Nat} : cw_P0 P w k n f' w' k' = true ↔ P f' w' k' = true ∨ (f' = 10 ∧ w' = w ∧ k' = k) ∨ (f' = 11 ∧ w' = w ∧ 8 * k ≤ k' ∧ k' < 8 * k + n) := by
  simp only [cw_P0, Bool.or_eq_true, decide_eq_true_eq]
theorem cw_P0_0 {P : Nat → Nat → Nat → Bool} {w k : Nat} : cw_in P 10 w k = cw_P0 P w k 0 := by
  funext f' w' k'
  refine Bool.eq_iff_iff.mpr ?_
  rw [cw_P0_of]
  simp only [cw_in, Bool.or_eq_true, decide_eq_true_eq]
  constructor
  · rintro (h | h)
    · exact Or.inl h
    · exact Or.inr (Or.inl h)
  · rintro (h | h | h)
    · exact Or.inl h
    · exact Or.inr h
    · exact absurd h.2.2 (by omega)
theorem cw_P0_1 {P : Nat → Nat → Nat → Bool} {w k j : Nat} : cw_in (cw_P0 P w k j) 11 w (8 * k + j) = cw_P0 P w k (j + 1) := by
  funext f' w' k'
  refine Bool.eq_iff_iff.mpr ?_
  rw [cw_P0_of]
  simp only [cw_in, Bool.or_eq_true, decide_eq_true_eq, cw_P0_of]
  constructor
  · rintro ((h | h | h) | h)
    · exact Or.inl h
    · exact Or.inr (Or.inl h)
    · exact Or.inr (Or.inr ⟨h.1, h.2.1, h.2.2.1, by omega⟩)
    · exact Or.inr (Or.inr ⟨h.1, h.2.1, by omega, by omega⟩)
  · rintro (h | h | h)
    · exact Or.inl (Or.inl h)
    · exact Or.inl (Or.inr (Or.inl h))
    · by_cases h2 : k' < 8 * k + j
      · exact Or.inl (Or.inr (Or.inr ⟨h.1, h.2.1, h.2.2.1, h2⟩))
      · exact Or.inr ⟨h.1, h.2.1, by omega⟩
abbrev cw_ch : va_E := .inr (1, [.int 0, .int (-1), .int (-1)])
abbrev cw_bn (a : Nat) : va_E := .inr (0, [.ref a, .int 0, .int 0, .int (-1), .int (-1), .int (-1), .int (-1), .int 0, .int 0])
/-- in the loop over the chairs -/
def cw_J0 (E : bd_E) (P : Nat → Nat → Nat → Bool) (ad : Nat → Nat → Nat → Nat) (ce : Nat → Nat → Nat → va_E) (w k b a10 j : Nat) (H : Heap) : Prop := ∃ (ad1 : Nat → Nat → Nat → Nat) (ce1 : Nat → Nat → Nat → va_E) (g : Nat → Option Nat), cw_W E (cw_P0 P w k j) ad1 ce1 H ∧ (∀ f w k, P f w k = true → ad1 f w k = ad f w k) ∧ ad1 9 w k = b ∧ ad1 10 w k = a10 ∧ ce1 9 w k = cw_bn a10 ∧ ce1 10 w k = bd_rA E 3 8 g ∧ (∀ i, i < j → g i = some (ad1 11 w (8 * k + i))) ∧ (∀ i, i < j → ce1 11 w (8 * k + i) = cw_ch) ∧ ∀ f' w' k', P f' w' k' = true → ¬ (f' = 9 ∧ w' = w ∧ k' = k) → ce1 f' w' k' = ce f' w' k'
set_option maxHeartbeats 4000000 in
set_option maxRecDepth 100000 in
theorem k_X0_init (l : Launch) (E : bd_E) (P : Nat → Nat → Nat → Bool) (ad : Nat → Nat → Nat → Nat) (ce : Nat → Nat → Nat → va_E) (w k b : Nat) (hw : w < 2) (hk : k < 6) (ha : ad 9 w k = b) (hp : P 9 w k = true) (he : ce 9 w k = .inr (0, [.null, .int 0, .int 0, .int 0, .int 0, .int 0, .int 0, .int 0, .int 0])) (hn10 : ¬ P 10 w k = true) (hn11 : ∀ i, i < 8 → ¬ P 11 w (8 * k + i) = true) :
    cw_Ct l yX0_init cX0_init 2 2 44 9 32 E [.ref b] P ad ce (cw_P0 P w k 8) (cw_F0 E ce w k) := by
  refine cw_open RX0 rfl rfl (by decide) (Nat.le_of_ble_eq_true rfl) ?_
  intro p e s m args below meth c ls C hao h0 hin hr hlk hS hW hl
  have hx := C.1.1
  have hb := C.1.2.1
  have hl : lv_has ls 2 [(0, .ref b)] := hl
  refine lv_aload_n hx hb dX0_init_0 rfl (lv_at hl 0 rfl) ?_
  refine cw_obj C hl.1 qm_X0_3 (Nat.le_of_ble_eq_true rfl) (Nat.le_of_ble_eq_true rfl) dX0_init_1 ?_
  refine lv_aload_n hx hb dX0_init_4 rfl (lv_at hl 0 rfl) ?_
  refine lv_bipush (v := 8) hx hb dX0_init_5 (by decide) ?_
  refine cw_newq (n := 8) (t := 3) (X := RX1) (f := 10) (w := w) (q := k) C hao.2.2 rfl hW hS h0 hn10 ⟨by decide, hw, hk⟩ qk_X0_9 (by decide) ⟨Nat.le_of_ble_eq_true rfl, Nat.le_of_ble_eq_true rfl⟩ dX0_init_7 (fun a10 H hW hS => ?_)
  have n9 : ¬ ((9 : Nat) = 10 ∧ w = w ∧ k = k) := fun h => absurd h.1 (by decide)
  have ha1 : cw_ua ad 10 w k a10 9 w k = b := (cw_ua_n n9).trans ha
  have hp1 : cw_in P 10 w k 9 w k = true := cw_in_o hp
  refine cw_putF C hW hS ha1 hp1 ((cw_up_n n9).trans he) inlX0 tyX0 tyX0_ok nmX0 rfl 0 (by decide) qf_X0_11 (fun _ h => h) rfl hin rfl rfl rfl (Nat.le_of_ble_eq_true rfl) dX0_init_10 (fun H locs hW hS => ?_)
  refine lv_aload_n hx hb dX0_init_13 rfl (lv_at hl 0 rfl) ?_
  refine lv_iconst (v := (-1)) hx hb dX0_init_14 (by decide) ?_
  refine cw_put C hW hS ha1 hp1 cw_up_s inlX0 tyX0 tyX0_ok nmX0 rfl 3 (by decide) qf_X0_17 (fun _ h => h) rfl rfl rfl (Nat.le_of_ble_eq_true rfl) dX0_init_15 (fun H locs hW hS => ?_)
  refine lv_aload_n hx hb dX0_init_18 rfl (lv_at hl 0 rfl) ?_
  refine lv_iconst (v := (-1)) hx hb dX0_init_19 (by decide) ?_
  refine cw_put C hW hS ha1 hp1 cw_up_s inlX0 tyX0 tyX0_ok nmX0 rfl 4 (by decide) qf_X0_21 (fun _ h => h) rfl rfl rfl (Nat.le_of_ble_eq_true rfl) dX0_init_20 (fun H locs hW hS => ?_)
  refine lv_aload_n hx hb dX0_init_23 rfl (lv_at hl 0 rfl) ?_
  refine lv_iconst (v := (-1)) hx hb dX0_init_24 (by decide) ?_
  refine cw_put C hW hS ha1 hp1 cw_up_s inlX0 tyX0 tyX0_ok nmX0 rfl 5 (by decide) qf_X0_24 (fun _ h => h) rfl rfl rfl (Nat.le_of_ble_eq_true rfl) dX0_init_25 (fun H locs hW hS => ?_)
  refine lv_aload_n hx hb dX0_init_28 rfl (lv_at hl 0 rfl) ?_
  refine lv_iconst (v := (-1)) hx hb dX0_init_29 (by decide) ?_
  refine cw_put C hW hS ha1 hp1 cw_up_s inlX0 tyX0 tyX0_ok nmX0 rfl 6 (by decide) qf_X0_27 (fun _ h => h) rfl rfl rfl (Nat.le_of_ble_eq_true rfl) dX0_init_30 (fun H locs hW hS => ?_)
  refine lv_iconst (v := 0) hx hb dX0_init_33 (by decide) ?_
  refine lv_istore_n (lv' := [(1, .int 0), (0, .ref b)]) hx hb dX0_init_34 rfl hl (by decide) rfl (fun ls hl => ?_)
  have lp : ∀ (t j : Nat), j ≤ 8 → 8 - j < t → ∀ (H : Heap) (locs : List Loc), cw_J0 E P ad ce w k b a10 j H → va_S (bd_A E) s.heap H locs → ∀ ls : Array Slot, lv_has ls 2 [(1, .int (nI j)), (0, .ref b)] → W p l e { frames := 2, cells := 9, slots := 32, locals := 44 } s m args below meth c H locs (1 + j) (8 + 3 * j) (MQ below (cw_Q E P ad (cw_P0 P w k 8) (cw_F0 E ce w k)) args s 9 32 (bd_A E)) (F0 m 35 ls []) := by
    intro t
    induction t with
    | zero => intro j h1 h2; exact absurd h2 (Nat.not_lt_zero _)
    | succ t ih =>
      intro j hj1 hj2 H locs hJ hS ls hl
      obtain ⟨ad1, ce1, g, hW, hag, hA9, hA10, h9, h10, hg, h11, hold⟩ := hJ
      refine lv_iload_n hx hb dX0_init_35 rfl (lv_at hl 0 rfl) ?_
      refine lv_bipush (v := 8) hx hb dX0_init_36 (by decide) ?_
      refine lv_icmp_ge (tgt := 60) hx hb dX0_init_38 (by decide) (fun c38 => ?_) (fun c38 => ?_)
      · obtain rfl : 8 = j := by
          have := (nI_leI (a := 8) (b := j) (by decide) (by omega)).mp c38
          omega
        refine cw_rv (P0 := P) (ad0 := ad) C hr hlk hag (hW.eqA (fun f' w' k' hq => ?_)) hS (Nat.le_of_ble_eq_true rfl) (Nat.le_of_ble_eq_true rfl) dX0_init_60
        unfold cw_F0
        by_cases c1 : f' = 9 ∧ w' = w ∧ k' = k
        · obtain ⟨rfl, rfl, rfl⟩ := c1
          left
          rw [if_pos (Or.inl ⟨Or.inl rfl, rfl, rfl⟩), h9]
          show _ = (Sum.inr (0, [.ref (ad1 10 w' k'), .int 0, .int 0, .int (-1), .int (-1), .int (-1), .int (-1), .int 0, .int 0]) : va_E)
          rw [hA10]
        · by_cases c2 : f' = 10 ∧ w' = w ∧ k' = k
          · obtain ⟨rfl, rfl, rfl⟩ := c2
            right
            refine ⟨3, 8, g, fun i => some (ad1 11 w' (8 * k' + i)), h10, ?_, hg⟩
            rw [if_pos (Or.inl ⟨Or.inr rfl, rfl, rfl⟩)]
            rfl
          · left
            rcases cw_P0_of.mp hq with hq2 | hq2 | hq2
            · have c3 : ¬ (f' = 11 ∧ w' = w ∧ 8 * k ≤ k' ∧ k' < 8 * k + 8) := fun q => by
                obtain ⟨rfl, rfl, q1, q2⟩ := q
                exact hn11 (k' - 8 * k) (by omega) (by rw [show 8 * k + (k' - 8 * k) = k' by omega]; exact hq2)
              rw [if_neg (fun q => q.elim (fun q => q.1.elim (fun q1 => c1 ⟨q1, q.2⟩) (fun q1 => c2 ⟨q1, q.2⟩)) c3), hold _ _ _ hq2 c1]
            · exact absurd hq2 c2
            · rw [if_pos (Or.inr hq2)]
              obtain ⟨rfl, rfl, q1, q2⟩ := hq2
              have h8 := h11 (k' - 8 * k) (by omega)
              rw [show 8 * k + (k' - 8 * k) = k' by omega] at h8
              rw [h8]
              rfl
      · have hj8 : j < 8 := Nat.lt_of_not_le (fun q => c38 ((nI_leI (a := 8) (b := j) (by decide) (by omega)).mpr q))
        have hq9 : cw_P0 P w k j 9 w k = true := cw_P0_of.mpr (Or.inl hp)
        have hq10 : cw_P0 P w k j 10 w k = true := cw_P0_of.mpr (Or.inr (Or.inl ⟨rfl, rfl, rfl⟩))
        have hqn : ¬ cw_P0 P w k j 11 w (8 * k + j) = true := fun q => by
          rcases cw_P0_of.mp q with q | q | q
          · exact hn11 j hj8 q
          · exact absurd q.1 (by decide)
          · omega
        have n11 : ∀ f', f' ≠ 11 → ∀ k', ¬ (f' = 11 ∧ w = w ∧ k' = 8 * k + j) := fun f' h k' q => h q.1
        refine lv_aload_n hx hb dX0_init_41 rfl (lv_at hl 1 rfl) ?_
        refine cw_get C hW hA9 hq9 h9 inlX0 rfl 0 (by decide) qf_X0_11 (fun _ h => h) rfl dX0_init_42 ?_
        refine lv_iload_n hx hb dX0_init_45 rfl (lv_at hl 0 rfl) ?_
        refine cw_new (ci := 1) (f := 11) (w := w) (q := 8 * k + j) (fs := [.int 0, .int 0, .int 0]) C hW hS h0 hqn ⟨by decide, hw, show 8 * k + j < 48 by omega⟩ inlX1 tyX1 tyX1_ok rfl qk_X0_9 qa_X1 qz_X1 (fun i hi => by match i, hi with | 0, _ => rfl | 1, _ => rfl | 2, _ => rfl) ⟨by show 1 + j + 1 ≤ 9; omega, by show 8 + 3 * j + 3 ≤ 32; omega⟩ dX0_init_46 (fun a H hW hS => ?_)
        refine lv_dup hx hb dX0_init_49 rfl ?_
        refine cw_cN (host := "BandDay") [] [.ref a, .int (nI j), .ref a10] C hao (Nat.le_trans h0 hS.1) (k_X1_init l E _ _ _ w (8 * k + j) a cw_ua_s cw_in_s cw_up_s) hW hS (List.mem_of_getElem? (i := 0) rfl) qi_X1_init qz_X1 qc_X1_init rfl qp_X1_init.2 ⟨Nat.le_of_ble_eq_true rfl, Nat.le_of_ble_eq_true rfl⟩ hl.1 (Nat.le_of_ble_eq_true rfl) dX0_init_50 ⟨by show 1 + j + 1 + 0 ≤ 9; omega, by show 8 + 3 * j + 3 + 0 ≤ 32; omega⟩ (fun H locs ad3 hag3 hW hS hz => ?_)
        have hA10' : ad3 10 w k = a10 := (hag3 10 w k (cw_in_o hq10)).trans ((cw_ua_n (n11 10 (by decide) k)).trans hA10)
        have hAa : ad3 11 w (8 * k + j) = a := (hag3 _ _ _ cw_in_s).trans cw_ua_s
        refine cw_stq (t := 3) (X := RX1) (ci := 1) (N := 3) (T := TX1) (fs := [.int 0, .int (-1), .int (-1)]) (n := 8) (j := j) (g := g) C hW hS hA10' hAa (cw_in_o hq10) ((cw_up_n (n11 10 (by decide) k)).trans ((cw_up_n (n11 10 (by decide) k)).trans h10)) rfl cw_in_s cw_up_s rfl hj8 (by decide) dX0_init_53 (fun H locs hW hS => ?_)
        refine lv_iinc (v := nI (j + 1)) (lv' := [(1, .int (nI (j + 1))), (0, .ref b)]) hx hb dX0_init_54 hl (k := 0) rfl (nI_1 j) (by decide) rfl (fun ls hl => ?_)
        refine lv_goto (tgt := 35) hx hb dX0_init_57 (by decide) ?_
        refine W.widen (k := 1 + (j + 1)) (n := 8 + 3 * (j + 1)) (by show 1 + j + 1 + 0 ≤ _; omega) (by show 8 + 3 * j + 3 + 0 ≤ _; omega) ?_
        have n10 : ∀ f', f' ≠ 10 → ∀ w' k', ¬ (f' = 10 ∧ w' = w ∧ k' = k) := fun f' h w' k' q => h q.1
        refine ih (j + 1) (by omega) (by omega) H locs ⟨ad3, _, va_up g j (some a), (by rw [← cw_P0_1]; exact hW), ?_, ?_, hA10', ?_, cw_up_s, ?_, ?_, ?_⟩ hS ls hl
        · intro f' w' k' hq
          exact (hag3 f' w' k' (cw_in_o (cw_P0_of.mpr (Or.inl hq)))).trans ((cw_ua_n (fun q => by obtain ⟨rfl, rfl, rfl⟩ := q; exact hn11 j hj8 hq)).trans (hag f' w' k' hq))
        · exact (hag3 9 w k (cw_in_o hq9)).trans ((cw_ua_n (n11 9 (by decide) k)).trans hA9)
        · exact (cw_up_n (n10 9 (by decide) w k)).trans ((cw_up_n (n11 9 (by decide) k)).trans ((cw_up_n (n11 9 (by decide) k)).trans h9))
        · intro i hi
          by_cases hij : i = j
          · subst hij
            rw [hAa]
            simp [va_up]
          · have h8 : ad3 11 w (8 * k + i) = ad1 11 w (8 * k + i) := (hag3 11 w (8 * k + i) (cw_in_o (cw_P0_of.mpr (Or.inr (Or.inr ⟨rfl, rfl, by omega, by omega⟩))))).trans (cw_ua_n (fun q => by omega))
            rw [h8, ← hg i (by omega)]
            simp [va_up, hij]
        · intro i hi
          rw [cw_up_n (n10 11 (by decide) w (8 * k + i))]
          by_cases hij : i = j
          · subst hij
            exact cw_up_s
          · rw [cw_up_n (fun q => by omega), cw_up_n (fun q => by omega)]
            exact h11 i (by omega)
        · intro f' w' k' hq hne
          rw [cw_up_n (fun q => by obtain ⟨rfl, rfl, rfl⟩ := q; exact hn10 hq), cw_up_n (fun q => by obtain ⟨rfl, rfl, rfl⟩ := q; exact hn11 j hj8 hq), cw_up_n (fun q => by obtain ⟨rfl, rfl, rfl⟩ := q; exact hn11 j hj8 hq)]
          exact hold f' w' k' hq hne
  refine lp 9 0 (by decide) (by decide) H locs ⟨_, _, fun _ => none, (by rw [← cw_P0_0]; exact hW), fun f' w' k' hq => cw_ua_n (fun q => by obtain ⟨rfl, rfl, rfl⟩ := q; exact hn10 hq), ha1, cw_ua_s, cw_up_s, ?_, fun i hi => absurd hi (Nat.not_lt_zero _), fun i hi => absurd hi (Nat.not_lt_zero _), fun f' w' k' hq hne => ?_⟩ hS ls hl
  · have n10 : ¬ ((10 : Nat) = 9 ∧ w = w ∧ k = k) := fun h => absurd h.1 (by decide)
    rw [cw_up_n n10, cw_up_n n10, cw_up_n n10, cw_up_n n10, cw_up_n n10]
    exact cw_up_s
  · rw [cw_up_n hne, cw_up_n hne, cw_up_n hne, cw_up_n hne, cw_up_n hne, cw_up_n (fun q => by obtain ⟨rfl, rfl, rfl⟩ := q; exact hn10 hq)]
