/-! THE DEPUTIES, in both -/
def rl_cnt (P : Nat → Bool) : Nat → Int32
  | 0 => 0
  | i + 1 => if P i = true then rl_cnt P i + 1 else rl_cnt P i
theorem rl_cnt_c {P Q : Nat → Bool} : ∀ i, (∀ k, k < i → P k = Q k) → rl_cnt P i = rl_cnt Q i
  | 0, _ => rfl
  | i + 1, h => by rw [rl_cnt, rl_cnt, h i (by omega), rl_cnt_c i (fun k hk => h k (by omega))]
theorem rl_cnt_n (Q : Nat → Prop) [DecidablePred Q] {i : Nat} (h : ¬ Q i) : rl_cnt (fun k => decide (Q k)) (i + 1) = rl_cnt (fun k => decide (Q k)) i := by rw [rl_cnt, decide_eq_false h, if_neg Bool.false_ne_true]
theorem rl_cnt_p (Q : Nat → Prop) [DecidablePred Q] {i : Nat} (h : Q i) : rl_cnt (fun k => decide (Q k)) (i + 1) = rl_cnt (fun k => decide (Q k)) i + 1 := by rw [rl_cnt, decide_eq_true h, if_pos rfl]
/-- what a band's turn begins with: class x at w, reference y at s -/
def rl_H (x : bd_M) (w : Nat) (y : bd_M) (s n b zb : Nat) : Prop := n ≤ 24 ∧ zb ≤ 8 ∧ (∀ k, k < zb → x 11 w (8 * b + k) = y 23 s (8 * b + k)) ∧ (∀ k, k < zb → ry_mv n (x 11 w (8 * b + k))) ∧ (∀ k, k < zb → ∀ j, j < zb → x 11 w (8 * b + k) = x 11 w (8 * b + j) → ¬ x 11 w (8 * b + k) = (-1) → k = j) ∧
  (∀ k, k < zb → x 10 w (8 * b + k) = y 15 0 (8 * b + k) ∧ ¬ y 15 0 (8 * b + k) < 0 ∧ (y 15 0 (8 * b + k)).toNatClampNeg < 4) ∧ (∀ p, p < n → ∀ j, j < 4 → x (j + 1000) w p = y 13 0 (4 * p + j) ∧ ¬ y 13 0 (4 * p + j) < 0) ∧ (∀ p, p < n → x 0 w p = y 19 s p ∧ x 1 w p = y 20 s p ∧ ¬ x 1 w p < 0 ∧ x 6 w p = y 29 s p)
abbrev rl_X (x : bd_M) (w n b zb i : Nat) : bd_M := kx_sd (rl_A x w n b zb) w n b i
abbrev rl_Y (y : bd_M) (s n b zb i : Nat) : bd_M × Int32 × Int32 := ry_pC (ry_pA y s b zb) s n b zb i
def rl_I (x : bd_M) (w : Nat) (y : bd_M) (s n b zb i : Nat) : Prop :=
  (∀ k, k < zb → rl_X x w n b zb i 12 w (8 * b + k) = (rl_Y y s n b zb i).1 24 s (8 * b + k)) ∧
  (∀ p, p < n → (rl_X x w n b zb i 7 w p = 0 ↔ ∀ k, k < zb → ¬ rl_X x w n b zb i 12 w (8 * b + k) = nI p)) ∧
  (∀ p, p < n → rl_X x w n b zb i 7 w p = 0 → x 6 w p = (rl_Y y s n b zb i).1 29 s p) ∧
  (∀ k, k < zb → i ≤ k → rl_X x w n b zb i 12 w (8 * b + k) = rl_own x w (8 * b + k)) ∧
  (∀ k, k < zb → (¬ rl_own x w (8 * b + k) = (-1) → rl_X x w n b zb i 12 w (8 * b + k) = rl_own x w (8 * b + k)) ∧ (rl_own x w (8 * b + k) = (-1) → rl_X x w n b zb i 12 w (8 * b + k) = (-1) ∨ ∃ p, p < n ∧ rl_X x w n b zb i 12 w (8 * b + k) = nI p ∧ x 1 w p = 0)) ∧
  ((rl_Y y s n b zb i).2.1 = rl_cnt (fun k => decide (rl_own x w (8 * b + k) = (-1) ∧ ¬ rl_X x w n b zb i 12 w (8 * b + k) = (-1))) i ∧ (rl_Y y s n b zb i).2.2 = rl_cnt (fun k => decide (rl_X x w n b zb i 12 w (8 * b + k) = (-1))) i) ∧
  (∀ p, p < n → (rl_Y y s n b zb i).1 29 s p = y 29 s p + rl_cnt (fun k => decide (rl_own x w (8 * b + k) = (-1) ∧ rl_X x w n b zb i 12 w (8 * b + k) = nI p)) i ∧ (rl_Y y s n b zb i).1 22 s p = y 22 s p + rl_cnt (fun k => decide (rl_own x w (8 * b + k) = (-1) ∧ rl_X x w n b zb i 12 w (8 * b + k) = nI p)) i) ∧
  (∀ k, k < zb → ∀ j, j < zb → rl_X x w n b zb i 12 w (8 * b + k) = rl_X x w n b zb i 12 w (8 * b + j) → ¬ rl_X x w n b zb i 12 w (8 * b + k) = (-1) → k = j)
theorem rl_own_pA1 {x y : bd_M} {w s n b zb k : Nat} (h : rl_H x w y s n b zb) (hk : k < zb) : rl_own x w (8 * b + k) = ry_pA1 y s (8 * b + k) := by
  obtain ⟨hn, hz, h1, h2, h3, h4, h5, h6⟩ := h
  unfold rl_own ry_pA1
  rw [← h1 k hk]
  by_cases e : x 11 w (8 * b + k) = (-1)
  · rw [if_pos e, if_pos e]
  · rw [if_neg e, if_neg e, (h6 _ (rl_mvI (h2 k hk) e).2).2.1]
theorem rl_X_f {x : bd_M} {w n b zb i f w' k' : Nat} (h : f ≠ 7) (h2 : f ≠ 12) : rl_X x w n b zb i f w' k' = x f w' k' := by
  show kx_sd _ w n b i f w' k' = _
  rw [kx_sd_f h h2, rl_A_f h h2]
theorem rl_Y_f {y : bd_M} {s n b zb i f w' k' : Nat} (h : f ≠ 24) (h2 : f ≠ 29) (h3 : f ≠ 22) : (rl_Y y s n b zb i).1 f w' k' = y f w' k' := by
  show (ry_pC _ s n b zb i).1 f w' k' = _
  rw [ry_pC_f h h2 h3, ry_pA_f h]
theorem rl_skill {x y : bd_M} {w s n b zb p k : Nat} (h : rl_H x w y s n b zb) (hp : p < n) (hk : k < zb) : kx_skill x w p (x 10 w (8 * b + k)) = y 13 0 (4 * p + (y 15 0 (8 * b + k)).toNatClampNeg) := by
  obtain ⟨hn, hz, h1, h2, h3, h4, h5, h6⟩ := h
  obtain ⟨a1, a2, a3⟩ := h4 k hk
  unfold kx_skill
  rw [a1, if_neg a2, if_neg (fun q => ?_), (h5 p hp _ a3).1]
  rw [bd_tn a2] at q
  have := (nI_leI (a := 4) (b := (y 15 0 (8 * b + k)).toNatClampNeg) (by decide) (by omega)).mp q
  omega
theorem rl_who {x y : bd_M} {w s n b zb i : Nat} (h : rl_H x w y s n b zb) (hI : rl_I x w y s n b zb i) (hi : i < zb) : kx_who (rl_X x w n b zb i) w n (8 * b + i) = ry_who (rl_Y y s n b zb i).1 s n b zb (8 * b + i) ∧ (kx_who (rl_X x w n b zb i) w n (8 * b + i) = (-1) ∨ ∃ q, q < n ∧ kx_who (rl_X x w n b zb i) w n (8 * b + i) = nI q ∧ x 1 w q = 0 ∧ rl_X x w n b zb i 7 w q = 0) := by
  have h' := h
  obtain ⟨hn, hz, h1, h2, h3, h4, h5, h6⟩ := h'
  obtain ⟨I1, I2, I3, I4, I5, I6, I7, I8⟩ := hI
  have e15 : (rl_Y y s n b zb i).1 15 0 (8 * b + i) = y 15 0 (8 * b + i) := rl_Y_f (by decide) (by decide) (by decide)
  have elim : kx_lim (rl_X x w n b zb i) w n (8 * b + i) = ry_lim (rl_Y y s n b zb i).1 s (8 * b + i) := by
    unfold kx_lim ry_lim
    rw [rl_X_f (f := 11) (by decide) (by decide), rl_Y_f (f := 23) (by decide) (by decide) (by decide), ← h1 i hi, rl_Y_f (f := 15) (by decide) (by decide) (by decide), rl_Y_f (f := 13) (by decide) (by decide) (by decide)]
    by_cases e : x 11 w (8 * b + i) = (-1)
    · rw [if_neg (fun q => (rl_mvn (h2 i hi) hn).mp q e), if_pos e]
    · rw [if_pos ((rl_mvn (h2 i hi) hn).mpr e), if_neg e]
      have hs := rl_skill h (rl_mvI (h2 i hi) e).2 hi
      have hs2 : kx_skill (rl_X x w n b zb i) w (x 11 w (8 * b + i)).toNatClampNeg (rl_X x w n b zb i 10 w (8 * b + i)) = kx_skill x w (x 11 w (8 * b + i)).toNatClampNeg (x 10 w (8 * b + i)) := by
        unfold kx_skill
        rw [rl_X_f (f := 10) (by decide) (by decide), rl_X_f (f := (x 10 w (8 * b + i)).toNatClampNeg + 1000) (by omega) (by omega)]
      rw [hs2, hs]
  have key := rl_df (X := rl_X x w n b zb i) (Y := (rl_Y y s n b zb i).1) (w := w) (s := s) (n := n) (b := b) (zb := zb) (k := 8 * b + i) (W := ((rl_Y y s n b zb i).1 15 0 (8 * b + i)).toNatClampNeg) (lim := kx_lim (rl_X x w n b zb i) w n (8 * b + i)) hn
    (fun p hp => by
      rw [e15, rl_Y_f (f := 13) (by decide) (by decide) (by decide), ← rl_skill h hp hi]
      unfold kx_skill
      rw [rl_X_f (f := 10) (by decide) (by decide), rl_X_f (f := (x 10 w (8 * b + i)).toNatClampNeg + 1000) (by omega) (by omega)])
    (fun p hp => by
      rw [e15, rl_Y_f (f := 13) (by decide) (by decide) (by decide)]
      exact (h5 p hp _ (h4 i hi).2.2).2)
    (fun p hp => by
      rw [rl_X_f (f := 1) (by decide) (by decide), rl_Y_f (f := 20) (by decide) (by decide) (by decide)]
      exact ⟨(h6 p hp).2.1, (h6 p hp).2.2.1⟩)
    (fun p hp => by
      rw [rl_X_f (f := 0) (by decide) (by decide), rl_Y_f (f := 19) (by decide) (by decide) (by decide)]
      exact (h6 p hp).1)
    (fun p hp => by
      rw [I2 p hp, rl_in]
      exact ⟨fun q k hk => by rw [← I1 k hk]; exact q k hk, fun q k hk => by rw [I1 k hk]; exact q k hk⟩)
    (fun p hp h7 => by
      rw [rl_X_f (f := 6) (by decide) (by decide)]
      exact I3 p hp h7) n (Nat.le_refl n)
  have e0 : ry_fi (rl_Y y s n b zb i).1 s b zb ((rl_Y y s n b zb i).1 15 0 (8 * b + i)).toNatClampNeg (kx_lim (rl_X x w n b zb i) w n (8 * b + i)) n = ry_who (rl_Y y s n b zb i).1 s n b zb (8 * b + i) := by
    unfold ry_who
    rw [elim]
  refine ⟨key.1.trans e0, ?_⟩
  have e1 : kx_who (rl_X x w n b zb i) w n (8 * b + i) = _ := key.1
  rcases key.2.2.2 with h9 | ⟨q, hq, h9, hm⟩
  · exact Or.inl (e1.trans h9)
  · refine Or.inr ⟨q, hq, e1.trans h9, ?_, hm.2.1⟩
    have := hm.1
    rw [rl_X_f (f := 1) (by decide) (by decide)] at this
    exact this
/-- one seat on, pointwise -/
theorem rl_step {x y : bd_M} {w s n b zb i : Nat} (h : rl_H x w y s n b zb) (hI : rl_I x w y s n b zb i) (hi : i < zb) (ho : rl_own x w (8 * b + i) = (-1)) : ∃ v : Int32, (v = (-1) ∨ ∃ q, q < n ∧ v = nI q ∧ x 1 w q = 0 ∧ rl_X x w n b zb i 7 w q = 0) ∧ (∀ k', rl_X x w n b zb (i + 1) 12 w k' = if k' = 8 * b + i then v else rl_X x w n b zb i 12 w k') ∧ (∀ p, p < n → (rl_X x w n b zb (i + 1) 7 w p = 0 ↔ rl_X x w n b zb i 7 w p = 0 ∧ ¬ v = nI p)) ∧
    (∀ k', (rl_Y y s n b zb (i + 1)).1 24 s k' = if k' = 8 * b + i then v else (rl_Y y s n b zb i).1 24 s k') ∧ (∀ p, p < n → (rl_Y y s n b zb (i + 1)).1 29 s p = (if v = nI p then (rl_Y y s n b zb i).1 29 s p + 1 else (rl_Y y s n b zb i).1 29 s p) ∧ (rl_Y y s n b zb (i + 1)).1 22 s p = (if v = nI p then (rl_Y y s n b zb i).1 22 s p + 1 else (rl_Y y s n b zb i).1 22 s p)) ∧
    (rl_Y y s n b zb (i + 1)).2.1 = (if v = (-1) then (rl_Y y s n b zb i).2.1 else (rl_Y y s n b zb i).2.1 + 1) ∧ (rl_Y y s n b zb (i + 1)).2.2 = (if v = (-1) then (rl_Y y s n b zb i).2.2 + 1 else (rl_Y y s n b zb i).2.2) := by
  obtain ⟨w1, w2⟩ := rl_who h hI hi
  have hn := h.1
  have x12 : rl_X x w n b zb i 12 w (8 * b + i) = (-1) := (hI.2.2.2.1 i hi (Nat.le_refl i)).trans ho
  have y24 : (rl_Y y s n b zb i).1 24 s (8 * b + i) = (-1) := (hI.1 i hi).symm.trans x12
  have eX : rl_X x w n b zb (i + 1) = kx_sd2 (bd_up (rl_X x w n b zb i) 12 w (8 * b + i) (kx_who (rl_X x w n b zb i) w n (8 * b + i))) w n (8 * b + i) := by
    show kx_sd1 (rl_X x w n b zb i) w n (8 * b + i) = _
    rw [kx_sd1, if_pos x12]
  have eY : rl_Y y s n b zb (i + 1) = ry_pC2 (bd_up (rl_Y y s n b zb i).1 24 s (8 * b + i) (kx_who (rl_X x w n b zb i) w n (8 * b + i))) s (8 * b + i) (rl_Y y s n b zb i).2.1 (rl_Y y s n b zb i).2.2 := by
    show ry_pC1 (rl_Y y s n b zb i) s n b zb (8 * b + i) = _
    rw [ry_pC1, if_pos y24, w1]
  generalize kx_who (rl_X x w n b zb i) w n (8 * b + i) = v at eX eY w2
  generalize rl_X x w n b zb i = X at *
  generalize rl_Y y s n b zb i = Y at *
  rw [eX, eY]
  refine ⟨v, w2, ?_⟩
  unfold kx_sd2 ry_pC2
  rw [bd_up_s, bd_up_s]
  rcases w2 with rfl | ⟨q, hq, rfl, h1, h7⟩
  · rw [if_neg (fun q => absurd (show (-1 : Int32) < 0 by decide) q.1), if_pos rfl]
    refine ⟨fun k' => ?_, fun p hp => ?_, fun k' => ?_, fun p hp => ⟨?_, ?_⟩, rfl, rfl⟩
    · simp [rl_up]
    · rw [bd_up_f (by decide)]
      exact ⟨fun q => ⟨q, fun e => rl_nIm (p := p) (by omega) e.symm⟩, fun q => q.1⟩
    · simp [rl_up]
    · dsimp only
      rw [bd_up_f (by decide), if_neg (fun e => rl_nIm (p := p) (by omega) e.symm)]
    · dsimp only
      rw [bd_up_f (by decide), if_neg (fun e => rl_nIm (p := p) (by omega) e.symm)]
  · have hv : ¬ nI q = (-1) := rl_nIm (by omega)
    have hqq : ∀ p, p < n → (nI q = nI p ↔ p = q) := fun p hp => by rw [nI_eq (by omega) (by omega)]; exact eq_comm
    rw [if_pos ⟨nI_pos (by omega), nI_lt hq (by omega)⟩, if_neg hv, nI_clamp (by omega)]
    refine ⟨fun k' => ?_, fun p hp => ?_, fun k' => ?_, fun p hp => ⟨?_, ?_⟩, (if_neg hv).symm, (if_neg hv).symm⟩
    · rw [bd_up_f (by decide)]
      simp [rl_up]
    · rw [rl_up, bd_up_f (by decide)]
      by_cases e : p = q
      · rw [if_pos ⟨rfl, rfl, e⟩]
        exact ⟨fun a => absurd a (by decide), fun a => absurd ((hqq p hp).mpr e) a.2⟩
      · rw [if_neg (fun a => e a.2.2)]
        exact ⟨fun a => ⟨a, fun c => e ((hqq p hp).mp c)⟩, fun a => a.1⟩
    · dsimp only
      rw [ry_pC3, bd_up_f (by decide), bd_up_f (by decide)]
      simp [rl_up]
    · dsimp only
      rw [ry_pC3, bd_up_f (by decide), rl_up, bd_up_f (by decide), bd_up_f (by decide)]
      by_cases e : p = q
      · subst e; rw [if_pos ⟨rfl, rfl, rfl⟩, if_pos rfl]
      · rw [if_neg (fun a => e a.2.2), if_neg (fun c => e ((hqq p hp).mp c))]
    · dsimp only
      rw [ry_pC3, rl_up, bd_up_f (f' := 24) (by decide), bd_up_s, nI_clamp (by omega), bd_up_f (f' := 22) (by decide), bd_up_f (f' := 22) (by decide), bd_up_f (f' := 22) (by decide), bd_up_f (f' := 22) (by decide)]
      by_cases e : p = q
      · subst e; rw [if_pos ⟨rfl, rfl, rfl⟩, if_pos rfl]
      · rw [if_neg (fun a => e a.2.2), if_neg (fun c => e ((hqq p hp).mp c))]
theorem rl_I0 {x y : bd_M} {w s n b zb : Nat} (h : rl_H x w y s n b zb) : rl_I x w y s n b zb 0 := by
  have h' := h
  obtain ⟨hn, hz, h1, h2, h3, h4, h5, h6⟩ := h'
  have e12 : ∀ k, k < zb → rl_X x w n b zb 0 12 w (8 * b + k) = rl_own x w (8 * b + k) := fun k hk => by
    show rl_A x w n b zb 12 w (8 * b + k) = _
    rw [rl_A_12 h2 hn, if_pos (by omega)]
  refine ⟨fun k hk => ?_, fun p hp => ?_, fun p hp _ => ?_, fun k hk _ => e12 k hk, fun k hk => ⟨fun _ => e12 k hk, fun q => Or.inl ((e12 k hk).trans q)⟩, ⟨rfl, rfl⟩, fun p hp => ⟨?_, ?_⟩, fun k hk j hj e hne => ?_⟩
  · rw [e12 k hk]
    show _ = ry_pA y s b zb 24 s (8 * b + k)
    rw [rl_pA_24, if_pos (by omega), rl_own_pA1 h hk]
  · rw [show rl_X x w n b zb 0 7 w p = rl_A x w n b zb 7 w p from rfl, rl_A_7 h2 hn hp]
    exact ⟨fun q k hk => by rw [e12 k hk]; exact q k hk, fun q k hk => by rw [← e12 k hk]; exact q k hk⟩
  · rw [(h6 p hp).2.2.2]
    exact (ry_pA_f (by decide) zb).symm
  · show ry_pA y s b zb 29 s p = _ + 0
    rw [ry_pA_f (by decide), Int32.add_zero]
  · show ry_pA y s b zb 22 s p = _ + 0
    rw [ry_pA_f (by decide), Int32.add_zero]
  · rw [e12 k hk, e12 j hj] at e
    rw [e12 k hk] at hne
    have a1 := (rl_own_eq hne).1
    have hne2 : ¬ rl_own x w (8 * b + j) = (-1) := fun q => hne (e.trans q)
    have a2 := (rl_own_eq hne2).1
    exact h3 k hk j hj (a1.symm.trans (e.trans a2)) (fun q => hne (a1.trans q))
theorem rl_I1 {x y : bd_M} {w s n b zb i : Nat} (h : rl_H x w y s n b zb) (hI : rl_I x w y s n b zb i) (hi : i < zb) : rl_I x w y s n b zb (i + 1) := by
  have hn := h.1
  by_cases ho : rl_own x w (8 * b + i) = (-1)
  · obtain ⟨v, hv, e12, e7, e24, e29, em, ee⟩ := rl_step h hI hi ho
    obtain ⟨I1, I2, I3, I4, I5, I6, I7, I8⟩ := hI
    have x12 : rl_X x w n b zb i 12 w (8 * b + i) = (-1) := (I4 i hi (Nat.le_refl i)).trans ho
    have eo : ∀ k, ¬ k = i → rl_X x w n b zb (i + 1) 12 w (8 * b + k) = rl_X x w n b zb i 12 w (8 * b + k) := fun k hk => by rw [e12, if_neg (by omega)]
    have ei : rl_X x w n b zb (i + 1) 12 w (8 * b + i) = v := by rw [e12, if_pos rfl]
    refine ⟨fun k hk => ?_, fun p hp => ?_, fun p hp h7 => ?_, fun k hk hki => ?_, fun k hk => ?_, ⟨?_, ?_⟩, fun p hp => ⟨?_, ?_⟩, fun k hk j hj e hne => ?_⟩
    · rw [e12, e24]
      split
      · rfl
      · exact I1 k hk
    · rw [e7 p hp, I2 p hp]
      refine ⟨fun q k hk => ?_, fun q => ⟨fun k hk => ?_, ?_⟩⟩
      · by_cases hki : k = i
        · subst hki; rw [ei]; exact q.2
        · rw [eo k hki]; exact q.1 k hk
      · by_cases hki : k = i
        · subst hki; rw [x12]; exact fun c => rl_nIm (p := p) (by omega) c.symm
        · rw [← eo k hki]; exact q k hk
      · rw [← ei]; exact q i hi
    · obtain ⟨a1, a2⟩ := (e7 p hp).mp h7
      rw [(e29 p hp).1, if_neg a2]
      exact I3 p hp a1
    · rw [eo k (by omega)]; exact I4 k hk (by omega)
    · by_cases hki : k = i
      · subst hki
        refine ⟨fun q => absurd ho q, fun _ => ?_⟩
        rw [ei]
        rcases hv with hv | ⟨q, a1, a2, a3, a4⟩
        · exact Or.inl hv
        · exact Or.inr ⟨q, a1, a2, a3⟩
      · rw [eo k hki]; exact I5 k hk
    · rw [em, I6.1, rl_cnt, rl_cnt_c i (fun k hk => by rw [eo k (by omega)] : ∀ k, k < i → decide (rl_own x w (8 * b + k) = (-1) ∧ ¬ rl_X x w n b zb (i + 1) 12 w (8 * b + k) = (-1)) = decide (rl_own x w (8 * b + k) = (-1) ∧ ¬ rl_X x w n b zb i 12 w (8 * b + k) = (-1)))]
      rw [ei]
      by_cases c : v = (-1) <;> simp [c, ho]
    · rw [ee, I6.2, rl_cnt, rl_cnt_c i (fun k hk => by rw [eo k (by omega)] : ∀ k, k < i → decide (rl_X x w n b zb (i + 1) 12 w (8 * b + k) = (-1)) = decide (rl_X x w n b zb i 12 w (8 * b + k) = (-1)))]
      rw [ei]
      by_cases c : v = (-1) <;> simp [c]
    · rw [(e29 p hp).1, (I7 p hp).1, rl_cnt, rl_cnt_c i (fun k hk => by rw [eo k (by omega)] : ∀ k, k < i → decide (rl_own x w (8 * b + k) = (-1) ∧ rl_X x w n b zb (i + 1) 12 w (8 * b + k) = nI p) = decide (rl_own x w (8 * b + k) = (-1) ∧ rl_X x w n b zb i 12 w (8 * b + k) = nI p))]
      rw [ei]
      by_cases c : v = nI p <;> simp [c, ho, Int32.add_assoc]
    · rw [(e29 p hp).2, (I7 p hp).2, rl_cnt, rl_cnt_c i (fun k hk => by rw [eo k (by omega)] : ∀ k, k < i → decide (rl_own x w (8 * b + k) = (-1) ∧ rl_X x w n b zb (i + 1) 12 w (8 * b + k) = nI p) = decide (rl_own x w (8 * b + k) = (-1) ∧ rl_X x w n b zb i 12 w (8 * b + k) = nI p))]
      rw [ei]
      by_cases c : v = nI p <;> simp [c, ho, Int32.add_assoc]
    · have new : ∀ j, j < zb → ¬ j = i → ¬ v = (-1) → ¬ v = rl_X x w n b zb i 12 w (8 * b + j) := fun j hj hji hv1 c => by
        rcases hv with hv | ⟨q, a1, a2, a3, a4⟩
        · exact hv1 hv
        · exact (I2 q a1).mp a4 j hj (c.symm.trans a2)
      by_cases hki : k = i
      · subst hki
        by_cases hji : j = k
        · exact hji.symm
        · rw [ei, eo j hji] at e
          rw [ei] at hne
          exact absurd e (new j hj hji hne)
      · by_cases hji : j = i
        · subst hji
          rw [ei, eo k hki] at e
          rw [eo k hki] at hne
          exact absurd e.symm (new k hk hki (fun q => hne (e.trans q)))
        · rw [eo k hki, eo j hji] at e
          rw [eo k hki] at hne
          exact I8 k hk j hj e hne
  · obtain ⟨I1, I2, I3, I4, I5, I6, I7, I8⟩ := hI
    have x12 : ¬ rl_X x w n b zb i 12 w (8 * b + i) = (-1) := by rw [I4 i hi (Nat.le_refl i)]; exact ho
    have eX : rl_X x w n b zb (i + 1) = rl_X x w n b zb i := by
      show kx_sd1 (rl_X x w n b zb i) w n (8 * b + i) = _
      rw [kx_sd1, if_neg x12]
    have eY : rl_Y y s n b zb (i + 1) = rl_Y y s n b zb i := by
      show ry_pC1 (rl_Y y s n b zb i) s n b zb (8 * b + i) = _
      rw [ry_pC1, if_neg (by rw [← I1 i hi]; exact x12)]
    unfold rl_I
    rw [eX, eY]
    refine ⟨I1, I2, I3, fun k hk hki => I4 k hk (by omega), I5, ⟨?_, ?_⟩, fun p hp => ⟨?_, ?_⟩, I8⟩
    · refine I6.1.trans (Eq.symm (rl_cnt_n _ ?_))
      exact fun q => ho q.1
    · refine I6.2.trans (Eq.symm (rl_cnt_n _ ?_))
      exact x12
    · refine (I7 p hp).1.trans (congrArg (y 29 s p + ·) (Eq.symm (rl_cnt_n _ ?_)))
      exact fun q => ho q.1
    · refine (I7 p hp).2.trans (congrArg (y 22 s p + ·) (Eq.symm (rl_cnt_n _ ?_)))
      exact fun q => ho q.1
theorem rl_Iz {x y : bd_M} {w s n b zb : Nat} (h : rl_H x w y s n b zb) : ∀ i, i ≤ zb → rl_I x w y s n b zb i
  | 0, _ => rl_I0 h
  | i + 1, hi => rl_I1 h (rl_Iz h i (by omega)) (by omega)
