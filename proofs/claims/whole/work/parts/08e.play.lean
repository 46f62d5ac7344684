/-! A BAND PLAYS ALIKE in both -/
def rl_D (y : bd_M) (s n b zb : Nat) : bd_M := ry_pF (ry_pO (ry_pT (rl_Y y s n b zb zb).1 s b (ry_pD (rl_Y y s n b zb zb).1 s b (ry_m0 (ry_pA y s b zb) s b zb (rl_Y y s n b zb zb)) zb) (rl_Y y s n b zb zb).2.1 (rl_Y y s n b zb zb).2.2) s b (rl_Y y s n b zb zb).2.1) s (rl_Y y s n b zb zb).2.1 (rl_Y y s n b zb zb).2.2
section RLP
variable {x y : bd_M} {w s n b zb : Nat}
theorem rl_rplay_eq : ry_play y s n b zb = ry_pE (rl_D y s n b zb) s b zb n := rfl
theorem rl_D_f {f w' k' : Nat} (h : f ≠ 11 ∧ f ≠ 12 ∧ f ≠ 27 ∧ f ≠ 28) : rl_D y s n b zb f w' k' = (rl_Y y s n b zb zb).1 f w' k' := by
  rw [rl_D, ry_pF_f h.1 h.2.1, ry_pO_f h.2.2.1, ry_pT_f h.2.2.2]
theorem rl_D_28 {k' : Nat} : rl_D y s n b zb 28 s k' = if 4 * b ≤ k' ∧ k' < 4 * b + 4 then upd (upd (upd (upd (fun _ => 0) 0 (rl_told y s n b zb)) 1 (-1)) 2 (rl_Y y s n b zb zb).2.1) 3 (rl_Y y s n b zb zb).2.2 (k' - 4 * b) else y 28 s k' := by
  rw [rl_D, ry_pF_f (by decide) (by decide), ry_pO_f (by decide), ry_pT]
  show (if (28 = 28 ∧ s = s) then _ else _) = _
  rw [if_pos ⟨rfl, rfl⟩]
  unfold va_cpy
  by_cases h : 4 * b ≤ k' ∧ k' < 4 * b + 4
  · rw [if_pos h, if_pos h, Nat.zero_add]
    rfl
  · rw [if_neg h, if_neg h]
    exact rl_Y_f (by decide) (by decide) (by decide)
theorem rl_D_27 {k' : Nat} : rl_D y s n b zb 27 s k' = if k' = b then (if (rl_Y y s n b zb zb).2.1 ≤ 3 then y 27 s k' else y 27 s k' + 1) else y 27 s k' := by
  have e : ∀ (m a c : Int32) k', ry_pT (rl_Y y s n b zb zb).1 s b m a c 27 s k' = y 27 s k' := fun m a c k' => by
    rw [ry_pT_f (by decide), rl_Y_f (by decide) (by decide) (by decide)]
  rw [rl_D, ry_pF_f (by decide) (by decide), ry_pO]
  by_cases h : (rl_Y y s n b zb zb).2.1 ≤ 3
  · rw [if_pos h, if_pos h, rl_up, e, e, Int32.add_zero]
    by_cases hk : k' = b
    · subst hk; rw [if_pos ⟨rfl, rfl, rfl⟩, if_pos rfl]
    · rw [if_neg (fun q => hk q.2.2), if_neg hk]
  · rw [if_neg h, if_neg h, rl_up, e, e]
    by_cases hk : k' = b
    · subst hk; rw [if_pos ⟨rfl, rfl, rfl⟩, if_pos rfl]
    · rw [if_neg (fun q => hk q.2.2), if_neg hk]
theorem rl_D_11 : rl_D y s n b zb 11 s 0 = y 11 s 0 + (rl_Y y s n b zb zb).2.1 := by
  rw [rl_D, ry_pF, bd_up_f (by decide), bd_up_s, ry_pO_f (by decide), ry_pT_f (by decide), rl_Y_f (by decide) (by decide) (by decide)]
theorem rl_D_12 : rl_D y s n b zb 12 s 0 = y 12 s 0 + (rl_Y y s n b zb zb).2.2 := by
  rw [rl_D, ry_pF, bd_up_s, bd_up_f (by decide), ry_pO_f (by decide), ry_pT_f (by decide), rl_Y_f (by decide) (by decide) (by decide)]
theorem rl_in_of {y' : bd_M} {v : Int32} : ∀ i, (∀ k, k < i → y' 24 s (8 * b + k) = y 24 s (8 * b + k)) → ry_in y' s b v i = ry_in y s b v i
  | 0, _ => rfl
  | i + 1, h => by rw [ry_in, ry_in, h i (by omega), rl_in_of i (fun k hk => h k (by omega))]
theorem rl_pE {p : Nat} : ∀ i, ry_pE y s b zb i 19 s p = (if p < i then (if ry_in y s b (nI p) zb = true then bd_mn 100 (y 19 s p + 15) else bd_mx 0 (y 19 s p - 10)) else y 19 s p) ∧ ry_pE y s b zb i 21 s p = (if p < i then (if ry_in y s b (nI p) zb = true then y 21 s p + 1 else y 21 s p) else y 21 s p)
  | 0 => ⟨rfl, rfl⟩
  | i + 1 => by
    obtain ⟨i1, i2⟩ := rl_pE (p := p) i
    have ein : ry_in (ry_pE y s b zb i) s b (nI i) zb = ry_in y s b (nI i) zb := rl_in_of zb (fun k _ => ry_pE_f (by decide) (by decide) i)
    by_cases h : p = i
    · subst h
      rw [if_neg (Nat.lt_irrefl p)] at i1 i2
      rw [if_pos (Nat.lt_succ_self p), if_pos (Nat.lt_succ_self p), ry_pE, ry_pE1, ein]
      by_cases c : ry_in y s b (nI p) zb = true
      · rw [if_pos c, if_pos c, if_pos c]
        refine ⟨?_, ?_⟩
        · rw [bd_up_f (by decide), bd_up_s, i1]
        · rw [bd_up_s, bd_up_f (by decide), i2]
      · rw [if_neg c, if_neg c, if_neg c]
        refine ⟨?_, ?_⟩
        · rw [bd_up_f (by decide), bd_up_s, i1]
        · rw [bd_up_s, bd_up_f (by decide), i2, Int32.add_zero]
    · have e : ∀ f, (f = 19 ∨ f = 21) → ry_pE y s b zb (i + 1) f s p = ry_pE y s b zb i f s p := fun f hf => by
        rw [ry_pE, ry_pE1]
        split <;> rw [bd_up_n (fun q => h q.2.2), bd_up_n (fun q => h q.2.2)]
      rw [e 19 (Or.inl rfl), e 21 (Or.inr rfl), i1, i2]
      by_cases h2 : p < i
      · rw [if_pos h2, if_pos h2, if_pos (show p < i + 1 by omega), if_pos (show p < i + 1 by omega)]
        exact ⟨rfl, rfl⟩
      · rw [if_neg h2, if_neg h2, if_neg (show ¬ p < i + 1 by omega), if_neg (show ¬ p < i + 1 by omega)]
        exact ⟨rfl, rfl⟩
/-- others' counts stay -/
theorem rl_Y_o {p : Nat} (hn : n ≤ 24) (hp : n ≤ p) : ∀ i, (rl_Y y s n b zb i).1 29 s p = y 29 s p ∧ (rl_Y y s n b zb i).1 22 s p = y 22 s p
  | 0 => ⟨ry_pA_f (by decide) zb, ry_pA_f (by decide) zb⟩
  | i + 1 => by
    obtain ⟨i1, i2⟩ := rl_Y_o hn hp i
    show (ry_pC1 (rl_Y y s n b zb i) s n b zb (8 * b + i)).1 29 s p = _ ∧ (ry_pC1 (rl_Y y s n b zb i) s n b zb (8 * b + i)).1 22 s p = _
    have hw := ry_fi_mv (y := (rl_Y y s n b zb i).1) (w := s) (b := b) (zb := zb) (W := ((rl_Y y s n b zb i).1 15 0 (8 * b + i)).toNatClampNeg) (lim := ry_lim (rl_Y y s n b zb i).1 s (8 * b + i)) hn n (Nat.le_refl n)
    have hw2 : ry_mv n (ry_who (rl_Y y s n b zb i).1 s n b zb (8 * b + i)) := hw
    generalize ry_who (rl_Y y s n b zb i).1 s n b zb (8 * b + i) = v at hw2
    unfold ry_pC1 ry_pC2
    by_cases c : (rl_Y y s n b zb i).1 24 s (8 * b + i) = (-1)
    · rw [if_pos c]
      have hw3 : ry_mv n (ry_who (rl_Y y s n b zb i).1 s n b zb (8 * b + i)) := hw
      generalize ry_who (rl_Y y s n b zb i).1 s n b zb (8 * b + i) = v at hw3
      rw [bd_up_s]
      by_cases d : v = (-1)
      · rw [if_pos d]
        dsimp only
        rw [bd_up_f (by decide), bd_up_f (by decide)]
        exact ⟨i1, i2⟩
      · rw [if_neg d]
        have hv := (rl_mvI hw3 d).2
        dsimp only
        rw [ry_pC3]
        refine ⟨?_, ?_⟩
        · rw [bd_up_f (by decide), bd_up_n (fun q => by omega), bd_up_f (by decide)]; exact i1
        · rw [bd_up_n (fun q => by rw [bd_up_f (f' := 24) (by decide), bd_up_s] at q; omega), bd_up_f (by decide), bd_up_f (by decide)]; exact i2
    · rw [if_neg c]
      exact ⟨i1, i2⟩
theorem rl_S_12o {k' : Nat} (h : rl_H x w y s n b zb) (hk : k' < 8 * b ∨ 8 * b + zb ≤ k') : kx_seat x w n b zb 12 w k' = x 12 w k' := by
  have e : ∀ i, i ≤ zb → rl_X x w n b zb i 12 w k' = x 12 w k' := by
    intro i
    induction i with
    | zero =>
      intro _
      show rl_A x w n b zb 12 w k' = _
      rw [rl_A_12 h.2.2.2.1 h.1, if_neg (by omega)]
    | succ i ih =>
      intro hi
      show kx_sd1 (rl_X x w n b zb i) w n (8 * b + i) 12 w k' = _
      unfold kx_sd1 kx_sd2
      split
      · split
        · rw [bd_up_f (by decide), bd_up_n (fun q => by omega)]; exact ih (by omega)
        · rw [bd_up_n (fun q => by omega)]; exact ih (by omega)
      · exact ih (by omega)
  exact e zb (Nat.le_refl zb)
theorem rl_Y_24o {k' : Nat} (hk : k' < 8 * b ∨ 8 * b + zb ≤ k') : (rl_Y y s n b zb zb).1 24 s k' = y 24 s k' := by
  have e : ∀ i, i ≤ zb → (rl_Y y s n b zb i).1 24 s k' = y 24 s k' := by
    intro i
    induction i with
    | zero =>
      intro _
      show ry_pA y s b zb 24 s k' = _
      rw [rl_pA_24, if_neg (by omega)]
    | succ i ih =>
      intro hi
      show (ry_pC1 (rl_Y y s n b zb i) s n b zb (8 * b + i)).1 24 s k' = _
      unfold ry_pC1 ry_pC2
      split
      · split
        · dsimp only
          rw [bd_up_n (fun q => by omega)]; exact ih (by omega)
        · dsimp only
          rw [ry_pC3, bd_up_f (by decide), bd_up_f (by decide), bd_up_n (fun q => by omega)]; exact ih (by omega)
      · exact ih (by omega)
  exact e zb (Nat.le_refl zb)
theorem rl_Z_f {f w' k' : Nat} (h : f ≠ 0 ∧ f ≠ 4 ∧ f ≠ 5 ∧ f ≠ 6) : kx_play x w n b zb f w' k' = rl_C x w n b zb f w' k' := by
  rw [rl_play_eq, kx_ml_f h.1, kx_no_f h.2.1 h.2.2.1 h.2.2.2]
theorem rl_cnt_0 {P : Nat → Bool} : ∀ i, (∀ k, k < i → P k = false) → rl_cnt P i = 0
  | 0, _ => rfl
  | i + 1, h => by rw [rl_cnt, h i (by omega), if_neg Bool.false_ne_true, rl_cnt_0 i (fun k hk => h k (by omega))]
/-- the players behind a band's play -/
theorem rl_play_P (h : rl_H x w y s n b zb) {p : Nat} (hp : p < 24) (e0 : x 0 w p = y 19 s p) (e4 : x 4 w p = y 21 s p) (e5 : x 5 w p = y 22 s p) (e6 : x 6 w p = y 29 s p) : kx_play x w n b zb 0 w p = ry_play y s n b zb 19 s p ∧ kx_play x w n b zb 4 w p = ry_play y s n b zb 21 s p ∧ kx_play x w n b zb 5 w p = ry_play y s n b zb 22 s p ∧ kx_play x w n b zb 6 w p = ry_play y s n b zb 29 s p := by
  have hS := rl_S h
  have hn := h.1
  have mv : ∀ k, k < zb → ry_mv n (rl_C x w n b zb 12 w (8 * b + k)) := fun k hk => by
    rw [rl_C_f (by decide)]; exact rl_S_mv h hk
  obtain ⟨n4, n5, n6⟩ := rl_no (y := rl_C x w n b zb) (w := w) (n := n) (b := b) (zb := zb) (p := p) mv hn (by omega) zb (Nat.le_refl zb)
  have c12 : ∀ k, rl_C x w n b zb 12 w (8 * b + k) = kx_seat x w n b zb 12 w (8 * b + k) := fun k => rl_C_f (by decide)
  have hin : p < n → (kx_seat x w n b zb 7 w p = 0 ↔ ry_in (rl_D y s n b zb) s b (nI p) zb = false) := fun hpn => by
    rw [show ry_in (rl_D y s n b zb) s b (nI p) zb = ry_in (rl_Y y s n b zb zb).1 s b (nI p) zb from rl_in_of zb (fun k _ => rl_D_f (by decide)), rl_in]
    have := hS.2.1 p hpn
    refine this.trans ⟨fun q k hk => by rw [← hS.1 k hk]; exact q k hk, fun q k hk => by rw [hS.1 k hk]; exact q k hk⟩
  have out : n ≤ p → ∀ k, k < zb → ¬ kx_seat x w n b zb 12 w (8 * b + k) = nI p := fun hpn k hk q => by
    have hm := rl_S_mv h hk
    rw [q] at hm
    have := (rl_mvI hm (rl_nIm (by omega))).2
    rw [nI_clamp (by omega)] at this
    omega
  have depC : ∀ k, k < zb → (kx_dep (rl_C x w n b zb) w (8 * b + k) ∧ rl_C x w n b zb 12 w (8 * b + k) = nI p ↔ rl_own x w (8 * b + k) = (-1) ∧ kx_seat x w n b zb 12 w (8 * b + k) = nI p) := fun k hk => by
    have hd := rl_S_dep h hk
    have e : kx_dep (rl_C x w n b zb) w (8 * b + k) ↔ kx_dep (kx_seat x w n b zb) w (8 * b + k) := by
      show ¬ rl_C x w n b zb 12 w (8 * b + k) = (-1) ∧ ¬ rl_C x w n b zb 12 w (8 * b + k) = rl_C x w n b zb 11 w (8 * b + k) ↔ ¬ kx_seat x w n b zb 12 w (8 * b + k) = (-1) ∧ ¬ kx_seat x w n b zb 12 w (8 * b + k) = kx_seat x w n b zb 11 w (8 * b + k)
      rw [c12, rl_C_f (f := 11) (by decide)]
    rw [e, hd, c12]
    exact ⟨fun q => ⟨q.1.1, q.2⟩, fun q => ⟨⟨q.1, fun a => rl_nIm (p := p) (by omega) (q.2.symm.trans a)⟩, q.2⟩⟩
  have d19 : rl_D y s n b zb 19 s p = y 19 s p := (rl_D_f (by decide)).trans (rl_Y_f (by decide) (by decide) (by decide))
  have d21 : rl_D y s n b zb 21 s p = y 21 s p := (rl_D_f (by decide)).trans (rl_Y_f (by decide) (by decide) (by decide))
  obtain ⟨q19, q21⟩ := rl_pE (y := rl_D y s n b zb) (s := s) (b := b) (zb := zb) (p := p) n
  refine ⟨?_, ?_, ?_, ?_⟩
  · rw [rl_play_eq, rl_ml, rl_rplay_eq, q19, d19, kx_no_f (by decide) (by decide) (by decide), kx_no_f (by decide) (by decide) (by decide), rl_C_f (by decide), rl_C_f (by decide), kx_seat_f (f := 0) (by decide) (by decide), e0]
    by_cases hpn : p < n
    · rw [if_pos hpn, if_pos hpn]
      by_cases c : kx_seat x w n b zb 7 w p = 0
      · rw [if_pos c, if_neg (by rw [(hin hpn).mp c]; decide)]
      · rw [if_neg c, if_pos (by
          cases hb : ry_in (rl_D y s n b zb) s b (nI p) zb with
          | true => rfl
          | false => exact absurd ((hin hpn).mpr hb) c)]
    · rw [if_neg hpn, if_neg hpn]
  · rw [rl_play_eq, kx_ml_f (by decide), n4, rl_rplay_eq, q21, d21, rl_C_f (f := 4) (by decide), kx_seat_f (f := 4) (by decide) (by decide), e4]
    rw [rl_once (f := fun k => rl_C x w n b zb 12 w (8 * b + k)) zb (fun k hk j hj e e2 => by
      rw [c12, c12] at e
      rw [c12] at e2
      exact hS.2.2.2.2.2.2.2 k hk j hj e (fun a => rl_nIm (p := p) (by omega) (e2.symm.trans a)))]
    by_cases hpn : p < n
    · rw [if_pos hpn]
      by_cases c : kx_seat x w n b zb 7 w p = 0
      · have q1 : ¬ ry_in (rl_D y s n b zb) s b (nI p) zb = true := by rw [(hin hpn).mp c]; decide
        have q2 : ¬ ∃ k, k < zb ∧ rl_C x w n b zb 12 w (8 * b + k) = nI p := by
          rintro ⟨k, hk, e⟩
          rw [c12] at e
          exact (hS.2.1 p hpn).mp c k hk e
        rw [if_neg q1, if_neg q2, Int32.add_zero]
      · have q1 : ry_in (rl_D y s n b zb) s b (nI p) zb = true := by
          cases hb : ry_in (rl_D y s n b zb) s b (nI p) zb with
          | true => rfl
          | false => exact absurd ((hin hpn).mpr hb) c
        have q2 : ∃ k, k < zb ∧ rl_C x w n b zb 12 w (8 * b + k) = nI p := by
          refine Classical.byContradiction (fun q => c ((hS.2.1 p hpn).mpr (fun k hk e => q ⟨k, hk, ?_⟩)))
          rw [c12]; exact e
        rw [if_pos q1, if_pos q2]
    · have q2 : ¬ ∃ k, k < zb ∧ rl_C x w n b zb 12 w (8 * b + k) = nI p := by
        rintro ⟨k, hk, e⟩
        rw [c12] at e
        exact out (by omega) k hk e
      rw [if_neg hpn, if_neg q2, Int32.add_zero]
  · rw [rl_play_eq, kx_ml_f (by decide), n5, rl_rplay_eq, ry_pE_f (by decide) (by decide), rl_D_f (by decide), rl_C_f (f := 5) (by decide), kx_seat_f (f := 5) (by decide) (by decide), e5]
    by_cases hpn : p < n
    · rw [(hS.2.2.2.2.2.2.1 p hpn).2]
      exact congrArg (y 22 s p + ·) (rl_cnt_c zb (fun k hk => decide_eq_decide.mpr (depC k hk)))
    · rw [(rl_Y_o hn (by omega) zb).2, rl_cnt_0 zb (fun k hk => decide_eq_false (fun q => out (by omega) k hk ((depC k hk).mp q).2)), Int32.add_zero]
  · rw [rl_play_eq, kx_ml_f (by decide), n6, rl_rplay_eq, ry_pE_f (by decide) (by decide), rl_D_f (by decide), rl_C_f (f := 6) (by decide), kx_seat_f (f := 6) (by decide) (by decide), e6]
    by_cases hpn : p < n
    · rw [(hS.2.2.2.2.2.2.1 p hpn).1]
      exact congrArg (y 29 s p + ·) (rl_cnt_c zb (fun k hk => decide_eq_decide.mpr (depC k hk)))
    · rw [(rl_Y_o hn (by omega) zb).1, rl_cnt_0 zb (fun k hk => decide_eq_false (fun q => out (by omega) k hk ((depC k hk).mp q).2)), Int32.add_zero]
end RLP
