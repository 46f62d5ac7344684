/-! THE BANDS PLAY ONE AFTER THE OTHER, alike in both; one band e may be left out of the comparison of members -/
def rl_cf (x : bd_M) (w : Nat) (y : bd_M) (n nb : Nat) (z : Nat → Nat) : Prop := (∀ p, p < n → ∀ j, j < 4 → x (j + 1000) w p = y 13 0 (4 * p + j) ∧ ¬ y 13 0 (4 * p + j) < 0) ∧ (∀ b, b < nb → ∀ k, k < z b → x 10 w (8 * b + k) = y 15 0 (8 * b + k) ∧ ¬ y 15 0 (8 * b + k) < 0 ∧ (y 15 0 (8 * b + k)).toNatClampNeg < 4) ∧ rl_hw x w y
def rl_V1 (x : bd_M) (w : Nat) (y : bd_M) (s n zb b : Nat) : Prop := (∀ k, k < zb → x 11 w (8 * b + k) = y 23 s (8 * b + k) ∧ ry_mv n (x 11 w (8 * b + k))) ∧ (∀ k, k < zb → ∀ j, j < zb → x 11 w (8 * b + k) = x 11 w (8 * b + j) → ¬ x 11 w (8 * b + k) = (-1) → k = j)
def rl_V (x : bd_M) (w : Nat) (y : bd_M) (s n nb : Nat) (z : Nat → Nat) (e : Nat) : Prop := ∀ b, b < nb → b ≠ e → rl_V1 x w y s n (z b) b
def rl_QP (x : bd_M) (w : Nat) (y : bd_M) (s N : Nat) : Prop := ∀ p, p < N → x 0 w p = y 19 s p ∧ x 1 w p = y 20 s p ∧ ¬ x 1 w p < 0 ∧ x 4 w p = y 21 s p ∧ x 5 w p = y 22 s p
def rl_QT (x : bd_M) (w : Nat) (y : bd_M) (s m N : Nat) : Prop := ∀ p, m ≤ p → p < N → x 6 w p = y 29 s p
def rl_QB (x : bd_M) (w : Nat) (y : bd_M) (s nb : Nat) : Prop := ∀ b, b < nb → x 21 w b = y 25 s b ∧ x 22 w b = y 28 s (4 * b) ∧ x 24 w b = y 28 s (4 * b + 2) ∧ x 25 w b = y 28 s (4 * b + 3) ∧ x 26 w b = y 26 s b ∧ x 27 w b = y 27 s b
def rl_QG (x : bd_M) (w : Nat) (y : bd_M) (s : Nat) : Prop := x 33 w 0 = y 11 s 0 ∧ x 34 w 0 = y 12 s 0
def rl_QW (x : bd_M) (w : Nat) (y : bd_M) (s nb : Nat) (z : Nat → Nat) (e : Nat) : Prop := ∀ b, b < nb → b ≠ e → ∀ k, k < z b → x 12 w (8 * b + k) = y 24 s (8 * b + k)
def rl_Q (x : bd_M) (w : Nat) (y : bd_M) (s N nb : Nat) (z : Nat → Nat) (e : Nat) : Prop := rl_QP x w y s N ∧ rl_QT x w y s 0 N ∧ rl_QB x w y s nb ∧ rl_QG x w y s ∧ rl_QW x w y s nb z e
/-- a band that has played -/
def rl_dn (x : bd_M) (w : Nat) (z : Nat → Nat) (b : Nat) : Prop := x 24 w b = kx_deps x w b (z b) ∧ ¬ x 22 w b < 0
theorem rl_mx0 {v : Int32} : ¬ bd_mx 0 v < 0 := by
  unfold bd_mx
  split
  · rename_i h
    intro q
    exact Int32.lt_irrefl (Int32.lt_trans h q)
  · decide
section RLT
variable {x y : bd_M} {w s n N nb e t : Nat} {z : Nat → Nat}
theorem rl_H_of {b : Nat} (hcf : rl_cf x w y n nb z) (hV : rl_V1 x w y s n (z b) b) (hP : rl_QP x w y s N) (hT : rl_QT x w y s 0 N) (hb : b < nb) (hN : n ≤ N) (hn : n ≤ 24) (hz : z b ≤ 8) : rl_H x w y s n b (z b) := by
  obtain ⟨c1, c2, c3⟩ := hcf
  refine ⟨hn, hz, fun k hk => (hV.1 k hk).1, fun k hk => (hV.1 k hk).2, hV.2, fun k hk => c2 b hb k hk, c1, fun p hp => ?_⟩
  obtain ⟨a1, a2, a3, a4, a5⟩ := hP p (by omega)
  exact ⟨a1, a2, a3, hT p (Nat.zero_le p) (by omega)⟩
theorem rl_play_k {b zb f w' k' : Nat} (h : f ≠ 0 ∧ f ≠ 4 ∧ f ≠ 5 ∧ f ≠ 6 ∧ f ≠ 7 ∧ f ≠ 12 ∧ f ≠ 22 ∧ f ≠ 24 ∧ f ≠ 25 ∧ f ≠ 27 ∧ f ≠ 33 ∧ f ≠ 34) : kx_play x w n b zb f w' k' = x f w' k' := by
  rw [rl_Z_f (by omega), rl_C_f (by omega), kx_seat_f (by omega) (by omega)]
theorem rl_cf_of {x' y' : bd_M} (h : rl_cf x w y n nb z) (e1 : ∀ j p, j < 4 → x' (j + 1000) w p = x (j + 1000) w p) (e2 : ∀ k, x' 10 w k = x 10 w k) (e3 : ∀ i, x' 35 w i = x 35 w i ∧ x' 36 w i = x 36 w i) (e4 : ∀ f k, f = 13 ∨ f = 15 ∨ f = 16 ∨ f = 17 → y' f 0 k = y f 0 k) : rl_cf x' w y' n nb z := by
  obtain ⟨c1, c2, c3⟩ := h
  refine ⟨fun p hp j hj => ?_, fun b hb k hk => ?_, fun i hi => ?_⟩
  · rw [e1 j p hj, e4 13 _ (by decide)]; exact c1 p hp j hj
  · rw [e2, e4 15 _ (by decide)]; exact c2 b hb k hk
  · rw [(e3 i).1, (e3 i).2, e4 16 _ (by decide), e4 17 _ (by decide)]; exact c3 i hi
theorem rl_V1_of {x' y' : bd_M} {b zb : Nat} (h : rl_V1 x w y s n zb b) (e1 : ∀ k, k < zb → x' 11 w (8 * b + k) = x 11 w (8 * b + k)) (e2 : ∀ k, k < zb → y' 23 s (8 * b + k) = y 23 s (8 * b + k)) : rl_V1 x' w y' s n zb b := by
  refine ⟨fun k hk => ?_, fun k hk j hj => ?_⟩
  · rw [e1 k hk, e2 k hk]; exact h.1 k hk
  · rw [e1 k hk, e1 j hj]; exact h.2 k hk j hj
theorem rl_play_cf {b zb : Nat} (h : rl_cf x w y n nb z) : rl_cf (kx_play x w n b zb) w (ry_play y s n b zb) n nb z :=
  rl_cf_of h (fun j p hj => rl_play_k (by omega)) (fun k => rl_play_k (by decide)) (fun i => ⟨rl_play_k (by decide), rl_play_k (by decide)⟩) (fun f k hf => ry_play_f (by omega))
theorem rl_play_V {b zb : Nat} (h : rl_V x w y s n nb z e) : rl_V (kx_play x w n b zb) w (ry_play y s n b zb) s n nb z e := fun b' hb' hbe =>
  rl_V1_of (h b' hb' hbe) (fun k hk => rl_play_k (by decide)) (fun k hk => ry_play_f (by decide))
theorem rl_play_Q {b : Nat} (hcf : rl_cf x w y n nb z) (hV : rl_V1 x w y s n (z b) b) (hQ : rl_Q x w y s N nb z e) (hb : b < nb) (hN : n ≤ N) (hN2 : N ≤ 24) (hz : ∀ b, b < nb → z b ≤ 8) : rl_Q (kx_play x w n b (z b)) w (ry_play y s n b (z b)) s N nb z e := by
  obtain ⟨hP, hT, hB, hG, hW⟩ := hQ
  have h := rl_H_of hcf hV hP hT hb hN (by omega) (hz b hb)
  have key : ∀ p, p < N → _ := fun p hp => rl_play_P h (p := p) (by omega) (hP p hp).1 (hP p hp).2.2.2.1 (hP p hp).2.2.2.2 (hT p (Nat.zero_le p) hp)
  have e20 : ∀ p, ry_play y s n b (z b) 20 s p = y 20 s p := fun p => ry_play_f (by decide)
  have e1 : ∀ p, kx_play x w n b (z b) 1 w p = x 1 w p := fun p => rl_play_k (by decide)
  refine ⟨fun p hp => ?_, fun p _ hp => (key p hp).2.2.2, fun b' hb' => ?_, ⟨?_, ?_⟩, fun b' hb' hbe k hk => ?_⟩
  · rw [e1, e20]
    exact ⟨(key p hp).1, (hP p hp).2.1, (hP p hp).2.2.1, (key p hp).2.1, (key p hp).2.2.1⟩
  · obtain ⟨a1, a2, a3, a4, a5, a6⟩ := hB b' hb'
    have r28 : ∀ k, ry_play y s n b (z b) 28 s k = rl_D y s n b (z b) 28 s k := fun k => by rw [rl_rplay_eq, ry_pE_f (by decide) (by decide)]
    have r27 : ∀ k, ry_play y s n b (z b) 27 s k = rl_D y s n b (z b) 27 s k := fun k => by rw [rl_rplay_eq, ry_pE_f (by decide) (by decide)]
    refine ⟨?_, ?_, ?_, ?_, ?_, ?_⟩
    · rw [rl_play_k (by decide), ry_play_f (by decide)]; exact a1
    · rw [rl_Z_f (by decide), rl_C_22, r28, rl_D_28]
      by_cases c : b' = b
      · subst c
        rw [if_pos rfl, if_pos (by omega), rl_marks h hcf.2.2 a1, show 4 * b' - 4 * b' = 0 by omega]
        rfl
      · rw [if_neg c, if_neg (by omega)]; exact a2
    · rw [rl_Z_f (by decide), rl_C_24, r28, rl_D_28]
      by_cases c : b' = b
      · subst c
        rw [if_pos rfl, if_pos (by omega), rl_many h, show 4 * b' + 2 - 4 * b' = 2 by omega]
        rfl
      · rw [if_neg c, if_neg (by omega)]; exact a3
    · rw [rl_Z_f (by decide), rl_C_25, r28, rl_D_28]
      by_cases c : b' = b
      · subst c
        rw [if_pos rfl, if_pos (by omega), rl_empty h, show 4 * b' + 3 - 4 * b' = 3 by omega]
        rfl
      · rw [if_neg c, if_neg (by omega)]; exact a4
    · rw [rl_play_k (by decide), ry_play_f (by decide)]; exact a5
    · rw [rl_Z_f (by decide), rl_C_27, r27, rl_D_27, rl_many h, a6]
  · rw [rl_Z_f (by decide), rl_C_33, rl_rplay_eq, ry_pE_f (by decide) (by decide), rl_D_11, rl_many h, hG.1]
  · rw [rl_Z_f (by decide), rl_C_34, rl_rplay_eq, ry_pE_f (by decide) (by decide), rl_D_12, rl_empty h, hG.2]
  · rw [rl_Z_f (by decide), rl_C_f (by decide), rl_rplay_eq, ry_pE_f (by decide) (by decide), rl_D_f (by decide)]
    have hz' := hz b' hb'
    have hzb := hz b hb
    by_cases c : b' = b
    · subst c
      exact (rl_S h).1 k hk
    · rw [rl_S_12o h (by omega), rl_Y_24o (by omega)]
      exact hW b' hb' hbe k hk
theorem rl_play_dn {b : Nat} (h : rl_H x w y s n b (z b)) : rl_dn (kx_play x w n b (z b)) w z b := by
  refine ⟨?_, ?_⟩
  · rw [rl_Z_f (by decide), rl_C_24, if_pos rfl]
    exact (rl_deps_of (z b) (fun k hk => ⟨by rw [rl_Z_f (by decide), rl_C_f (by decide)], by rw [rl_Z_f (by decide), rl_C_f (by decide)]⟩)).symm
  · rw [rl_Z_f (by decide), rl_C_22, if_pos rfl]
    unfold kx_mo
    split
    · decide
    · exact rl_mx0
theorem rl_play_dn2 {b b' : Nat} (h : rl_H x w y s n b (z b)) (hd : rl_dn x w z b') (hne : b' ≠ b) (hz : z b' ≤ 8) : rl_dn (kx_play x w n b (z b)) w z b' := by
  have hzb := h.2.1
  refine ⟨?_, ?_⟩
  · rw [rl_Z_f (by decide), rl_C_24, if_neg hne, hd.1]
    refine (rl_deps_of (z b') (fun k hk => ⟨rl_play_k (by decide), ?_⟩)).symm
    rw [rl_Z_f (by decide), rl_C_f (by decide), rl_S_12o h (by omega)]
  · rw [rl_Z_f (by decide), rl_C_22, if_neg hne]; exact hd.2
theorem rl_tu (i : Nat) : kx_tu t nb i = (t + i) % nb := Nat.mod_add_mod t nb i
theorem rl_pl (hcf : rl_cf x w y n nb z) (hV : rl_V x w y s n nb z e) (hQ : rl_Q x w y s N nb z e) (hN : n ≤ N) (hN2 : N ≤ 24) (hz : ∀ b, b < nb → z b ≤ 8) (hnb : 0 < nb) : ∀ i, (∀ j, j < i → (t + j) % nb ≠ e) → rl_cf (kx_pl x w n nb z t i) w (ry_k2 y s n nb z t i) n nb z ∧ rl_V (kx_pl x w n nb z t i) w (ry_k2 y s n nb z t i) s n nb z e ∧ rl_Q (kx_pl x w n nb z t i) w (ry_k2 y s n nb z t i) s N nb z e ∧ ∀ j, j < i → rl_dn (kx_pl x w n nb z t i) w z ((t + j) % nb)
  | 0, _ => ⟨hcf, hV, hQ, fun j hj => absurd hj (Nat.not_lt_zero j)⟩
  | i + 1, he => by
    obtain ⟨i1, i2, i3, i4⟩ := rl_pl hcf hV hQ hN hN2 hz hnb i (fun j hj => he j (by omega))
    have hb : (t + i) % nb < nb := Nat.mod_lt _ hnb
    have hV1 := i2 _ hb (he i (by omega))
    have h := rl_H_of i1 hV1 i3.1 i3.2.1 hb hN (by omega) (hz _ hb)
    rw [kx_pl, ry_k2, rl_tu]
    refine ⟨rl_play_cf i1, rl_play_V i2, rl_play_Q i1 hV1 i3 hb hN hN2 hz, fun j hj => ?_⟩
    by_cases c : (t + j) % nb = (t + i) % nb
    · rw [c]; exact rl_play_dn h
    · have hji : j < i := by
        rcases Nat.lt_or_ge j i with q | q
        · exact q
        · exact absurd (by rw [show j = i by omega]) c
      exact rl_play_dn2 h (i4 j hji) c (hz _ (Nat.mod_lt _ hnb))
theorem rl_fd6 {p : Nat} : ∀ i, kx_fd x w i 6 w p = if p < i then 0 else x 6 w p
  | 0 => rfl
  | i + 1 => by
    rw [kx_fd, rl_up, rl_fd6 i]
    by_cases h : p = i
    · subst h; rw [if_pos ⟨rfl, rfl, rfl⟩, if_pos (Nat.lt_succ_self p)]
    · rw [if_neg (fun q => h q.2.2)]
      by_cases h2 : p < i
      · rw [if_pos h2, if_pos (show p < i + 1 by omega)]
      · rw [if_neg h2, if_neg (show ¬ p < i + 1 by omega)]
theorem rl_k1 {p : Nat} : ∀ i, ry_k1 y s i 29 s p = if p < i then 0 else y 29 s p
  | 0 => rfl
  | i + 1 => by
    rw [ry_k1, rl_up, rl_k1 i]
    by_cases h : p = i
    · subst h; rw [if_pos ⟨rfl, rfl, rfl⟩, if_pos (Nat.lt_succ_self p)]
    · rw [if_neg (fun q => h q.2.2)]
      by_cases h2 : p < i
      · rw [if_pos h2, if_pos (show p < i + 1 by omega)]
      · rw [if_neg h2, if_neg (show ¬ p < i + 1 by omega)]
/-- the contest begins -/
theorem rl_fd (hcf : rl_cf x w y n nb z) (hV : rl_V x w y s n nb z e) (hP : rl_QP x w y s N) (hT : rl_QT x w y s n N) (hB : rl_QB x w y s nb) (hG : rl_QG x w y s) (hW : rl_QW x w y s nb z e) : rl_cf (kx_fd x w n) w (ry_k1 y s n) n nb z ∧ rl_V (kx_fd x w n) w (ry_k1 y s n) s n nb z e ∧ rl_Q (kx_fd x w n) w (ry_k1 y s n) s N nb z e := by
  have ex : ∀ {f k}, f ≠ 6 → kx_fd x w n f w k = x f w k := fun {f k} h => kx_fd_f h n
  have ey : ∀ {f w' k}, f ≠ 29 → ry_k1 y s n f w' k = y f w' k := fun {f w' k} h => ry_k1_f h n
  refine ⟨rl_cf_of hcf (fun j p hj => ex (by omega)) (fun k => ex (by decide)) (fun i => ⟨ex (by decide), ex (by decide)⟩) (fun f k hf => ey (by omega)), fun b hb hbe => rl_V1_of (hV b hb hbe) (fun k hk => ex (by decide)) (fun k hk => ey (by decide)), fun p hp => ?_, fun p _ hp => ?_, fun b hb => ?_, ?_, fun b hb hbe k hk => ?_⟩
  · rw [ex (by decide), ex (by decide), ex (by decide), ex (by decide), ey (by decide), ey (by decide), ey (by decide), ey (by decide)]
    exact hP p hp
  · rw [rl_fd6, rl_k1]
    by_cases c : p < n
    · rw [if_pos c, if_pos c]
    · rw [if_neg c, if_neg c]; exact hT p (by omega) hp
  · rw [ex (by decide), ex (by decide), ex (by decide), ex (by decide), ex (by decide), ex (by decide), ey (by decide), ey (by decide), ey (by decide), ey (by decide), ey (by decide), ey (by decide)]
    exact hB b hb
  · unfold rl_QG
    rw [ex (by decide), ex (by decide), ey (by decide), ey (by decide)]
    exact hG
  · rw [ex (by decide), ey (by decide)]
    exact hW b hb hbe k hk
end RLT
