/-! THE INVARIANT between calls -/
/-- bands that are not founded yet, and spirits -/
def rl_Df (x y : bd_M) (nb : Nat) : Prop := ∀ b, nb ≤ b → b < 6 → (x 21 0 b = y 25 0 b ∧ x 26 0 b = y 26 0 b ∧ x 27 0 b = y 27 0 b) ∧ (x 22 0 b = (-1) ∧ x 23 0 b = (-1) ∧ x 24 0 b = (-1) ∧ x 25 0 b = (-1)) ∧ ∀ k, k < 8 → x 11 0 (8 * b + k) = (-1) ∧ x 12 0 (8 * b + k) = (-1)
def rl_sp6 (x : bd_M) : Prop := ∀ b, b < 6 → ¬ x 21 0 b < 0 ∧ ¬ 50 < x 21 0 b
/-- a player's band and seat, and the seat's member, tell of each other -/
def rl_L (x : bd_M) (n nb : Nat) (z : Nat → Nat) : Prop := (∀ p, p < 24 → (x 2 0 p = (-1) ∧ x 3 0 p = (-1)) ∨ (p < n ∧ ∃ b k, b < nb ∧ k < z b ∧ x 2 0 p = nI b ∧ x 3 0 p = nI k ∧ x 11 0 (8 * b + k) = nI p)) ∧ (∀ b, b < nb → ∀ k, k < z b → ∀ p, p < n → x 11 0 (8 * b + k) = nI p → x 2 0 p = nI b ∧ x 3 0 p = nI k)
def rl_J (x y : bd_M) (n nb : Nat) (z : Nat → Nat) (t : Nat) : Prop := kx_Sh x 0 n nb z ∧ ry_Sh y n nb z ∧ rl_M x 0 y 0 n 24 nb z 0 ∧ ((∀ b, nb ≤ b → z b = 0) ∧ (∀ b, nb ≤ b → b < 6 → x 20 1 b = 0)) ∧ x 32 0 0 = nI t ∧ rl_L x n nb z ∧ rl_Df x y nb ∧ rl_sp6 x
def rl_Jn (i : Nat) (x y : bd_M) : Prop := ∃ n nb z t, rl_J x y n nb z t ∧ t ≤ i
theorem rl_J_t {x y : bd_M} {n nb t : Nat} {z : Nat → Nat} {v : Int32} (h : rl_J x y n nb z t) : rl_J x (bd_up y 0 0 0 v) n nb z t := h
theorem rl_Jn_t {x y : bd_M} {i : Nat} {v : Int32} (h : rl_Jn i x y) : rl_Jn i x (bd_up y 0 0 0 v) := h
theorem rl_M_n {x y : bd_M} {w s n N nb m : Nat} {z : Nat → Nat} (h : rl_M x w y s n N nb z 0) : rl_M x w y s n N nb z m := ⟨h.1, h.2.1, h.2.2.1, fun p _ hp => h.2.2.2.1 p (Nat.zero_le p) hp, h.2.2.2.2⟩
section RLJ
variable {x y : bd_M} {w s n N nb t : Nat} {z : Nat → Nat}
theorem rl_L_of {x' : bd_M} (h : rl_L x n nb z) (e2 : ∀ p, x' 2 0 p = x 2 0 p) (e3 : ∀ p, x' 3 0 p = x 3 0 p) (e11 : ∀ k, x' 11 0 k = x 11 0 k) : rl_L x' n nb z := by
  refine ⟨fun p hp => ?_, fun b hb k hk p hp => ?_⟩
  · rw [e2, e3]
    rcases h.1 p hp with q | ⟨q1, b, k, q2, q3, q4, q5, q6⟩
    · exact Or.inl q
    · exact Or.inr ⟨q1, b, k, q2, q3, q4, q5, by rw [e11]; exact q6⟩
  · rw [e2, e3, e11]; exact h.2 b hb k hk p hp
theorem rl_z8 (h : kx_Sh x w n nb z) : ∀ b, b < nb → z b ≤ 8 := fun b hb => (h.2.2.2.2 b (by have := h.2.2.2.1; omega)).2
/-- turns leave bands that are not founded alone -/
theorem rl_pl_o (hcf : rl_cf x w y n nb z) (hV : rl_V x w y s n nb z nb) (hQ : rl_Q x w y s N nb z nb) (hN : n ≤ N) (hN2 : N ≤ 24) (hz : ∀ b, b < nb → z b ≤ 8) (hnb : 0 < nb) {b : Nat} (hb : nb ≤ b) : ∀ i, (∀ f, f = 22 ∨ f = 24 ∨ f = 25 ∨ f = 27 → kx_pl x w n nb z t i f w b = x f w b) ∧ (∀ k, k < 8 → kx_pl x w n nb z t i 12 w (8 * b + k) = x 12 w (8 * b + k)) ∧ ry_k2 y s n nb z t i 27 s b = y 27 s b
  | 0 => ⟨fun _ _ => rfl, fun _ _ => rfl, rfl⟩
  | i + 1 => by
    obtain ⟨i1, i2, i3⟩ := rl_pl_o hcf hV hQ hN hN2 hz hnb hb i
    obtain ⟨p1, p2, p3, -⟩ := rl_pl (t := t) hcf hV hQ hN hN2 hz hnb i (fun j _ q => absurd (Nat.mod_lt (t + j) hnb) (by omega))
    have hu : (t + i) % nb < nb := Nat.mod_lt _ hnb
    have hzu := hz _ hu
    have h := rl_H_of p1 (p2 _ hu (by omega)) p3.1 p3.2.1 hu hN (by omega) hzu
    have hne : ¬ b = (t + i) % nb := by omega
    rw [kx_pl, ry_k2, rl_tu]
    refine ⟨fun f hf => ?_, fun k hk => ?_, ?_⟩
    · rw [← i1 f hf, rl_Z_f (by omega)]
      rcases hf with rfl | rfl | rfl | rfl
      · rw [rl_C_22, if_neg hne]
      · rw [rl_C_24, if_neg hne]
      · rw [rl_C_25, if_neg hne]
      · rw [rl_C_27, if_neg hne]
    · rw [rl_Z_f (by decide), rl_C_f (by decide), rl_S_12o h (by omega)]; exact i2 k hk
    · rw [rl_rplay_eq, ry_pE_f (by decide) (by decide), rl_D_27, if_neg hne]; exact i3
theorem rl_pl_k {f w' k : Nat} (h : f ≠ 0 ∧ f ≠ 4 ∧ f ≠ 5 ∧ f ≠ 6 ∧ f ≠ 7 ∧ f ≠ 12 ∧ f ≠ 22 ∧ f ≠ 24 ∧ f ≠ 25 ∧ f ≠ 27 ∧ f ≠ 33 ∧ f ≠ 34) : ∀ i, kx_pl x w n nb z t i f w' k = x f w' k
  | 0 => rfl
  | i + 1 => by rw [kx_pl, rl_play_k h]; exact rl_pl_k h i
theorem rl_h1_k {f w' k : Nat} (h : f ≠ 0 ∧ f ≠ 4 ∧ f ≠ 5 ∧ f ≠ 6 ∧ f ≠ 7 ∧ f ≠ 12 ∧ f ≠ 22 ∧ f ≠ 24 ∧ f ≠ 25 ∧ f ≠ 27 ∧ f ≠ 33 ∧ f ≠ 34) : kx_h1 x w n nb z t f w' k = x f w' k := by
  rw [kx_h1, rl_pl_k h, kx_fd_f (by omega)]
theorem rl_mn50 {v : Int32} : ¬ 50 < bd_mx 0 (bd_mn 50 v) := by
  unfold bd_mn
  by_cases h : v < 50
  · rw [if_pos h]
    unfold bd_mx
    by_cases h2 : 0 < v
    · rw [if_pos h2]
      exact fun q => Int32.lt_irrefl (Int32.lt_trans h q)
    · rw [if_neg h2]; decide
  · rw [if_neg h]; decide
/-- the other season stays -/
theorem rl_upo {x : bd_M} {f g w w' k j : Nat} {v : Int32} (h : w' ≠ w) : bd_up x g w j v f w' k = x f w' k := bd_up_n (fun q => h q.2.1)
theorem rl_seat_o {b zb w' f k : Nat} (h : w' ≠ w) : kx_seat x w n b zb f w' k = x f w' k := by
  have e1 : ∀ i, kx_ns x w i f w' k = x f w' k := fun i => by
    induction i with
    | zero => rfl
    | succ i ih => rw [kx_ns, rl_upo h]; exact ih
  have e2 : ∀ i, kx_sm (kx_ns x w n) w n b i f w' k = x f w' k := fun i => by
    induction i with
    | zero => exact e1 n
    | succ i ih =>
      rw [kx_sm]
      unfold kx_sm1
      split
      · split
        · rw [rl_upo h, rl_upo h, rl_upo h]; exact ih
        · rw [rl_upo h]; exact ih
      · rw [rl_upo h]; exact ih
  have e3 : ∀ i, kx_sd (kx_sm (kx_ns x w n) w n b zb) w n b i f w' k = x f w' k := fun i => by
    induction i with
    | zero => exact e2 zb
    | succ i ih =>
      rw [kx_sd]
      unfold kx_sd1 kx_sd2
      split
      · split
        · rw [rl_upo h, rl_upo h]; exact ih
        · rw [rl_upo h]; exact ih
      · exact ih
  exact e3 zb
theorem rl_play_o {b zb w' f k : Nat} (h : w' ≠ w) : kx_play x w n b zb f w' k = x f w' k := by
  have eC : rl_C x w n b zb f w' k = x f w' k := by
    rw [rl_C, kx_p6, rl_upo h, kx_p5, rl_upo h]
    unfold kx_p4
    split
    · rw [rl_upo h, kx_p3, rl_upo h, kx_p2, rl_upo h, kx_p1, rl_upo h]; exact rl_seat_o h
    · rw [kx_p3, rl_upo h, kx_p2, rl_upo h, kx_p1, rl_upo h]; exact rl_seat_o h
  have e1 : ∀ i, kx_no (rl_C x w n b zb) w n b i f w' k = x f w' k := fun i => by
    induction i with
    | zero => exact eC
    | succ i ih =>
      rw [kx_no]
      unfold kx_no1 kx_no2
      split
      · split
        · rw [rl_upo h, rl_upo h, rl_upo h]; exact ih
        · rw [rl_upo h]; exact ih
      · exact ih
  have e2 : ∀ i, kx_ml (kx_no (rl_C x w n b zb) w n b zb) w i f w' k = x f w' k := fun i => by
    induction i with
    | zero => exact e1 zb
    | succ i ih =>
      rw [kx_ml]
      unfold kx_rest kx_tire
      split
      · rw [rl_upo h]; exact ih
      · rw [rl_upo h]; exact ih
  exact e2 n
theorem rl_plh_o {w' f k : Nat} (h : w' ≠ w) : ∀ i, kx_pl (kx_fd x w n) w n nb z t i f w' k = x f w' k
  | 0 => by
    have e1 : ∀ i, kx_fd x w i f w' k = x f w' k := fun i => by
      induction i with
      | zero => rfl
      | succ i ih => rw [kx_fd, rl_upo h]; exact ih
    exact e1 n
  | i + 1 => by rw [kx_pl, rl_play_o h]; exact rl_plh_o h i
theorem rl_hold_o {w' f k : Nat} (h : w' ≠ w) : kx_hold x w n nb z t f w' k = x f w' k := by
  have e1 : ∀ i, kx_gp (kx_h1 x w n nb z t) w nb i f w' k = x f w' k := fun i => by
    induction i with
    | zero => exact rl_plh_o h nb
    | succ i ih =>
      rw [kx_gp]
      unfold kx_gp2
      split
      · rw [rl_upo h]; exact ih
      · rw [rl_upo h, rl_upo h]; exact ih
  have e2 : ∀ i, kx_rl (kx_gp (kx_h1 x w n nb z t) w nb nb) w z i f w' k = x f w' k := fun i => by
    induction i with
    | zero => exact e1 nb
    | succ i ih => rw [kx_rl, kx_raise, rl_upo h]; exact ih
  have e3 : ∀ i, kx_ab (kx_rl (kx_gp (kx_h1 x w n nb z t) w nb nb) w z nb) w i f w' k = x f w' k := fun i => by
    induction i with
    | zero => exact e2 nb
    | succ i ih => rw [kx_ab, rl_upo h]; exact ih
  rw [kx_hold, rl_upo h]
  exact e3 n
theorem rl_hold_J (h : rl_J x y n nb z t) (hnb : 0 < nb) : rl_J (kx_hold x 0 n nb z t) (ry_con y 0 n nb z t) n nb z (t + 1) ∧ kx_gw (kx_h1 x 0 n nb z t) 0 nb nb = ry_kw (ry_k2e y 0 n nb z t) 0 nb z nb := by
  obtain ⟨j1, j2, j3, j4, j5, j6, j7, j8⟩ := h
  have hn := j1.2.1
  have hnb6 := j1.2.2.2.1
  have hz := rl_z8 j1
  obtain ⟨k1, k2⟩ := rl_hold (t := t) (rl_M_n (m := n) j3) hn (Nat.le_refl 24) hz hnb hnb6
  refine ⟨⟨kx_hold_sh j1, ry_con_sh j2, k1, ⟨j4.1, fun b hb hb6 => ?_⟩, ?_, ?_, fun b hb hb6 => ?_, fun b hb6 => ?_⟩, k2⟩
  · rw [rl_hold_o (by decide)]; exact j4.2 b hb hb6
  · rw [kx_hold_32, j5]; exact nI_1 t
  · exact rl_L_of j6 (fun p => by rw [rl_hold_f (by decide), rl_h1_k (by decide)]) (fun p => by rw [rl_hold_f (by decide), rl_h1_k (by decide)]) (fun p => by rw [rl_hold_f (by decide), rl_h1_k (by decide)])
  · obtain ⟨⟨a1, a2, a3⟩, ⟨a4, a5, a6, a7⟩, a8⟩ := j7 b hb hb6
    obtain ⟨m1, m2, m3, m4, m5, m6, m7, m8, m9⟩ := rl_M_n (m := n) j3
    obtain ⟨f1, f2, f3⟩ := rl_fd m1 m2 m3 m4 m5 m6 m7
    obtain ⟨o1, o2, o3⟩ := rl_pl_o (t := t) f1 f2 f3 hn (Nat.le_refl 24) hz hnb hb nb
    have e : ∀ f, f = 22 ∨ f = 24 ∨ f = 25 ∨ f = 27 → kx_hold x 0 n nb z t f 0 b = x f 0 b := fun f hf => by
      rw [rl_hold_f (by omega), kx_h1, o1 f hf, kx_fd_f (by omega)]
    have k21 : kx_hold x 0 n nb z t 21 0 b = x 21 0 b := by
      rw [kx_hold, bd_up_f (by decide), kx_h4, rl_ab_f (by decide), rl_rl, if_neg (by omega), rl_gp_f (by decide) (by decide), rl_h1_k (by decide)]
    have k26 : kx_hold x 0 n nb z t 26 0 b = x 26 0 b := by
      rw [kx_hold, bd_up_f (by decide), kx_h4, rl_ab_f (by decide), rl_rl_f (by decide), (rl_gp nb b).2, if_neg (by omega), rl_h1_k (by decide)]
    have k23 : kx_hold x 0 n nb z t 23 0 b = x 23 0 b := by
      rw [kx_hold, bd_up_f (by decide), kx_h4, rl_ab_f (by decide), rl_rl_f (by decide), (rl_gp nb b).1, if_neg (by omega), rl_h1_k (by decide)]
    have r25 : ry_con y 0 n nb z t 25 0 b = y 25 0 b := by
      rw [ry_con, bd_up_f (by decide), ry_k4e, ry_k4_f (by decide), (rl_k3 nb b).2, if_neg (by omega), ry_k2e, ry_k2_f (by decide), ry_k1_f (by decide)]
    have r26 : ry_con y 0 n nb z t 26 0 b = y 26 0 b := by
      rw [ry_con, bd_up_f (by decide), ry_k4e, ry_k4_f (by decide), (rl_k3 nb b).1, if_neg (by omega), ry_k2e, ry_k2_f (by decide), ry_k1_f (by decide)]
    have r27 : ry_con y 0 n nb z t 27 0 b = y 27 0 b := by
      rw [rl_con_f (by decide), ry_k2e, o3, ry_k1_f (by decide)]
    refine ⟨⟨?_, ?_, ?_⟩, ⟨?_, ?_, ?_, ?_⟩, fun k hk => ⟨?_, ?_⟩⟩
    · rw [k21, r25]; exact a1
    · rw [k26, r26]; exact a2
    · rw [e 27 (by decide), r27]; exact a3
    · rw [e 22 (by decide)]; exact a4
    · rw [k23]; exact a5
    · rw [e 24 (by decide)]; exact a6
    · rw [e 25 (by decide)]; exact a7
    · rw [rl_hold_f (by decide), rl_h1_k (by decide)]; exact (a8 k hk).1
    · rw [rl_hold_f (by decide), kx_h1, o2 k hk, kx_fd_f (by decide)]; exact (a8 k hk).2
  · have k21 : kx_hold x 0 n nb z t 21 0 b = if b < nb then bd_mx 0 (bd_mn 50 (kx_gp (kx_h1 x 0 n nb z t) 0 nb nb 21 0 b + (kx_owns (kx_gp (kx_h1 x 0 n nb z t) 0 nb nb) 0 b (z b) - 2 * kx_deps (kx_gp (kx_h1 x 0 n nb z t) 0 nb nb) 0 b (z b)))) else x 21 0 b := by
      rw [kx_hold, bd_up_f (by decide), kx_h4, rl_ab_f (by decide), rl_rl]
      by_cases c : b < nb
      · rw [if_pos c, if_pos c]
      · rw [if_neg c, if_neg c, rl_gp_f (by decide) (by decide), rl_h1_k (by decide)]
    rw [k21]
    by_cases c : b < nb
    · rw [if_pos c]; exact ⟨rl_mx0, rl_mn50⟩
    · rw [if_neg c]; exact j8 b hb6
end RLJ
