/-! THE WHOLE CONTEST is alike in both -/
def rl_M (x : bd_M) (w : Nat) (y : bd_M) (s n N nb : Nat) (z : Nat → Nat) (m : Nat) : Prop := rl_cf x w y n nb z ∧ rl_V x w y s n nb z nb ∧ rl_QP x w y s N ∧ rl_QT x w y s m N ∧ rl_QB x w y s nb ∧ rl_QG x w y s ∧ rl_QW x w y s nb z nb ∧ (∀ b, b < nb → x 23 w b = y 28 s (4 * b + 1)) ∧ x 32 w 0 = y 10 s 0
section RLH
variable {x y : bd_M} {w s n N nb t : Nat} {z : Nat → Nat}
/-- behind all bands' turns -/
theorem rl_h1 (h : rl_M x w y s n N nb z n) (hN : n ≤ N) (hN2 : N ≤ 24) (hz : ∀ b, b < nb → z b ≤ 8) (hnb : 0 < nb) : rl_cf (kx_h1 x w n nb z t) w (ry_k2e y s n nb z t) n nb z ∧ rl_V (kx_h1 x w n nb z t) w (ry_k2e y s n nb z t) s n nb z nb ∧ rl_Q (kx_h1 x w n nb z t) w (ry_k2e y s n nb z t) s N nb z nb ∧ ∀ b, b < nb → rl_dn (kx_h1 x w n nb z t) w z b := by
  obtain ⟨m1, m2, m3, m4, m5, m6, m7, m8, m9⟩ := h
  obtain ⟨f1, f2, f3⟩ := rl_fd m1 m2 m3 m4 m5 m6 m7
  obtain ⟨p1, p2, p3, p4⟩ := rl_pl (t := t) f1 f2 f3 hN hN2 hz hnb nb (fun j _ q => absurd (Nat.mod_lt (t + j) hnb) (by omega))
  refine ⟨p1, p2, p3, fun b hb => ?_⟩
  obtain ⟨j, hj, e⟩ := rl_cov (t := t) hb
  rw [← e]
  exact p4 j hj
theorem rl_hold_f {f k : Nat} (h : f ≠ 32 ∧ f ≠ 1 ∧ f ≠ 21 ∧ f ≠ 23 ∧ f ≠ 26) : kx_hold x w n nb z t f w k = kx_h1 x w n nb z t f w k := by
  rw [kx_hold, bd_up_f h.1, kx_h4, rl_ab_f h.2.1, rl_rl_f h.2.2.1, rl_gp_f h.2.2.2.1 h.2.2.2.2]
theorem rl_con_f {f w' k : Nat} (h : f ≠ 10 ∧ f ≠ 20 ∧ f ≠ 28 ∧ f ≠ 26 ∧ f ≠ 25) : ry_con y s n nb z t f w' k = ry_k2e y s n nb z t f w' k := by
  rw [ry_con, bd_up_f h.1, ry_k4e, ry_k4_f h.2.1, rl_k3_f h.2.2]
theorem rl_con_28 {k : Nat} : ry_con y s n nb z t 28 s k = if k % 4 = 1 ∧ k / 4 < nb then ry_ab (ry_k2e y s n nb z t) s (k / 4) nb else ry_k2e y s n nb z t 28 s k := by
  rw [ry_con, bd_up_f (by decide), ry_k4e, ry_k4_f (by decide), rl_k3_28]
theorem rl_sp {a o d : Int32} : a + (o - 2 * d) = a + o - 2 * d := by grind
theorem rl_hold (h : rl_M x w y s n N nb z n) (hN : n ≤ N) (hN2 : N ≤ 24) (hz : ∀ b, b < nb → z b ≤ 8) (hnb : 0 < nb) (hnb6 : nb ≤ 6) : rl_M (kx_hold x w n nb z t) w (ry_con y s n nb z t) s n N nb z 0 ∧ kx_gw (kx_h1 x w n nb z t) w nb nb = ry_kw (ry_k2e y s n nb z t) s nb z nb := by
  obtain ⟨p1, p2, ⟨q1, q2, q3, q4, q5⟩, p4⟩ := rl_h1 (t := t) h hN hN2 hz hnb
  have h9 := h.2.2.2.2.2.2.2.2
  have hab : ∀ i, i < nb → kx_abm (kx_h1 x w n nb z t) w i nb = ry_ab (ry_k2e y s n nb z t) s i nb := fun i hi => rl_abm hnb6 hi (fun j hj => ⟨(q3 j hj).2.1, (q3 j hj).2.2.1⟩) nb (Nat.le_refl nb)
  have e32 : kx_h1 x w n nb z t 32 w 0 = x 32 w 0 := by rw [kx_h1, kx_pl_f, kx_fd_f (by decide)]
  have e10 : ry_k2e y s n nb z t 10 s 0 = y 10 s 0 := by rw [ry_k2e, ry_k2_f (by decide), ry_k1_f (by decide)]
  refine ⟨⟨?_, ?_, ?_, ?_, ?_, ?_, ?_, ?_, ?_⟩, ?_⟩
  · exact rl_cf_of p1 (fun j p hj => rl_hold_f (by omega)) (fun k => rl_hold_f (by decide)) (fun i => ⟨rl_hold_f (by decide), rl_hold_f (by decide)⟩) (fun f k hf => rl_con_f (by omega))
  · exact fun b hb hbe => rl_V1_of (p2 b hb hbe) (fun k hk => rl_hold_f (by decide)) (fun k hk => rl_con_f (by decide))
  · intro p hp
    obtain ⟨a1, a2, a3, a4, a5⟩ := q1 p hp
    have k1 : kx_hold x w n nb z t 1 w p = if p < n then bd_mx 0 (kx_h1 x w n nb z t 1 w p - 1) else kx_h1 x w n nb z t 1 w p := by
      rw [kx_hold, bd_up_f (by decide), kx_h4, rl_ab, rl_rl_f (by decide), rl_gp_f (by decide) (by decide)]
    have k20 : ry_con y s n nb z t 20 s p = if p < n then bd_mx 0 (ry_k2e y s n nb z t 20 s p - 1) else ry_k2e y s n nb z t 20 s p := by
      rw [ry_con, bd_up_f (by decide), ry_k4e, rl_k4, rl_k3_f (by decide)]
    rw [k1, k20, rl_hold_f (by decide), rl_hold_f (by decide), rl_hold_f (by decide), rl_con_f (by decide), rl_con_f (by decide), rl_con_f (by decide), ← a2]
    refine ⟨a1, rfl, ?_, a4, a5⟩
    split
    · exact rl_mx0
    · exact a3
  · intro p _ hp
    rw [rl_hold_f (by decide), rl_con_f (by decide)]
    exact q2 p (Nat.zero_le p) hp
  · intro b hb
    obtain ⟨a1, a2, a3, a4, a5, a6⟩ := q3 b hb
    obtain ⟨d1, d2⟩ := p4 b hb
    have k21 : kx_hold x w n nb z t 21 w b = bd_mx 0 (bd_mn 50 (kx_h1 x w n nb z t 21 w b + (kx_owns (kx_h1 x w n nb z t) w b (z b) - 2 * kx_deps (kx_h1 x w n nb z t) w b (z b)))) := by
      rw [kx_hold, bd_up_f (by decide), kx_h4, rl_ab_f (by decide), rl_rl, if_pos hb, rl_gp_f (by decide) (by decide)]
      rw [rl_owns_of (x := kx_h1 x w n nb z t) (z b) (fun k _ => ⟨rl_gp_f (by decide) (by decide) nb, rl_gp_f (by decide) (by decide) nb⟩), rl_deps_of (x := kx_h1 x w n nb z t) (z b) (fun k _ => ⟨rl_gp_f (by decide) (by decide) nb, rl_gp_f (by decide) (by decide) nb⟩)]
    have r25 : ry_con y s n nb z t 25 s b = bd_mx 0 (bd_mn 50 (ry_k2e y s n nb z t 25 s b + ry_ow (ry_k2e y s n nb z t) s b (z b) - 2 * ry_k2e y s n nb z t 28 s (4 * b + 2))) := by
      rw [ry_con, bd_up_f (by decide), ry_k4e, ry_k4_f (by decide), (rl_k3 nb b).2, if_pos hb]
    have k26 : kx_hold x w n nb z t 26 w b = if kx_h1 x w n nb z t 22 w b ≤ 0 then kx_h1 x w n nb z t 26 w b else kx_h1 x w n nb z t 26 w b + kx_pts (kx_abm (kx_h1 x w n nb z t) w b nb) := by
      rw [kx_hold, bd_up_f (by decide), kx_h4, rl_ab_f (by decide), rl_rl_f (by decide), (rl_gp nb b).2, if_pos hb]
    have r26 : ry_con y s n nb z t 26 s b = ry_k2e y s n nb z t 26 s b + (if ry_k2e y s n nb z t 28 s (4 * b) = 0 then 0 else if ry_ab (ry_k2e y s n nb z t) s b nb ≤ 2 then 5 - 2 * ry_ab (ry_k2e y s n nb z t) s b nb else 0) := by
      rw [ry_con, bd_up_f (by decide), ry_k4e, ry_k4_f (by decide), (rl_k3 nb b).1, if_pos hb]
    have eow : kx_owns (kx_h1 x w n nb z t) w b (z b) = ry_ow (ry_k2e y s n nb z t) s b (z b) := rl_owW (z b) (Nat.le_refl _) (fun k hk => ⟨q5 b hb (by omega) k hk, ((p2 b hb (by omega)).1 k hk).1⟩)
    refine ⟨?_, ?_, ?_, ?_, ?_, ?_⟩
    · rw [k21, r25, eow, ← d1, a3, a1, rl_sp]
    · rw [rl_hold_f (by decide), rl_con_28, if_neg (by omega)]; exact a2
    · rw [rl_hold_f (by decide), rl_con_28, if_neg (by omega)]; exact a3
    · rw [rl_hold_f (by decide), rl_con_28, if_neg (by omega)]; exact a4
    · rw [k26, r26, ← hab b hb, a5]
      obtain ⟨c, hc, e⟩ := rl_abm_n (x := kx_h1 x w n nb z t) (w := w) (i := b) nb
      rw [e, rl_pts (by omega)]
      by_cases c0 : kx_h1 x w n nb z t 22 w b = 0
      · have c28 : ry_k2e y s n nb z t 28 s (4 * b) = 0 := a2.symm.trans c0
        have c22 : kx_h1 x w n nb z t 22 w b ≤ 0 := by rw [c0]; decide
        rw [if_pos c22, if_pos c28, Int32.add_zero]
      · have c28 : ¬ ry_k2e y s n nb z t 28 s (4 * b) = 0 := fun q => c0 (a2.trans q)
        rw [if_neg (fun q => c0 (Int32.le_antisymm q (Int32.not_lt.mp d2))), if_neg c28]
    · rw [rl_hold_f (by decide), rl_con_f (by decide)]; exact a6
  · unfold rl_QG
    rw [rl_hold_f (by decide), rl_hold_f (by decide), rl_con_f (by decide), rl_con_f (by decide)]
    exact q4
  · intro b hb hbe k hk
    rw [rl_hold_f (by decide), rl_con_f (by decide)]
    exact q5 b hb hbe k hk
  · intro b hb
    rw [kx_hold, bd_up_f (by decide), kx_h4, rl_ab_f (by decide), rl_rl_f (by decide), (rl_gp nb b).1, if_pos hb, rl_con_28, if_pos (by omega), show (4 * b + 1) / 4 = b by omega]
    exact hab b hb
  · rw [kx_hold, bd_up_s, kx_h4, rl_ab_f (by decide), rl_rl_f (by decide), rl_gp_f (by decide) (by decide), e32, ry_con_10, h9]
  · have key : ∀ i, i ≤ nb → kx_gw (kx_h1 x w n nb z t) w nb i = ry_kw (ry_k2e y s n nb z t) s nb z i := by
      intro i
      induction i with
      | zero => intro _; rfl
      | succ i ih =>
        intro hi
        have e28 := rl_k3_28 (y := ry_k2e y s n nb z t) (s := s) (nb := nb) (z := z) i
        have ea : ry_ab (ry_k3 (ry_k2e y s n nb z t) s nb z i) s i nb = ry_ab (ry_k2e y s n nb z t) s i nb := rl_rab_of (fun k => ⟨by rw [e28, if_neg (by omega)], by rw [e28, if_neg (by omega)]⟩) nb
        rw [kx_gw, ry_kw, ih (by omega), ea, (rl_gp (i + 1) i).1, if_pos (Nat.lt_succ_self i), hab i (by omega)]
    exact key nb (Nat.le_refl nb)
end RLH
