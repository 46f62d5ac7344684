/-! MORE CALLS: rehearse, change, addPlayer -/
section LL
variable {l : Launch} {E : bd_E} {x y x' y' : bd_M} {n nb t i : Nat} {z : Nat → Nat}
theorem rl_J_cong (h : rl_J x y n nb z t) (ex : ∀ f w k, f ≠ 0 → f ≠ 21 → x' f w k = x f w k) (ey : ∀ f w k, f ≠ 0 → f ≠ 19 → f ≠ 25 → y' f w k = y f w k) (e0 : ∀ p, p < 24 → x' 0 0 p = y' 19 0 p) (e21 : ∀ b, b < 6 → x' 21 0 b = y' 25 0 b) (sp : rl_sp6 x') : rl_J x' y' n nb z t := by
  obtain ⟨j1, j2, ⟨⟨m1, m1b, m1c⟩, m2, m3, m4, m5, m6, m7, m8, m9⟩, j4, j5, j6, j7, j8⟩ := h
  have hnb : nb ≤ 6 := j1.2.2.2.1
  refine ⟨kx_Sh_of j1 (ex _ _ _ (by decide) (by decide)) (ex _ _ _ (by decide) (by decide)) (fun b => ex _ _ _ (by decide) (by decide)), ry_Sh_of j2 (fun f k hf => ey _ _ _ (by omega) (by omega) (by omega)), ⟨⟨fun p hp j hj => ?_, fun b hb k hk => ?_, fun p hp => ?_⟩, fun b hb hbe => ?_, fun p hp => ?_, fun p h1 h2 => ?_, fun b hb => ?_, ?_, fun b hb hbe k hk => ?_, fun b hb => ?_, ?_⟩, ⟨j4.1, fun b hb hb6 => ?_⟩, ?_, ?_, fun b hb hb6 => ?_, sp⟩
  · rw [ex _ _ _ (by omega) (by omega), ey _ _ _ (by decide) (by decide) (by decide)]; exact m1 p hp j hj
  · rw [ex _ _ _ (by decide) (by decide), ey _ _ _ (by decide) (by decide) (by decide)]; exact m1b b hb k hk
  · rw [ex _ _ _ (by decide) (by decide), ex _ _ _ (by decide) (by decide), ey _ _ _ (by decide) (by decide) (by decide), ey _ _ _ (by decide) (by decide) (by decide)]; exact m1c p hp
  · exact rl_V1_of (m2 b hb hbe) (fun k hk => ex _ _ _ (by decide) (by decide)) (fun k hk => ey _ _ _ (by decide) (by decide) (by decide))
  · obtain ⟨a1, a2, a3, a4, a5⟩ := m3 p hp
    rw [ex 1 _ _ (by decide) (by decide), ex 4 _ _ (by decide) (by decide), ex 5 _ _ (by decide) (by decide), ey 20 _ _ (by decide) (by decide) (by decide), ey 21 _ _ (by decide) (by decide) (by decide), ey 22 _ _ (by decide) (by decide) (by decide)]
    exact ⟨e0 p hp, a2, a3, a4, a5⟩
  · rw [ex _ _ _ (by decide) (by decide), ey _ _ _ (by decide) (by decide) (by decide)]; exact m4 p h1 h2
  · obtain ⟨a1, a2, a3, a4, a5, a6⟩ := m5 b hb
    rw [ex 22 _ _ (by decide) (by decide), ex 24 _ _ (by decide) (by decide), ex 25 _ _ (by decide) (by decide), ex 26 _ _ (by decide) (by decide), ex 27 _ _ (by decide) (by decide), ey 28 _ _ (by decide) (by decide) (by decide), ey 28 _ _ (by decide) (by decide) (by decide), ey 28 _ _ (by decide) (by decide) (by decide), ey 26 _ _ (by decide) (by decide) (by decide), ey 27 _ _ (by decide) (by decide) (by decide)]
    exact ⟨e21 b (by omega), a2, a3, a4, a5, a6⟩
  · unfold rl_QG
    rw [ex _ _ _ (by decide) (by decide), ex _ _ _ (by decide) (by decide), ey _ _ _ (by decide) (by decide) (by decide), ey _ _ _ (by decide) (by decide) (by decide)]; exact m6
  · rw [ex _ _ _ (by decide) (by decide), ey _ _ _ (by decide) (by decide) (by decide)]; exact m7 b hb hbe k hk
  · rw [ex _ _ _ (by decide) (by decide), ey _ _ _ (by decide) (by decide) (by decide)]; exact m8 b hb
  · rw [ex _ _ _ (by decide) (by decide), ey _ _ _ (by decide) (by decide) (by decide)]; exact m9
  · rw [ex _ _ _ (by decide) (by decide)]; exact j4.2 b hb hb6
  · rw [ex _ _ _ (by decide) (by decide)]; exact j5
  · exact rl_L_of j6 (fun p => ex _ _ _ (by decide) (by decide)) (fun p => ex _ _ _ (by decide) (by decide)) (fun p => ex _ _ _ (by decide) (by decide))
  · obtain ⟨⟨a1, a2, a3⟩, ⟨a4, a5, a6, a7⟩, a8⟩ := j7 b hb hb6
    rw [ex 26 _ _ (by decide) (by decide), ex 27 _ _ (by decide) (by decide), ex 22 _ _ (by decide) (by decide), ex 23 _ _ (by decide) (by decide), ex 24 _ _ (by decide) (by decide), ex 25 _ _ (by decide) (by decide), ey 26 _ _ (by decide) (by decide) (by decide), ey 27 _ _ (by decide) (by decide) (by decide)]
    refine ⟨⟨e21 b hb6, a2, a3⟩, ⟨a4, a5, a6, a7⟩, fun k hk => ?_⟩
    rw [ex 11 _ _ (by decide) (by decide), ex 12 _ _ (by decide) (by decide)]
    exact a8 k hk
theorem rl_J_mem (h : rl_J x y n nb z t) (ex : ∀ f w k, f ≠ 2 → f ≠ 3 → f ≠ 11 → x' f w k = x f w k) (ey : ∀ f w k, f ≠ 0 → f ≠ 23 → y' f w k = y f w k) (e11 : ∀ b, b < nb → ∀ k, k < z b → x' 11 0 (8 * b + k) = y' 23 0 (8 * b + k) ∧ ry_mv n (x' 11 0 (8 * b + k))) (hL : rl_L x' n nb z) (hD : ∀ b, nb ≤ b → b < 6 → ∀ k, k < 8 → x' 11 0 (8 * b + k) = (-1)) : rl_J x' y' n nb z t := by
  obtain ⟨j1, j2, ⟨⟨m1, m1b, m1c⟩, m2, m3, m4, m5, m6, m7, m8, m9⟩, j4, j5, j6, j7, j8⟩ := h
  have hnb : nb ≤ 6 := j1.2.2.2.1
  have hn : n ≤ 24 := j1.2.1
  have hz := rl_z8 j1
  refine ⟨kx_Sh_of j1 (ex _ _ _ (by decide) (by decide) (by decide)) (ex _ _ _ (by decide) (by decide) (by decide)) (fun b => ex _ _ _ (by decide) (by decide) (by decide)), ry_Sh_of j2 (fun f k hf => ey _ _ _ (by omega) (by omega)), ⟨⟨fun p hp j hj => ?_, fun b hb k hk => ?_, fun p hp => ?_⟩, fun b hb hbe => ⟨fun k hk => e11 b hb k hk, fun k hk j hj e hne => ?_⟩, fun p hp => ?_, fun p h1 h2 => ?_, fun b hb => ?_, ?_, fun b hb hbe k hk => ?_, fun b hb => ?_, ?_⟩, ⟨j4.1, fun b hb hb6 => ?_⟩, ?_, hL, fun b hb hb6 => ?_, fun b hb => ?_⟩
  · rw [ex _ _ _ (by omega) (by omega) (by omega), ey _ _ _ (by decide) (by decide)]; exact m1 p hp j hj
  · rw [ex _ _ _ (by decide) (by decide) (by decide), ey _ _ _ (by decide) (by decide)]; exact m1b b hb k hk
  · rw [ex _ _ _ (by decide) (by decide) (by decide), ex _ _ _ (by decide) (by decide) (by decide), ey _ _ _ (by decide) (by decide), ey _ _ _ (by decide) (by decide)]; exact m1c p hp
  · have hz' := hz b hb
    obtain ⟨q1, q2⟩ := rl_mvI (e11 b hb k hk).2 hne
    have a1 := (hL.2 b hb k hk _ q2 q1).2
    have a2 := (hL.2 b hb j hj _ q2 (e.symm.trans q1)).2
    exact (nI_eq (by omega) (by omega)).mp (a1.symm.trans a2)
  · rw [ex 0 _ _ (by decide) (by decide) (by decide), ex 1 _ _ (by decide) (by decide) (by decide), ex 4 _ _ (by decide) (by decide) (by decide), ex 5 _ _ (by decide) (by decide) (by decide), ey 19 _ _ (by decide) (by decide), ey 20 _ _ (by decide) (by decide), ey 21 _ _ (by decide) (by decide), ey 22 _ _ (by decide) (by decide)]
    exact m3 p hp
  · rw [ex _ _ _ (by decide) (by decide) (by decide), ey _ _ _ (by decide) (by decide)]; exact m4 p h1 h2
  · rw [ex 21 _ _ (by decide) (by decide) (by decide), ex 22 _ _ (by decide) (by decide) (by decide), ex 24 _ _ (by decide) (by decide) (by decide), ex 25 _ _ (by decide) (by decide) (by decide), ex 26 _ _ (by decide) (by decide) (by decide), ex 27 _ _ (by decide) (by decide) (by decide), ey 25 _ _ (by decide) (by decide), ey 28 _ _ (by decide) (by decide), ey 28 _ _ (by decide) (by decide), ey 28 _ _ (by decide) (by decide), ey 26 _ _ (by decide) (by decide), ey 27 _ _ (by decide) (by decide)]
    exact m5 b hb
  · unfold rl_QG
    rw [ex _ _ _ (by decide) (by decide) (by decide), ex _ _ _ (by decide) (by decide) (by decide), ey _ _ _ (by decide) (by decide), ey _ _ _ (by decide) (by decide)]; exact m6
  · rw [ex _ _ _ (by decide) (by decide) (by decide), ey _ _ _ (by decide) (by decide)]; exact m7 b hb hbe k hk
  · rw [ex _ _ _ (by decide) (by decide) (by decide), ey _ _ _ (by decide) (by decide)]; exact m8 b hb
  · rw [ex _ _ _ (by decide) (by decide) (by decide), ey _ _ _ (by decide) (by decide)]; exact m9
  · rw [ex _ _ _ (by decide) (by decide) (by decide)]; exact j4.2 b hb hb6
  · rw [ex _ _ _ (by decide) (by decide) (by decide)]; exact j5
  · obtain ⟨a1, a2, a8⟩ := j7 b hb hb6
    rw [ex 21 _ _ (by decide) (by decide) (by decide), ex 26 _ _ (by decide) (by decide) (by decide), ex 27 _ _ (by decide) (by decide) (by decide), ex 22 _ _ (by decide) (by decide) (by decide), ex 23 _ _ (by decide) (by decide) (by decide), ex 24 _ _ (by decide) (by decide) (by decide), ex 25 _ _ (by decide) (by decide) (by decide), ey 25 _ _ (by decide) (by decide), ey 26 _ _ (by decide) (by decide), ey 27 _ _ (by decide) (by decide)]
    refine ⟨a1, a2, fun k hk => ⟨hD b hb hb6 k hk, ?_⟩⟩
    rw [ex 12 _ _ (by decide) (by decide) (by decide)]
    exact (a8 k hk).2
  · rw [ex _ _ _ (by decide) (by decide) (by decide)]; exact j8 b hb
-- rehearse
theorem rl_tm_f {w b f w' k : Nat} {v : Int32} (h : f ≠ 0) : ∀ i, kx_tm x w n b v i f w' k = x f w' k
  | 0 => rfl
  | i + 1 => by
    rw [kx_tm]
    unfold kx_tm1 kx_tire
    split
    · split
      · rw [bd_up_f h]; exact rl_tm_f h i
      · exact rl_tm_f h i
    · exact rl_tm_f h i
theorem rl_tm {b zb : Nat} (hn : n ≤ 24) (hm : ∀ k, k < zb → x 11 0 (8 * b + k) = y 23 0 (8 * b + k) ∧ ry_mv n (x 11 0 (8 * b + k))) (h1 : ∀ p, p < 24 → x 1 0 p = y 20 0 p) (h0 : ∀ p, p < 24 → x 0 0 p = y 19 0 p) : ∀ i, i ≤ zb → ∀ p, p < 24 → kx_tm x 0 n b 5 i 0 0 p = ry_rt y b i 19 0 p
  | 0, _, p, hp => h0 p hp
  | i + 1, hi, p, hp => by
    have ih := rl_tm hn hm h1 h0 i (by omega)
    obtain ⟨m1, m2⟩ := hm i (by omega)
    have e11 : kx_tm x 0 n b 5 i 11 0 (8 * b + i) = x 11 0 (8 * b + i) := rl_tm_f (by decide) i
    have e23 : ry_rt y b i 23 0 (8 * b + i) = y 23 0 (8 * b + i) := ry_rt_f (by decide) i
    rw [kx_tm, ry_rt, e11, e23, ← m1]
    unfold kx_tm1 ry_rt1 kx_tire
    by_cases c : x 11 0 (8 * b + i) = (-1)
    · rw [if_neg (fun q => (rl_mvn m2 hn).mp q c), if_pos c]; exact ih p hp
    · have hq := (rl_mvI m2 c).2
      rw [if_pos ((rl_mvn m2 hn).mpr c), if_neg c, rl_tm_f (f := 1) (by decide), ry_rt_f (f := 20) (by decide), h1 _ (by omega)]
      by_cases d : y 20 0 (x 11 0 (8 * b + i)).toNatClampNeg = 0
      · rw [if_pos d, if_pos d, rl_up, rl_up, ih _ (by omega)]
        by_cases e : p = (x 11 0 (8 * b + i)).toNatClampNeg
        · rw [if_pos ⟨rfl, rfl, e⟩, if_pos ⟨rfl, rfl, e⟩]
        · rw [if_neg (fun q => e q.2.2), if_neg (fun q => e q.2.2)]; exact ih p hp
      · rw [if_neg d, if_neg d]; exact ih p hp
theorem rl_raise3 {v : Int32} (h1 : ¬ v < 0) (h2 : ¬ 50 < v) : bd_mx 0 (bd_mn 50 (v + 3)) = bd_mn 50 (v + 3) := by
  obtain ⟨j, hj, rfl⟩ := nI_of h1
  have hj5 : j ≤ 50 := by
    have : ¬ 50 < j := fun q => h2 ((nI_ltI (a := 50) (b := j) (by decide) hj).mpr q)
    omega
  have e : nI j + 3 = nI (j + 3) := nI_add j 3
  rw [e]
  have hp : ∀ k, k < 60 → bd_mx 0 (nI k) = nI k := fun k hk => by
    unfold bd_mx
    by_cases c : 0 < nI k
    · rw [if_pos c]
    · rw [if_neg c]
      exact Int32.le_antisymm (nI_pos' (by omega)) (Int32.not_lt.mp c)
  unfold bd_mn
  split
  · exact hp (j + 3) (by omega)
  · rfl
theorem la_J_rehearse (hlf : l.stackTraces = false) (h : rl_J x y n nb z t) (hi : t ≤ i) : la_O_rehearse l E x y (rl_Jn (i + 1)) := by
  intro a om
  have hs := h.1
  have hy := h.2.1
  have hn : n ≤ 24 := hs.2.1
  have hnb : nb ≤ 6 := hs.2.2.2.1
  by_cases hp : ¬ a < 0 ∧ a < nI nb
  · obtain ⟨b, hb, rfl⟩ := la_ix (by omega) hp
    have hMb : ry_Mb y 0 n nb z := fun b hb k hk => by
      have := rl_J11 h hb hk
      rw [← this.1]; exact this.2
    have hx21 : kx_raise x 0 b 3 21 0 b = bd_mn 50 (y 25 0 b + 3) := by
      rw [kx_raise, bd_up_s, rl_raise3 (h.2.2.2.2.2.2.2 b (by omega)).1 (h.2.2.2.2.2.2.2 b (by omega)).2, (h.2.2.1.2.2.2.2.1 b hb).1]
    have X21 : ∀ k, kx_tm (kx_raise x 0 b 3) 0 n b 5 (z b) 21 0 k = kx_raise x 0 b 3 21 0 k := fun k => rl_tm_f (by decide) (z b)
    have Y25 : ∀ k, ry_reh (ry_t0 y) b (z b) 25 0 k = bd_up (ry_t0 y) 25 0 b (bd_mn 50 (ry_t0 y 25 0 b + 3)) 25 0 k := fun k => ry_rt_f (by decide) (z b)
    have key : ∀ k, k < 6 → kx_tm (kx_raise x 0 b 3) 0 n b 5 (z b) 21 0 k = ry_reh (ry_t0 y) b (z b) 25 0 k := fun k hk => by
      rw [X21, Y25]
      by_cases c : k = b
      · subst c
        rw [hx21, bd_up_s]
        rfl
      · rw [kx_raise, bd_up_n (fun q => c q.2.2), bd_up_n (fun q => c q.2.2)]
        show _ = y 25 0 k
        rcases Nat.lt_or_ge k nb with q | q
        · exact (h.2.2.1.2.2.2.2.1 k q).1
        · exact (h.2.2.2.2.2.2.1 k q hk).1.1
    refine la_ok0 (k_L_rehearse_ok l E x y _ om (nI b) (k_X5_rehearse l E x y om n nb z b hs hb)) (k_X7_rehearse_ok l E _ y _ n nb z b hy hb hMb) (by decide) ?_ (key b (by omega)) (la_up (n := n) (nb := nb) (z := z) (t' := t) (rl_J_cong h (fun f w k h1 h2 => ?_) (fun f w k h1 h2 h3 => ?_) (fun p hp => ?_) key (fun k hk => ?_)) (by omega))
    · show ry_rt _ b (z b) 0 0 0 = 0
      rw [ry_rt_f (by decide), bd_up_f (by decide)]
      exact bd_up_s
    · rw [rl_tm_f h1, kx_raise, bd_up_f h2]
    · show ry_rt _ b (z b) f w k = _
      rw [ry_rt_f h2, bd_up_f h3]
      exact bd_up_f h1
    · refine rl_tm (x := kx_raise x 0 b 3) (y := bd_up (ry_t0 y) 25 0 b (bd_mn 50 (ry_t0 y 25 0 b + 3))) (b := b) (zb := z b) hn (fun k hk => ?_) (fun p hp => ?_) (fun p hp => ?_) (z b) (Nat.le_refl _) p hp
      · rw [kx_raise, bd_up_f (by decide), bd_up_f (by decide)]; exact rl_J11 h hb hk
      · rw [kx_raise, bd_up_f (by decide), bd_up_f (by decide)]; exact (h.2.2.1.2.2.1 p hp).2.1
      · rw [kx_raise, bd_up_f (by decide), bd_up_f (by decide)]; exact (h.2.2.1.2.2.1 p hp).1
    · rw [X21, kx_raise, rl_up]
      by_cases c : k = b
      · rw [if_pos ⟨rfl, rfl, c⟩]; exact ⟨rl_mx0, rl_mn50⟩
      · rw [if_neg (fun q => c q.2.2)]; exact h.2.2.2.2.2.2.2 k hk
  · exact la_okx (k_L_rehearse_x1 l E x y om a (k_X5_rehearse_x l hlf E x y om n nb z a hs hp)) (k_X7_rehearse_1 l E x y om n nb z a hy hp) (by decide) rfl (by decide) (la_up (rl_J_t (rl_J_t h)) (by omega))
end LL
