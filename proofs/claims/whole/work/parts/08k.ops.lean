/-! MORE CALLS -/
section LK
variable {l : Launch} {E : bd_E} {x y : bd_M} {n nb t i : Nat} {z : Nat → Nat}
theorem rl_me {w s b zb : Nat} : ∀ i, i ≤ zb → (∀ k, k < zb → x 11 w (8 * b + k) = y 23 s (8 * b + k)) → kx_mem x w b i = ry_me y s b i
  | 0, _, _ => rfl
  | i + 1, hi, h => by
    rw [kx_mem, ry_me, rl_me i (by omega) h, h i (by omega)]
    split
    · rw [Int32.add_zero]
    · rfl
theorem rl_J11 (h : rl_J x y n nb z t) {b k : Nat} (hb : b < nb) (hk : k < z b) : x 11 0 (8 * b + k) = y 23 0 (8 * b + k) ∧ ry_mv n (x 11 0 (8 * b + k)) := (h.2.2.1.2.1 b hb (by omega)).1 k hk
theorem rl_bt (h : rl_J x y n nb z t) {b q : Nat} (hb : b < nb) (hq : q < 9) : kx_btell x 0 b (z b) (nI q) = ry_bt (ry_t0 y) b (z b) q := by
  obtain ⟨a1, a2, a3, a4, a5, a6⟩ := h.2.2.1.2.2.2.2.1 b hb
  have a7 := h.2.2.1.2.2.2.2.2.2.2.1 b hb
  have e := rl_me (x := x) (y := ry_t0 y) (w := 0) (s := 0) (b := b) (zb := z b) (z b) (Nat.le_refl _) (fun k hk => (rl_J11 h hb hk).1)
  obtain rfl | rfl | rfl | rfl | rfl | rfl | rfl | rfl | rfl : q = 0 ∨ q = 1 ∨ q = 2 ∨ q = 3 ∨ q = 4 ∨ q = 5 ∨ q = 6 ∨ q = 7 ∨ q = 8 := by omega
  · rfl
  · exact e
  · exact a1
  · exact a2
  · exact a7
  · exact a3
  · exact a4
  · exact a5
  · exact a6
theorem la_J_band (hlf : l.stackTraces = false) (h : rl_J x y n nb z t) (hi : t ≤ i) : la_O_band l E x y (rl_Jn (i + 1)) := by
  intro a b om
  have hs := h.1
  have hy := h.2.1
  have hnb : nb ≤ 6 := hs.2.2.2.1
  have e9 : ∀ a : Int32, (¬ a < 0 ∧ a < 9) ↔ (¬ a < 0 ∧ ¬ 8 < a) := fun a => and_congr_right (fun q => la_ltI (m := 8) (by decide) q)
  by_cases hp : ¬ a < 0 ∧ a < nI nb
  · obtain ⟨k, hk, rfl⟩ := la_ix (by omega) hp
    by_cases h2 : ¬ b < 0 ∧ b < 9
    · obtain ⟨q, hq, rfl⟩ := la_ix (n := 9) (by decide) h2
      exact la_ok0 (k_L_band_ok l E x y _ om (nI k) (nI q) (k_X5_band l E x y om n nb z k q hs hk hq)) (k_X7_band_ok l E _ y _ n nb z k q hy hk hq) (by decide) rfl (rl_bt h hk hq) (la_up (rl_J_t h) (by omega))
    · exact la_okx (k_L_band_x1 l E x y om (nI k) b (k_X5_band_x2 l hlf E x y om n nb z k b hs hk h2)) (k_X7_band_1 l E x y om n nb z (nI k) b hy (fun q => h2 ((e9 _).mpr q.2))) (by decide) rfl (by decide) (la_up (rl_J_t (rl_J_t h)) (by omega))
  · exact la_okx (k_L_band_x1 l E x y om a b (k_X5_band_x1 l hlf E x y om n nb z a b hs hp)) (k_X7_band_1 l E x y om n nb z a b hy (fun q => hp q.1)) (by decide) rfl (by decide) (la_up (rl_J_t (rl_J_t h)) (by omega))
theorem rl_ctell (h : rl_J x y n nb z t) {b k : Nat} (hb : b < nb) (hk : k < z b) (q : Int32) : kx_ctell x 0 (8 * b + k) q = ry_ctell (ry_t0 y) (8 * b + k) q := by
  unfold kx_ctell ry_ctell
  have e1 := (h.2.2.1.1.2.1 b hb k hk).1
  have e2 := (rl_J11 h hb hk).1
  have e3 := h.2.2.1.2.2.2.2.2.2.1 b hb (by omega) k hk
  rw [e1, e2, e3]
  rfl
theorem la_chb (h : kx_Sh x 0 n nb z) {b : Nat} (hb : b < nb) : z b < 2 ^ 31 := by
  have := rl_z8 h b hb
  omega
theorem la_J_chair (hlf : l.stackTraces = false) (h : rl_J x y n nb z t) (hi : t ≤ i) : la_O_chair l E x y (rl_Jn (i + 1)) := by
  intro a b d om
  have hs := h.1
  have hy := h.2.1
  have hnb : nb ≤ 6 := hs.2.2.2.1
  have e3 : ∀ a : Int32, (¬ a < 0 ∧ a < 3) ↔ (¬ a < 0 ∧ ¬ 2 < a) := fun a => and_congr_right (fun q => la_ltI (m := 2) (by decide) q)
  by_cases hp : ¬ a < 0 ∧ a < nI nb
  · obtain ⟨k, hk, rfl⟩ := la_ix (by omega) hp
    have hc : (nI k).toNatClampNeg = k := nI_clamp (by omega)
    by_cases h2 : ¬ b < 0 ∧ b < nI (z k)
    · obtain ⟨q, hq, rfl⟩ := la_ix (la_chb hs hk) h2
      by_cases h3 : ¬ d < 0 ∧ d < 3
      · obtain ⟨r, hr, rfl⟩ := la_ix (n := 3) (by decide) h3
        exact la_ok0 (k_L_chair_ok l E x y _ om (nI k) (nI q) (nI r) (k_X5_chair l E x y om n nb z k q r hs hk hq hr)) (k_X7_chair_ok l E _ y _ n nb z k q (nI r) hy hk hq ((e3 _).mp h3)) (by decide) rfl (rl_ctell h hk hq _) (la_up (rl_J_t h) (by omega))
      · exact la_okx (k_L_chair_x1 l E x y om (nI k) (nI q) d (k_X5_chair_xw l hlf E x y om n nb z k q d hs hk hq h3)) (k_X7_chair_1 l E x y om n nb z (nI k) (nI q) d hy (fun q => h3 ((e3 _).mpr q.2))) (by decide) rfl (by decide) (la_up (rl_J_t (rl_J_t h)) (by omega))
    · exact la_okx (k_L_chair_x1 l E x y om (nI k) b d (k_X5_chair_xs l hlf E x y om n nb z k b d hs hk h2)) (k_X7_chair_1 l E x y om n nb z (nI k) b d hy (fun q => h2 (by have := q.1.2; rw [hc] at this; exact this))) (by decide) rfl (by decide) (la_up (rl_J_t (rl_J_t h)) (by omega))
  · exact la_okx (k_L_chair_x1 l E x y om a b d (k_X5_chair_xb l hlf E x y om n nb z a b d hs hp)) (k_X7_chair_1 l E x y om n nb z a b d hy (fun q => hp q.1.1)) (by decide) rfl (by decide) (la_up (rl_J_t (rl_J_t h)) (by omega))
theorem rl_bp (h : ∀ b, b < nb → x 26 0 b = y 26 0 b) {i : Nat} (hi : i < nb) : ∀ j, j ≤ nb → kx_abp x 0 i j = ry_bp (ry_t0 y) i j
  | 0, _ => rfl
  | j + 1, hj => by
    have ei : ry_t0 y 26 0 i = y 26 0 i := rfl
    have ej : ry_t0 y 26 0 j = y 26 0 j := rfl
    rw [kx_abp, ry_bp, rl_bp h hi j (by omega), h i hi, h j (by omega), ei, ej]
    repeat' split
    all_goals first | rfl | rw [Int32.add_zero]
theorem rl_bbp (h : ∀ b, b < nb → x 26 0 b = y 26 0 b) {v : Int32} : ∀ f i, i + f ≤ nb → kx_bbp x 0 nb v f i = ry_rk (ry_t0 y) nb v f i
  | 0, _, _ => rfl
  | f + 1, i, hi => by rw [kx_bbp, ry_rk, rl_bp h (by omega) nb (Nat.le_refl nb), rl_bbp h f (i + 1) (by omega)]
theorem la_J_rank (hlf : l.stackTraces = false) (h : rl_J x y n nb z t) (hi : t ≤ i) : la_O_rank l E x y (rl_Jn (i + 1)) := by
  intro a om
  have hs := h.1
  have hy := h.2.1
  have hnb : nb ≤ 6 := hs.2.2.2.1
  by_cases hp : ¬ a < 0 ∧ a < nI nb
  · obtain ⟨k, hk, rfl⟩ := la_ix (by omega) hp
    exact la_ok0 (k_L_rank_ok l E x y _ om (nI k) (k_X5_rank l E x y om n nb z k hs hk)) (k_X7_rank_ok l E _ y _ n nb z k hy hk) (by decide) rfl (rl_bbp (fun b hb => (h.2.2.1.2.2.2.2.1 b hb).2.2.2.2.1) nb 0 (by omega)) (la_up (rl_J_t h) (by omega))
  · exact la_okx (k_L_rank_x1 l E x y om a (k_X5_rank_x l hlf E x y om n nb z a hs hp)) (k_X7_rank_1 l E x y om n nb z a hy hp) (by decide) rfl (by decide) (la_up (rl_J_t (rl_J_t h)) (by omega))
theorem rl_mm (h : rl_J x y n nb z t) : ∀ b, b ≤ nb → kx_mia x 0 z b = ry_mm (ry_t0 y) z b
  | 0, _ => rfl
  | b + 1, hb => by rw [kx_mia, ry_mm, rl_mm h b (by omega), rl_me (x := x) (y := ry_t0 y) (w := 0) (s := 0) (b := b) (zb := z b) (z b) (Nat.le_refl _) (fun k hk => (rl_J11 h (by omega) hk).1)]
theorem rl_aw (h : rl_J x y n nb z t) : ∀ p, p ≤ 24 → kx_aia x 0 p = ry_aw (ry_t0 y) p
  | 0, _ => rfl
  | p + 1, hp => by
    obtain ⟨a1, a2, a3, a4, a5⟩ := h.2.2.1.2.2.1 p (by omega)
    have e : ry_t0 y 20 0 p = y 20 0 p := rfl
    rw [kx_aia, ry_aw, rl_aw h p (by omega), e, ← a2]
    by_cases c : x 1 0 p = 0
    · rw [if_pos c, if_pos (by rw [c]; decide), Int32.add_zero]
    · rw [if_neg c, if_neg (fun q => c (Int32.le_antisymm q (Int32.not_lt.mp a3)))]
theorem rl_ct (h : rl_J x y n nb z t) {q : Nat} (hq : q < 7) : kx_stell x 0 n nb z (nI q) = ry_ct (ry_t0 y) n nb z q := by
  obtain rfl | rfl | rfl | rfl | rfl | rfl | rfl : q = 0 ∨ q = 1 ∨ q = 2 ∨ q = 3 ∨ q = 4 ∨ q = 5 ∨ q = 6 := by omega
  · exact h.2.2.1.2.2.2.2.2.2.2.2
  · rfl
  · rfl
  · exact rl_mm h nb (Nat.le_refl nb)
  · exact rl_aw h n h.1.2.1
  · exact h.2.2.1.2.2.2.2.2.1.1
  · exact h.2.2.1.2.2.2.2.2.1.2
theorem la_J_count (hlf : l.stackTraces = false) (h : rl_J x y n nb z t) (hi : t ≤ i) : la_O_count l E x y (rl_Jn (i + 1)) := by
  intro a om
  have hs := h.1
  have hy := h.2.1
  have e7 : ∀ a : Int32, (¬ a < 0 ∧ a < 7) ↔ (¬ a < 0 ∧ ¬ 6 < a) := fun a => and_congr_right (fun q => la_ltI (m := 6) (by decide) q)
  by_cases hp : ¬ a < 0 ∧ a < 7
  · obtain ⟨k, hk, rfl⟩ := la_ix (n := 7) (by decide) hp
    exact la_ok0 (k_L_count_ok l E x y _ om (nI k) (k_X5_count l E x y om n nb z k hs hk)) (k_X7_count_ok l E _ y _ n nb z k hy hk) (by decide) rfl (rl_ct h hk) (la_up (rl_J_t h) (by omega))
  · exact la_okx (k_L_count_x1 l E x y om a (k_X5_count_x l hlf E x y om n nb z a hs hp)) (k_X7_count_1 l E x y om n nb z a hy (fun q => hp ((e7 _).mpr q))) (by decide) rfl (by decide) (la_up (rl_J_t (rl_J_t h)) (by omega))
theorem rl_mSC (h : ∀ b, b < nb → x 22 0 b = y 28 0 (4 * b)) : ∀ j, j ≤ nb → kx_mS x 0 j = ry_mS (ry_t0 y) j ∧ kx_mC x 0 j = ry_mC (ry_t0 y) j
  | 0, _ => ⟨rfl, rfl⟩
  | j + 1, hj => by
    obtain ⟨i1, i2⟩ := rl_mSC h j (by omega)
    have e : ry_t0 y 28 0 (4 * j) = y 28 0 (4 * j) := rfl
    rw [kx_mS, ry_mS, kx_mC, ry_mC, i1, i2, h j (by omega), e]
    exact ⟨rfl, rfl⟩
theorem la_J_mean (h : rl_J x y n nb z t) (hi : t ≤ i) : la_O_mean l E x y (rl_Jn (i + 1)) := by
  intro om
  obtain ⟨e1, e2⟩ := rl_mSC (x := x) (y := y) (nb := nb) (fun b hb => (h.2.2.1.2.2.2.2.1 b hb).2.1) nb (Nat.le_refl nb)
  have hC := k_X5_mean l E x y om n nb z h.1
  rw [e1, e2] at hC
  exact ⟨_, _, _, _, _, _, _, _, x, ry_t0 y, _, by decide, hC, k_X7_mean l E x y om n nb z h.2.1, la_up (rl_J_t h) (by omega)⟩
end LK
