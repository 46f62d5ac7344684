/-! MORE CALLS: seat, player, free, digest -/
section LO
variable {l : Launch} {E : bd_E} {x y : bd_M} {n nb t i : Nat} {z : Nat → Nat}
theorem rl_seat_J (h : rl_J x y n nb z t) {b q : Nat} {v : Int32} (hb : b < nb) (hq : q < z b) (hv : v = (-1) ∨ ∃ p, p < n ∧ v = nI p ∧ (x 11 0 (8 * b + q) = (-1) ∨ x 11 0 (8 * b + q) = nI p)) : rl_J (kx_putOn (kx_leave (kx_leave x 0 n nb z (x 11 0 (8 * b + q))) 0 n nb z v) 0 n b q v) (ry_seat (ry_t0 y) nb z (8 * b + q) v) n nb z t := by
  have hn : n ≤ 24 := h.1.2.1
  obtain ⟨s1, s2, s3, s4⟩ := rl_seat_x h hb hq hv
  have hv2 : v = (-1) ∨ ∃ p, p < n ∧ v = nI p := hv.elim Or.inl (fun q => by obtain ⟨p, h1, h2, -⟩ := q; exact Or.inr ⟨p, h1, h2⟩)
  have hmv : ry_mv n v := by
    rcases hv2 with q | ⟨p, h1, h2⟩
    · exact Or.inl q
    · rw [h2]; exact ry_mv_nI h1 hn
  refine rl_J_mem h s3 (fun f w k h1 h2 => ?_) (fun b' hb' k hk => ⟨?_, ?_⟩) s4 (fun b' hb' hb6 k hk => ?_)
  · rw [ry_seat, bd_up_f h2]
    unfold ry_s1
    split
    · exact bd_up_f h1
    · rw [bd_up_f h2]; exact bd_up_f h1
  · rw [s1 b' hb' k hk, rl_seat_y h hv2 hb' hk]
  · rw [s1 b' hb' k hk]
    split
    · exact hmv
    · split
      · exact Or.inl rfl
      · exact (rl_J11 h hb' hk).2
  · rw [s2 b' k hb']
    exact ((h.2.2.2.2.2.2.1 b' hb' hb6).2.2 k hk).1
theorem la_J_seat (hlf : l.stackTraces = false) (h : rl_J x y n nb z t) (hi : t ≤ i) : la_O_seat l E x y (rl_Jn (i + 1)) := by
  intro a b d om
  have hs := h.1
  have hy := h.2.1
  have hn : n ≤ 24 := hs.2.1
  have hnb : nb ≤ 6 := hs.2.2.2.1
  have hz := rl_z8 hs
  have t0 : ∀ k v, ry_seat (ry_t0 y) nb z k v 0 0 0 = 0 := fun k v => by
    rw [ry_seat, bd_up_f (by decide)]
    unfold ry_s1
    split
    · exact bd_up_s
    · rw [bd_up_f (by decide)]; exact bd_up_s
  by_cases hp : ¬ a < 0 ∧ a < nI nb
  · obtain ⟨k, hk, rfl⟩ := la_ix (by omega) hp
    have hc : (nI k).toNatClampNeg = k := nI_clamp (by omega)
    by_cases h2 : ¬ b < 0 ∧ b < nI (z k)
    · obtain ⟨q, hq, rfl⟩ := la_ix (la_chb hs hk) h2
      have e11 := (rl_J11 h hk hq).1
      by_cases hd : d = (-1)
      · subst hd
        refine la_ok0 (k_L_seat_ok l E x y _ om (nI k) (nI q) (-1) (k_X5_seat_out l E x y om n nb z k q hs hk hq)) (k_X7_seat_ok l E _ y _ n nb z k q (-1) hy hk hq (Or.inl rfl) (Or.inl rfl)) (by decide) (t0 _ _) e11 (la_up (rl_seat_J h hk hq (Or.inl rfl)) (by omega))
      · by_cases h3 : ¬ d < 0 ∧ d < nI n
        · obtain ⟨p, hp2, rfl⟩ := la_ix (by omega) h3
          by_cases h4 : x 11 0 (8 * k + q) = (-1) ∨ x 11 0 (8 * k + q) = nI p
          · exact la_ok0 (k_L_seat_ok l E x y _ om (nI k) (nI q) (nI p) (k_X5_seat_ok l E x y om n nb z k q p hs hk hq hp2 h4)) (k_X7_seat_ok l E _ y _ n nb z k q (nI p) hy hk hq (Or.inr h3) (Or.inr (by rw [← e11]; exact h4))) (by decide) (t0 _ _) e11 (la_up (rl_seat_J h hk hq (Or.inr ⟨p, hp2, rfl, h4⟩)) (by omega))
          · exact la_okx (k_L_seat_x2 l E x y om (nI k) (nI q) (nI p) (k_X5_seat_x2 l hlf E x y om n nb z k q p hs hk hq hp2 (fun a => h4 (Or.inl a)) (fun a => h4 (Or.inr a)))) (k_X7_seat_2 l E x y om n nb z k q (nI p) hy hk hq h3 hd (by rw [← e11]; exact fun a => h4 (Or.inl a)) (by rw [← e11]; exact fun a => h4 (Or.inr a))) (by decide) rfl (by decide) (la_up (rl_J_t (rl_J_t h)) (by omega))
        · exact la_okx (k_L_seat_x1 l E x y om (nI k) (nI q) d (k_X5_seat_xp l hlf E x y om n nb z k q d hs hk hq hd h3)) (k_X7_seat_1 l E x y om n nb z (nI k) (nI q) d hy (fun a => a.2.elim hd h3)) (by decide) rfl (by decide) (la_up (rl_J_t (rl_J_t h)) (by omega))
    · exact la_okx (k_L_seat_x1 l E x y om (nI k) b d (k_X5_seat_xs l hlf E x y om n nb z k b d hs hk h2)) (k_X7_seat_1 l E x y om n nb z (nI k) b d hy (fun q => h2 (by have := q.1.2; rw [hc] at this; exact this))) (by decide) rfl (by decide) (la_up (rl_J_t (rl_J_t h)) (by omega))
  · exact la_okx (k_L_seat_x1 l E x y om a b d (k_X5_seat_xb l hlf E x y om n nb z a b d hs hp)) (k_X7_seat_1 l E x y om n nb z a b d hy (fun q => hp q.1.1)) (by decide) rfl (by decide) (la_up (rl_J_t (rl_J_t h)) (by omega))
theorem rl_ptell (h : rl_J x y n nb z t) {p q : Nat} (hp : p < n) (hq : q < 10) : kx_ptell x 0 p (nI q) = ry_ptell (ry_t0 y) nb z p q := by
  have hn : n ≤ 24 := h.1.2.1
  have hnb : nb ≤ 6 := h.1.2.2.2.1
  have hz := rl_z8 h.1
  obtain ⟨a1, a2, a3, a4, a5⟩ := h.2.2.1.2.2.1 p (by omega)
  have c := h.2.2.1.1.1 p hp
  have hso := rl_seatOf (rl_J_t (v := 0) h) hp
  obtain rfl | rfl | rfl | rfl | rfl | rfl | rfl | rfl | rfl | rfl : q = 0 ∨ q = 1 ∨ q = 2 ∨ q = 3 ∨ q = 4 ∨ q = 5 ∨ q = 6 ∨ q = 7 ∨ q = 8 ∨ q = 9 := by omega
  · exact (c 0 (by decide)).1
  · exact (c 1 (by decide)).1
  · exact (c 2 (by decide)).1
  · exact (c 3 (by decide)).1
  · exact a1
  · exact a2
  · show x 2 0 p = if ry_so (ry_t0 y) 0 nb z (nI p) 48 0 = (-1) then (-1) else ry_so (ry_t0 y) 0 nb z (nI p) 48 0 / 8
    rcases hso with ⟨b1, b2, b3⟩ | ⟨b, k, b1, b2, b3, b4, b5, b6⟩
    · rw [b3, if_pos rfl]; exact b1
    · have hzb := hz b b1
      have hd : nI (8 * b + k) / 8 = nI b := (pk_div (a := 8 * b + k) (d := 8) (by omega) (by decide) (by decide)).trans (by rw [show (8 * b + k) / 8 = b by omega])
      rw [b6, if_neg (rl_nIm (by omega)), hd]; exact b3
  · show x 3 0 p = if ry_so (ry_t0 y) 0 nb z (nI p) 48 0 = (-1) then (-1) else ry_so (ry_t0 y) 0 nb z (nI p) 48 0 - ry_so (ry_t0 y) 0 nb z (nI p) 48 0 / 8 * 8
    rcases hso with ⟨b1, b2, b3⟩ | ⟨b, k, b1, b2, b3, b4, b5, b6⟩
    · rw [b3, if_pos rfl]; exact b2
    · have hzb := hz b b1
      have hd : nI (8 * b + k) - nI (8 * b + k) / 8 * 8 = nI k := (pk_rem (a := 8 * b + k) (d := 8) (by omega) (by decide) (by decide)).trans (by rw [show (8 * b + k) % 8 = k by omega])
      rw [b6, if_neg (rl_nIm (by omega)), hd]; exact b4
  · exact a4
  · exact a5
theorem la_J_player (hlf : l.stackTraces = false) (h : rl_J x y n nb z t) (hi : t ≤ i) : la_O_player l E x y (rl_Jn (i + 1)) := by
  intro a b om
  have hs := h.1
  have hy := h.2.1
  have hn : n ≤ 24 := hs.2.1
  have e10 : ∀ a : Int32, (¬ a < 0 ∧ a < 10) ↔ (¬ a < 0 ∧ ¬ 9 < a) := fun a => and_congr_right (fun q => la_ltI (m := 9) (by decide) q)
  by_cases hp : ¬ a < 0 ∧ a < nI n
  · obtain ⟨k, hk, rfl⟩ := la_ix (by omega) hp
    by_cases h2 : ¬ b < 0 ∧ b < 10
    · obtain ⟨q, hq, rfl⟩ := la_ix (n := 10) (by decide) h2
      exact la_ok0 (k_L_player_ok l E x y _ om (nI k) (nI q) (k_X5_player l E x y om n nb z k q hs hk hq)) (k_X7_player_ok l E _ y _ n nb z k q hy hk hq) (by decide) rfl (rl_ptell h hk hq) (la_up (rl_J_t h) (by omega))
    · exact la_okx (k_L_player_x1 l E x y om (nI k) b (k_X5_player_x2 l hlf E x y om n nb z k b hs hk h2)) (k_X7_player_1 l E x y om n nb z (nI k) b hy (fun q => h2 ((e10 _).mpr q.2))) (by decide) rfl (by decide) (la_up (rl_J_t (rl_J_t h)) (by omega))
  · exact la_okx (k_L_player_x1 l E x y om a b (k_X5_player_x1 l hlf E x y om n nb z a b hs hp)) (k_X7_player_1 l E x y om n nb z a b hy (fun q => hp q.1)) (by decide) rfl (by decide) (la_up (rl_J_t (rl_J_t h)) (by omega))
theorem rl_sk (h : rl_J x y n nb z t) {p g : Nat} (hp : p < n) (hg : g < 4) : kx_skill x 0 p (nI g) = y 13 0 (4 * p + g) := by
  unfold kx_skill
  rw [if_neg (nI_pos (by omega)), if_neg (fun q => ?_), nI_clamp (by omega)]
  · exact (h.2.2.1.1.1 p hp g hg).1
  · have := (nI_leI (a := 4) (b := g) (by decide) (by omega)).mp q
    omega
theorem rl_bf (h : rl_J x y n nb z t) {g : Nat} (hg : g < 4) : ∀ p, p ≤ n → (kx_bf x 0 (nI g) p).1 = ry_fr1 (ry_t0 y) nb z g p ∧ (kx_bf x 0 (nI g) p).2 = (if ry_fr1 (ry_t0 y) nb z g p = (-1) then (-1) else y 13 0 (4 * (ry_fr1 (ry_t0 y) nb z g p).toNatClampNeg + g))
  | 0, _ => ⟨rfl, rfl⟩
  | p + 1, hp => by
    have hn : n ≤ 24 := h.1.2.1
    obtain ⟨i1, i2⟩ := rl_bf h hg p (by omega)
    obtain ⟨a1, a2, a3, a4, a5⟩ := h.2.2.1.2.2.1 p (by omega)
    have hso := rl_seatOf (rl_J_t (v := 0) h) (p := p) (by omega)
    have e20 : ry_t0 y 20 0 p = x 1 0 p := a2.symm
    have e13 : ∀ k, ry_t0 y 13 0 k = y 13 0 k := fun k => rfl
    have hs0 := (h.2.2.1.1.1 p (by omega) g hg).2
    have hsoi : ry_so (ry_t0 y) 0 nb z (nI p) 48 0 = (-1) ↔ x 2 0 p = (-1) := by
      rcases hso with ⟨b1, b2, b3⟩ | ⟨b, k, b1, b2, b3, b4, b5, b6⟩
      · exact ⟨fun _ => b1, fun _ => b3⟩
      · have hzb := rl_z8 h.1 b b1
        have hnb := h.1.2.2.2.1
        exact ⟨fun q => absurd (b6.symm.trans q) (rl_nIm (by omega)), fun q => absurd (b3.symm.trans q) (rl_nIm (by omega))⟩
    rw [kx_bf, ry_fr1, rl_sk h (by omega) hg, e20, e13, e13]
    by_cases c1 : x 1 0 p = 0
    · rw [if_neg (show ¬ 0 < x 1 0 p by rw [c1]; decide)]
      by_cases c2 : x 2 0 p = (-1)
      · rw [if_pos c2, if_pos c1, if_pos (hsoi.mpr c2), i2]
        by_cases c3 : ry_fr1 (ry_t0 y) nb z g p = (-1)
        · rw [if_pos c3, if_neg (fun q => hs0 (Int32.lt_of_le_of_lt q (by decide))), if_pos c3, if_neg (rl_nIm (by omega)), nI_clamp (by omega)]
          exact ⟨rfl, rfl⟩
        · rw [if_neg c3, if_neg c3]
          by_cases c4 : y 13 0 (4 * p + g) ≤ y 13 0 (4 * (ry_fr1 (ry_t0 y) nb z g p).toNatClampNeg + g)
          · rw [if_pos c4, if_pos c4, if_neg c3]
            exact ⟨i1, by rw [i2, if_neg c3]⟩
          · rw [if_neg c4, if_neg c4, if_neg (rl_nIm (by omega)), nI_clamp (by omega)]
            exact ⟨rfl, rfl⟩
      · rw [if_neg c2, if_neg (fun q => c2 (hsoi.mp q))]
        exact ⟨i1, i2⟩
    · have c1' : 0 < x 1 0 p := by
        rcases Int32.lt_or_le 0 (x 1 0 p) with q | q
        · exact q
        · exact absurd (Int32.le_antisymm q (Int32.not_lt.mp a3)) c1
      rw [if_pos c1', if_neg c1]
      split
      · exact ⟨i1, i2⟩
      · exact ⟨i1, i2⟩
theorem la_J_free (hlf : l.stackTraces = false) (h : rl_J x y n nb z t) (hi : t ≤ i) : la_O_free l E x y (rl_Jn (i + 1)) := by
  intro a om
  have hs := h.1
  have hy := h.2.1
  have e4 : ∀ a : Int32, (¬ a < 0 ∧ a < 4) ↔ (¬ a < 0 ∧ ¬ 3 < a) := fun a => and_congr_right (fun q => la_ltI (m := 3) (by decide) q)
  by_cases hp : ¬ a < 0 ∧ a < 4
  · obtain ⟨k, hk, rfl⟩ := la_ix (n := 4) (by decide) hp
    exact la_ok0 (k_L_free_ok l E x y _ om (nI k) (k_X5_free l E x y om n nb z k hs hk)) (k_X7_free_ok l E _ y _ n nb z k hy hk) (by decide) rfl (rl_bf h hk n (Nat.le_refl n)).1 (la_up (rl_J_t h) (by omega))
  · exact la_okx (k_L_free_x1 l E x y om a (k_X5_free_x l hlf E x y om n nb z a hs hp)) (k_X7_free_1 l E x y om n nb z a hy (fun q => hp ((e4 _).mpr q))) (by decide) rfl (by decide) (la_up (rl_J_t (rl_J_t h)) (by omega))
theorem rl_sum (h : rl_J x y n nb z t) : kx_sum x 0 n nb z = ry_sum (ry_t0 y) n nb z := by
  have d1 : ∀ i, i ≤ 7 → kx_d1 x 0 n nb z i = ry_d1 (ry_t0 y) n nb z i := fun i => by
    induction i with
    | zero => intro _; rfl
    | succ i ih => intro hi; rw [kx_d1, ry_d1, ih (by omega), rl_ct h (by omega)]
  have d2 : ∀ d i, i ≤ 4 → kx_d2 d x 0 i = ry_d2 d (ry_t0 y) i := fun d i => by
    induction i with
    | zero => intro _; rfl
    | succ i ih =>
      intro hi
      have c := h.2.2.1.1.2.2 i (by omega)
      rw [kx_d2, ry_d2, ih (by omega), c.1, c.2]
      rfl
  have d3i : ∀ d p, p < n → ∀ q, q ≤ 10 → kx_d3i d x 0 p q = ry_d3i d (ry_t0 y) nb z p q := fun d p hp q => by
    induction q with
    | zero => intro _; rfl
    | succ q ih => intro hq; rw [kx_d3i, ry_d3i, ih (by omega), rl_ptell h hp (by omega)]
  have d3 : ∀ d p, p ≤ n → kx_d3 d x 0 p = ry_d3 d (ry_t0 y) nb z p := fun d p => by
    induction p with
    | zero => intro _; rfl
    | succ p ih => intro hp; rw [kx_d3, ry_d3, ih (by omega), d3i _ p (by omega) 10 (Nat.le_refl 10)]
  have w1 : ∀ d b, b < nb → ∀ q, q ≤ 9 → kx_w1 d x 0 b (z b) q = ry_w1 d (ry_t0 y) b (z b) q := fun d b hb q => by
    induction q with
    | zero => intro _; rfl
    | succ q ih => intro hq; rw [kx_w1, ry_w1, ih (by omega), rl_bt h hb (by omega)]
  have w2i : ∀ d b k, b < nb → k < z b → ∀ q, kx_w2i d x 0 (8 * b + k) q = ry_w2i d (ry_t0 y) (8 * b + k) q := fun d b k hb hk q => by
    induction q with
    | zero => rfl
    | succ q ih => rw [kx_w2i, ry_w2i, ih, rl_ctell h hb hk]
  have w2 : ∀ d b, b < nb → ∀ i, i ≤ z b → kx_w2 d x 0 b i = ry_w2 d (ry_t0 y) b i := fun d b hb i => by
    induction i with
    | zero => intro _; rfl
    | succ i ih => intro hi; rw [kx_w2, ry_w2, ih (by omega), w2i _ b i hb (by omega)]
  have d4 : ∀ d b, b ≤ nb → kx_d4 d x 0 z b = ry_d4 d (ry_t0 y) z b := fun d b => by
    induction b with
    | zero => intro _; rfl
    | succ b ih => intro hb; rw [kx_d4, ry_d4, kx_wb, ih (by omega), w1 _ b (by omega) 9 (Nat.le_refl 9), w2 _ b (by omega) (z b) (Nat.le_refl _)]
  rw [kx_sum, ry_sum, d1 7 (Nat.le_refl 7), d2 _ 4 (Nat.le_refl 4), d3 _ n (Nat.le_refl n), d4 _ nb (Nat.le_refl nb)]
theorem la_J_digest (h : rl_J x y n nb z t) (hi : t ≤ i) : la_O_digest l E x y (rl_Jn (i + 1)) := by
  intro om
  have hC := k_X5_digest l E x y om n nb z h.1
  rw [rl_sum h] at hC
  exact ⟨_, _, _, _, _, _, _, _, x, ry_t0 y, _, by decide, hC, k_X7_digest l E x y om n nb z h.2.1, la_up (rl_J_t h) (by omega)⟩
end LO
