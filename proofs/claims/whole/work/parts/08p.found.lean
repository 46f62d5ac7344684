/-! found() -/
section LP
variable {l : Launch} {E : bd_E} {x y : bd_M} {n nb t i : Nat} {z : Nat → Nat}
theorem rl_dv {D : Nat} (hD : D < 2 ^ 31) : ∀ j, kx_dv (nI D) j = nI (D / 10 ^ j)
  | 0 => by rw [kx_dv, Nat.pow_zero, Nat.div_one]
  | j + 1 => by
    rw [kx_dv, rl_dv hD j, Nat.pow_succ, ← Nat.div_div_eq_div_mul]
    exact pk_div (a := D / 10 ^ j) (d := 10) (Nat.lt_of_le_of_lt (Nat.div_le_self _ _) hD) (by decide) (by decide)
theorem rl_dv0 {D : Nat} (hD : D < 2 ^ 31) (j : Nat) : kx_dv (nI D) j ≤ 0 ↔ D < 10 ^ j := by
  have hlt : D / 10 ^ j < 2 ^ 31 := Nat.lt_of_le_of_lt (Nat.div_le_self _ _) hD
  have hp : 0 < 10 ^ j := Nat.pos_of_ne_zero (by simp)
  rw [rl_dv hD]
  constructor
  · intro q
    have := (nI_leI (a := D / 10 ^ j) (b := 0) hlt (by decide)).mp q
    rcases Nat.lt_or_ge D (10 ^ j) with h | h
    · exact h
    · have := Nat.div_pos h hp
      omega
  · intro q
    rw [Nat.div_eq_of_lt q]
    decide
theorem rl_digits (d : Int32) : ∀ m, (∀ j, j < m → ¬ kx_dv d j ≤ 0 ∧ kx_dk d j) ∨ ∃ q, q < m ∧ (∀ j, j < q → ¬ kx_dv d j ≤ 0 ∧ kx_dk d j) ∧ (kx_dv d q ≤ 0 ∨ ¬ kx_dk d q)
  | 0 => Or.inl (fun j hj => absurd hj (Nat.not_lt_zero j))
  | m + 1 => by
    rcases rl_digits d m with h | ⟨q, hq, h1, h2⟩
    · by_cases c : kx_dv d m ≤ 0
      · exact Or.inr ⟨m, by omega, h, Or.inl c⟩
      · by_cases e : kx_dk d m
        · refine Or.inl (fun j hj => ?_)
          by_cases hjm : j = m
          · subst hjm; exact ⟨c, e⟩
          · exact h j (by omega)
        · exact Or.inr ⟨m, by omega, h, Or.inr e⟩
    · exact Or.inr ⟨q, by omega, h1, h2⟩
theorem rl_fu {q : Nat} {d : Int32} : ∀ j, j ≤ q → ∀ k, kx_fu x 0 nb q d j 10 0 k = if 8 * nb + (q - j) ≤ k ∧ k < 8 * nb + q then kx_dg d (8 * nb + q - 1 - k) - 1 else x 10 0 k
  | 0, _, k => by rw [kx_fu, bd_up_f (by decide), if_neg (by omega)]
  | j + 1, hj, k => by
    rw [kx_fu, rl_up, rl_fu j (by omega) k]
    by_cases c : k = 8 * nb + (q - 1 - j)
    · rw [if_pos ⟨rfl, rfl, c⟩, if_pos (by omega), show 8 * nb + q - 1 - k = j by omega]
    · rw [if_neg (fun a => c a.2.2)]
      by_cases e : 8 * nb + (q - j) ≤ k ∧ k < 8 * nb + q
      · rw [if_pos e, if_pos (by omega)]
      · rw [if_neg e, if_neg (by omega)]
theorem rl_fu_f {q j f w k : Nat} {d : Int32} (h : f ≠ 10) (h2 : f ≠ 20) : kx_fu x 0 nb q d j f w k = x f w k := kx_fu_f h2 h j
theorem rl_fu20 {q : Nat} {d : Int32} : ∀ j w k, kx_fu x 0 nb q d j 20 w k = if w = 0 ∧ k = nb then nI q else x 20 w k
  | 0, w, k => by
    rw [kx_fu, rl_up]
    by_cases c : w = 0 ∧ k = nb
    · rw [if_pos ⟨rfl, c⟩, if_pos c]
    · rw [if_neg (fun a => c a.2), if_neg c]
  | j + 1, w, k => by rw [kx_fu, bd_up_f (by decide)]; exact rl_fu20 j w k
theorem rl_fo {q : Nat} {d : Int32} : ∀ j, j ≤ q → ∀ k, ry_fo y nb q d j 15 0 k = (if 8 * nb + (q - j) ≤ k ∧ k < 8 * nb + q then kx_dg d (8 * nb + q - 1 - k) - 1 else y 15 0 k) ∧ ry_fo y nb q d j 23 0 k = (if 8 * nb + (q - j) ≤ k ∧ k < 8 * nb + q then (-1) else y 23 0 k) ∧ ry_fo y nb q d j 24 0 k = (if 8 * nb + (q - j) ≤ k ∧ k < 8 * nb + q then (-1) else y 24 0 k)
  | 0, _, k => by
    rw [if_neg (by omega), if_neg (by omega), if_neg (by omega)]
    exact ⟨rfl, rfl, rfl⟩
  | j + 1, hj, k => by
    obtain ⟨i1, i2, i3⟩ := rl_fo (q := q) (d := d) j (by omega) k
    rw [ry_fo]
    by_cases c : k = 8 * nb + q - 1 - j
    · rw [if_pos (by omega), if_pos (by omega), if_pos (by omega)]
      refine ⟨?_, ?_, ?_⟩
      · rw [bd_up_f (by decide), bd_up_f (by decide), rl_up, if_pos ⟨rfl, rfl, c⟩, show 8 * nb + q - 1 - k = j by omega]
      · rw [bd_up_f (by decide), rl_up, if_pos ⟨rfl, rfl, c⟩]
      · rw [rl_up, if_pos ⟨rfl, rfl, c⟩]
    · have e : (8 * nb + (q - (j + 1)) ≤ k ∧ k < 8 * nb + q) ↔ (8 * nb + (q - j) ≤ k ∧ k < 8 * nb + q) := by omega
      refine ⟨?_, ?_, ?_⟩
      · rw [bd_up_f (by decide), bd_up_f (by decide), bd_up_n (fun a => c a.2.2), i1]
        by_cases f : 8 * nb + (q - j) ≤ k ∧ k < 8 * nb + q
        · rw [if_pos f, if_pos (e.mpr f)]
        · rw [if_neg f, if_neg (fun a => f (e.mp a))]
      · rw [bd_up_f (by decide), bd_up_n (fun a => c a.2.2), bd_up_f (by decide), i2]
        by_cases f : 8 * nb + (q - j) ≤ k ∧ k < 8 * nb + q
        · rw [if_pos f, if_pos (e.mpr f)]
        · rw [if_neg f, if_neg (fun a => f (e.mp a))]
      · rw [bd_up_n (fun a => c a.2.2), bd_up_f (by decide), bd_up_f (by decide), i3]
        by_cases f : 8 * nb + (q - j) ≤ k ∧ k < 8 * nb + q
        · rw [if_pos f, if_pos (e.mpr f)]
        · rw [if_neg f, if_neg (fun a => f (e.mp a))]
theorem rl_fl : ∀ i k, ry_fl y nb i 28 0 k = if 4 * nb ≤ k ∧ k < 4 * nb + i then (-1) else y 28 0 k
  | 0, k => by rw [if_neg (by omega)]; rfl
  | i + 1, k => by
    rw [ry_fl, rl_up, rl_fl i k]
    by_cases c : k = 4 * nb + i
    · rw [if_pos ⟨rfl, rfl, c⟩, if_pos (by omega)]
    · rw [if_neg (fun a => c a.2.2)]
      by_cases e : 4 * nb ≤ k ∧ k < 4 * nb + i
      · rw [if_pos e, if_pos (by omega)]
      · rw [if_neg e, if_neg (by omega)]
theorem rl_dgr {d : Int32} {j : Nat} (h : kx_dk d j) : ¬ kx_dg d j - 1 < 0 ∧ (kx_dg d j - 1).toNatClampNeg < 4 := by
  obtain ⟨h1, h2⟩ := h
  generalize kx_dg d j = v at h1 h2
  have h0 : ¬ v < 0 := fun q => h1 (Int32.lt_trans q (by decide))
  obtain ⟨m, hm, rfl⟩ := nI_of h0
  have a1 : ¬ m < 1 := fun q => h1 ((nI_ltI (a := m) (b := 1) hm (by decide)).mpr q)
  have a2 : ¬ 4 < m := fun q => h2 ((nI_ltI (a := 4) (b := m) (by decide) hm).mpr q)
  have e : nI m - 1 = nI (m - 1) := by
    rw [show m = (m - 1) + 1 by omega]
    exact nI_pred (m - 1)
  rw [e, nI_clamp (by omega)]
  exact ⟨nI_pos (by omega), by omega⟩
def rl_zn (z : Nat → Nat) (nb q : Nat) : Nat → Nat := fun b => if b = nb then q else z b
theorem rl_found (h : rl_J x y n nb z t) {d : Int32} {q : Nat} (hq8 : q ≤ 8) (hk : ∀ j, j < q → kx_dk d j) (hnb : nb < 6) : rl_J (kx_open x 0 nb q d) (ry_fnd (ry_t0 y) nb q d) n (nb + 1) (rl_zn z nb q) t := by
  have hz8 := rl_z8 h.1
  obtain ⟨j1, j2, ⟨⟨m1, m1b, m1c⟩, m2, m3, m4, m5, m6, m7, m8, m9⟩, j4, j5, j6, j7, j8⟩ := h
  obtain ⟨s1, s2, s3, s4, s5, s6, s7⟩ := j2
  obtain ⟨⟨d1, d2, d3⟩, ⟨d4, d5, d6, d7⟩, d8⟩ := j7 nb (Nat.le_refl nb) hnb
  have xf : ∀ f w k, f ≠ 31 → f ≠ 10 → f ≠ 20 → kx_open x 0 nb q d f w k = x f w k := fun f w k h1 h2 h3 => by
    rw [kx_open, bd_up_f h1]; exact rl_fu_f h2 h3
  have x10 : ∀ k, kx_open x 0 nb q d 10 0 k = if 8 * nb ≤ k ∧ k < 8 * nb + q then kx_dg d (8 * nb + q - 1 - k) - 1 else x 10 0 k := fun k => by
    rw [kx_open, bd_up_f (by decide), rl_fu q (Nat.le_refl q), show 8 * nb + (q - q) = 8 * nb by omega]
  have x20 : ∀ w k, kx_open x 0 nb q d 20 w k = if w = 0 ∧ k = nb then nI q else x 20 w k := fun w k => by
    rw [kx_open, bd_up_f (by decide)]; exact rl_fu20 q w k
  have yf : ∀ f w k, f ≠ 0 → f ≠ 2 → f ≠ 28 → f ≠ 14 → f ≠ 15 → f ≠ 23 → f ≠ 24 → ry_fnd (ry_t0 y) nb q d f w k = y f w k := fun f w k h0 h1 h2 h3 h4 h5 h6 => by
    rw [ry_fnd, bd_up_f h1, ry_fl_f h2, ry_fo_f h4 h5 h6, bd_up_f h3]; exact bd_up_f h0
  have yo : ∀ k, ry_fnd (ry_t0 y) nb q d 15 0 k = (if 8 * nb ≤ k ∧ k < 8 * nb + q then kx_dg d (8 * nb + q - 1 - k) - 1 else y 15 0 k) ∧ ry_fnd (ry_t0 y) nb q d 23 0 k = (if 8 * nb ≤ k ∧ k < 8 * nb + q then (-1) else y 23 0 k) ∧ ry_fnd (ry_t0 y) nb q d 24 0 k = (if 8 * nb ≤ k ∧ k < 8 * nb + q then (-1) else y 24 0 k) := fun k => by
    have e := rl_fo (y := bd_up (ry_t0 y) 14 0 nb (nI q)) (nb := nb) (q := q) (d := d) q (Nat.le_refl q) k
    rw [show 8 * nb + (q - q) = 8 * nb by omega] at e
    refine ⟨?_, ?_, ?_⟩
    · rw [ry_fnd, bd_up_f (by decide), ry_fl_f (by decide)]; exact e.1
    · rw [ry_fnd, bd_up_f (by decide), ry_fl_f (by decide)]; exact e.2.1
    · rw [ry_fnd, bd_up_f (by decide), ry_fl_f (by decide)]; exact e.2.2
  have y28 : ∀ k, ry_fnd (ry_t0 y) nb q d 28 0 k = if 4 * nb ≤ k ∧ k < 4 * nb + 4 then (-1) else y 28 0 k := fun k => by
    rw [ry_fnd, bd_up_f (by decide), rl_fl, ry_fo_f (by decide) (by decide) (by decide), bd_up_f (by decide)]; rfl
  have y14 : ∀ k, ry_fnd (ry_t0 y) nb q d 14 0 k = if k = nb then nI q else y 14 0 k := fun k => by
    rw [ry_fnd, bd_up_f (by decide), ry_fl_f (by decide), ry_fo_f (by decide) (by decide) (by decide), rl_up]
    by_cases c : k = nb
    · rw [if_pos ⟨rfl, rfl, c⟩, if_pos c]
    · rw [if_neg (fun a => c a.2.2), if_neg c]; rfl
  have z0' : ∀ b, ¬ b = nb → rl_zn z nb q b = z b := fun b hb => if_neg hb
  have z0 : ∀ b, b < nb → rl_zn z nb q b = z b := fun b hb => if_neg (by omega)
  have zn : rl_zn z nb q nb = q := if_pos rfl
  refine ⟨⟨?_, s2, bd_up_s, by omega, fun b hb => ?_⟩, ⟨?_, s2, bd_up_s, by omega, fun b hb => ?_, fun k hk2 => ?_, fun k hk2 => ?_⟩, ⟨⟨fun p hp j hj => ?_, fun b hb k hkb => ?_, fun p hp => ?_⟩, fun b hb hbe => ?_, fun p hp => ?_, fun p q1 q2 => ?_, fun b hb => ?_, ?_, fun b hb hbe k hkb => ?_, fun b hb => ?_, ?_⟩, ⟨fun b hb => ?_, fun b hb hb6 => ?_⟩, ?_, ⟨fun p hp => ?_, fun b hb k hkb p hp e => ?_⟩, fun b hb hb6 => ?_, fun b hb => ?_⟩
  · rw [xf _ _ _ (by decide) (by decide) (by decide)]; exact j1.1
  · rw [x20]
    by_cases c : b = nb
    · subst c; rw [if_pos ⟨rfl, rfl⟩, zn]; exact ⟨rfl, hq8⟩
    · rw [if_neg (fun a => c a.2), z0' b c]; exact j1.2.2.2.2 b hb
  · rw [yf _ _ _ (by decide) (by decide) (by decide) (by decide) (by decide) (by decide) (by decide)]; exact s1
  · rw [y14]
    by_cases c : b = nb
    · subst c; rw [if_pos rfl, zn]; exact ⟨rfl, hq8⟩
    · rw [if_neg c, z0' b c]; exact s5 b hb
  · rw [(yo k).1]
    by_cases c : 8 * nb ≤ k ∧ k < 8 * nb + q
    · rw [if_pos c]; exact rl_dgr (hk _ (by omega))
    · rw [if_neg c]; exact s6 k hk2
  · rw [yf _ _ _ (by decide) (by decide) (by decide) (by decide) (by decide) (by decide) (by decide)]; exact s7 k hk2
  · rw [xf _ _ _ (by omega) (by omega) (by omega), yf _ _ _ (by decide) (by decide) (by decide) (by decide) (by decide) (by decide) (by decide)]; exact m1 p hp j hj
  · rw [x10, (yo _).1]
    by_cases c : b = nb
    · subst c
      rw [zn] at hkb
      rw [if_pos (by omega), if_pos (by omega)]
      exact ⟨rfl, rl_dgr (hk _ (by omega))⟩
    · rw [z0 b (by omega)] at hkb
      have := hz8 b (by omega)
      rw [if_neg (by omega), if_neg (by omega)]
      exact m1b b (by omega) k hkb
  · rw [xf _ _ _ (by decide) (by decide) (by decide), xf _ _ _ (by decide) (by decide) (by decide), yf _ _ _ (by decide) (by decide) (by decide) (by decide) (by decide) (by decide) (by decide), yf _ _ _ (by decide) (by decide) (by decide) (by decide) (by decide) (by decide) (by decide)]; exact m1c p hp
  · by_cases c : b = nb
    · subst c
      rw [zn]
      refine ⟨fun k hkb => ?_, fun k hkb j hj e hne => ?_⟩
      · rw [xf _ _ _ (by decide) (by decide) (by decide), (yo _).2.1, if_pos (by omega), (d8 k (by omega)).1]
        exact ⟨rfl, Or.inl rfl⟩
      · rw [xf _ _ _ (by decide) (by decide) (by decide)] at hne
        exact absurd (d8 k (by omega)).1 hne
    · rw [z0 b (by omega)]
      have := hz8 b (by omega)
      exact rl_V1_of (m2 b (by omega) (by omega)) (fun k hkb => xf _ _ _ (by decide) (by decide) (by decide)) (fun k hkb => by rw [(yo _).2.1, if_neg (by omega)])
  · rw [xf 0 _ _ (by decide) (by decide) (by decide), xf 1 _ _ (by decide) (by decide) (by decide), xf 4 _ _ (by decide) (by decide) (by decide), xf 5 _ _ (by decide) (by decide) (by decide), yf 19 _ _ (by decide) (by decide) (by decide) (by decide) (by decide) (by decide) (by decide), yf 20 _ _ (by decide) (by decide) (by decide) (by decide) (by decide) (by decide) (by decide), yf 21 _ _ (by decide) (by decide) (by decide) (by decide) (by decide) (by decide) (by decide), yf 22 _ _ (by decide) (by decide) (by decide) (by decide) (by decide) (by decide) (by decide)]
    exact m3 p hp
  · rw [xf _ _ _ (by decide) (by decide) (by decide), yf _ _ _ (by decide) (by decide) (by decide) (by decide) (by decide) (by decide) (by decide)]; exact m4 p q1 q2
  · rw [xf 21 _ _ (by decide) (by decide) (by decide), xf 22 _ _ (by decide) (by decide) (by decide), xf 24 _ _ (by decide) (by decide) (by decide), xf 25 _ _ (by decide) (by decide) (by decide), xf 26 _ _ (by decide) (by decide) (by decide), xf 27 _ _ (by decide) (by decide) (by decide), yf 25 _ _ (by decide) (by decide) (by decide) (by decide) (by decide) (by decide) (by decide), yf 26 _ _ (by decide) (by decide) (by decide) (by decide) (by decide) (by decide) (by decide), yf 27 _ _ (by decide) (by decide) (by decide) (by decide) (by decide) (by decide) (by decide), y28, y28, y28]
    by_cases c : b = nb
    · subst c
      rw [if_pos (by omega), if_pos (by omega), if_pos (by omega)]
      exact ⟨d1, d4, d6, d7, d2, d3⟩
    · rw [if_neg (by omega), if_neg (by omega), if_neg (by omega)]
      exact m5 b (by omega)
  · unfold rl_QG
    rw [xf _ _ _ (by decide) (by decide) (by decide), xf _ _ _ (by decide) (by decide) (by decide), yf _ _ _ (by decide) (by decide) (by decide) (by decide) (by decide) (by decide) (by decide), yf _ _ _ (by decide) (by decide) (by decide) (by decide) (by decide) (by decide) (by decide)]; exact m6
  · rw [xf _ _ _ (by decide) (by decide) (by decide), (yo _).2.2]
    by_cases c : b = nb
    · subst c
      rw [zn] at hkb
      rw [if_pos (by omega)]
      exact (d8 k (by omega)).2
    · rw [z0 b (by omega)] at hkb
      have := hz8 b (by omega)
      rw [if_neg (by omega)]
      exact m7 b (by omega) (by omega) k hkb
  · rw [xf _ _ _ (by decide) (by decide) (by decide), y28]
    by_cases c : b = nb
    · subst c; rw [if_pos (by omega)]; exact d5
    · rw [if_neg (by omega)]; exact m8 b (by omega)
  · rw [xf _ _ _ (by decide) (by decide) (by decide), yf _ _ _ (by decide) (by decide) (by decide) (by decide) (by decide) (by decide) (by decide)]; exact m9
  · rw [z0' b (by omega)]; exact j4.1 b (by omega)
  · rw [x20, if_neg (fun a => absurd a.1 (by decide))]; exact j4.2 b (by omega) hb6
  · rw [xf _ _ _ (by decide) (by decide) (by decide)]; exact j5
  · rw [xf _ _ _ (by decide) (by decide) (by decide), xf _ _ _ (by decide) (by decide) (by decide)]
    rcases j6.1 p hp with a | ⟨a1, b0, k0, a2, a3, a4, a5, a6⟩
    · exact Or.inl a
    · refine Or.inr ⟨a1, b0, k0, by omega, ?_, a4, a5, ?_⟩
      · rw [z0 b0 a2]; exact a3
      · rw [xf _ _ _ (by decide) (by decide) (by decide)]; exact a6
  · rw [xf _ _ _ (by decide) (by decide) (by decide)] at e
    rw [xf _ _ _ (by decide) (by decide) (by decide), xf _ _ _ (by decide) (by decide) (by decide)]
    by_cases c : b = nb
    · subst c
      rw [zn] at hkb
      exact absurd ((d8 k (by omega)).1.symm.trans e).symm (rl_nIm (by omega))
    · rw [z0 b (by omega)] at hkb
      exact j6.2 b (by omega) k hkb p hp e
  · obtain ⟨a1, a2, a8⟩ := j7 b (by omega) hb6
    rw [xf 21 _ _ (by decide) (by decide) (by decide), xf 26 _ _ (by decide) (by decide) (by decide), xf 27 _ _ (by decide) (by decide) (by decide), xf 22 _ _ (by decide) (by decide) (by decide), xf 23 _ _ (by decide) (by decide) (by decide), xf 24 _ _ (by decide) (by decide) (by decide), xf 25 _ _ (by decide) (by decide) (by decide), yf 25 _ _ (by decide) (by decide) (by decide) (by decide) (by decide) (by decide) (by decide), yf 26 _ _ (by decide) (by decide) (by decide) (by decide) (by decide) (by decide) (by decide), yf 27 _ _ (by decide) (by decide) (by decide) (by decide) (by decide) (by decide) (by decide)]
    refine ⟨a1, a2, fun k hkb => ?_⟩
    rw [xf _ _ _ (by decide) (by decide) (by decide), xf _ _ _ (by decide) (by decide) (by decide)]
    exact a8 k hkb
  · rw [xf _ _ _ (by decide) (by decide) (by decide)]; exact j8 b hb
theorem la_J_found (hlf : l.stackTraces = false) (h : rl_J x y n nb z t) (hi : t ≤ i) : la_O_found l E x y (rl_Jn (i + 1)) := by
  intro d om
  have hs := h.1
  have hy := h.2.1
  have hnb6 : nb ≤ 6 := hs.2.2.2.1
  by_cases h0 : d ≤ 0
  · exact la_okx (k_L_found_x1 l E x y om d (k_X5_found_x0 l hlf E x y om n nb z d hs h0)) (k_X7_found_0 l E x y om n nb z d hy (Or.inl h0)) (by decide) rfl (by decide) (la_up (rl_J_t (rl_J_t h)) (by omega))
  · have hd0 : ¬ d < 0 := fun q => h0 (Int32.le_of_lt q)
    obtain ⟨D, hD, rfl⟩ := nI_of hd0
    have big : ∀ q, q ≤ 8 → kx_dv (nI D) q ≤ 0 → ¬ (100000000 : Int32) ≤ nI D := fun q hq hv h8 => by
      have h1 := (rl_dv0 hD q).mp hv
      have h2 := (nI_leI (a := 100000000) (b := D) (by decide) hD).mp h8
      have h3 : 10 ^ q ≤ 10 ^ 8 := Nat.pow_le_pow_right (by decide) hq
      have h4 : (10 : Nat) ^ 8 = 100000000 := by decide
      omega
    have okc : ∀ q, q ≤ 8 → kx_ok (nI D) q → la_Ok l E yL_found cL_found 4 [(0, 9, 12, 13), (0, 9, 15, 15)] yX7_found cX7_found 6 [.int (nI D)] x y om (rl_Jn (i + 1)) := fun q hq8 hk => by
      have hq0 : 0 < q := by
        rcases Nat.eq_zero_or_pos q with e | e
        · subst e; exact absurd hk.2 h0
        · exact e
      have h8 := big q hq8 hk.2
      by_cases hn6 : nb = 6
      · exact la_okx (k_L_found_x2 l E x y om (nI D) (k_X5_found_x2 l hlf E x y om n nb z (nI D) q hs hq0 hq8 hk hn6)) (k_X7_found_2 l E x y om n nb z (nI D) q hy h0 h8 hq8 hk hn6) (by decide) rfl (by decide) (la_up (rl_J_t (rl_J_t h)) (by omega))
      · refine la_ok0 (k_L_found_ok l E x y _ om (nI D) (k_X5_found l E x y om n nb z (nI D) q hs hq0 hq8 hk (by omega))) (k_X7_found_ok l E _ y _ n nb z (nI D) q hy h0 h8 hq8 hk (by omega)) (by decide) ?_ rfl (la_up (rl_found h hq8 (fun j hj => (hk.1 j hj).2) (by omega)) (by omega))
        rw [ry_fnd, bd_up_f (by decide), ry_fl_f (by decide), ry_fo_f (by decide) (by decide) (by decide), bd_up_f (by decide)]
        exact bd_up_s
    rcases rl_digits (nI D) 8 with hall | ⟨q, hq, hpre, hbad⟩
    · by_cases h8 : kx_dv (nI D) 8 ≤ 0
      · exact okc 8 (Nat.le_refl 8) ⟨hall, h8⟩
      · have hb : (100000000 : Int32) ≤ nI D := by
          have h1 : ¬ D < 10 ^ 8 := fun q => h8 ((rl_dv0 hD 8).mpr q)
          have h4 : (10 : Nat) ^ 8 = 100000000 := by decide
          exact (nI_leI (a := 100000000) (b := D) (by decide) hD).mpr (by omega)
        exact la_okx (k_L_found_x1 l E x y om (nI D) (k_X5_found_x1 l hlf E x y om n nb z (nI D) 8 hs (Nat.le_refl 8) hall h8 (Or.inr rfl))) (k_X7_found_0 l E x y om n nb z (nI D) hy (Or.inr hb)) (by decide) rfl (by decide) (la_up (rl_J_t (rl_J_t h)) (by omega))
    · by_cases hv : kx_dv (nI D) q ≤ 0
      · exact okc q (by omega) ⟨hpre, hv⟩
      · have hk := hbad.resolve_left hv
        have hC := k_L_found_x1 l E x y om (nI D) (k_X5_found_x1 l hlf E x y om n nb z (nI D) q hs (by omega) hpre hv (Or.inl hk))
        by_cases h8 : (100000000 : Int32) ≤ nI D
        · exact la_okx hC (k_X7_found_0 l E x y om n nb z (nI D) hy (Or.inr h8)) (by decide) rfl (by decide) (la_up (rl_J_t (rl_J_t h)) (by omega))
        · exact la_okx hC (k_X7_found_1 l E x y om n nb z (nI D) q hy h0 h8 (by omega) hpre ⟨hv, hk⟩) (by decide) rfl (by decide) (la_up (rl_J_t (rl_J_t h)) (by omega))
end LP
