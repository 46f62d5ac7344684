/-! advise() -/
section LR
variable {l : Launch} {E : bd_E} {x y x' y' X X1 : bd_M} {n nb t i b : Nat} {z : Nat → Nat}
theorem rl_mj {i j : Nat} (hi : i < nb) (hj : j < nb) (e : (t + i) % nb = (t + j) % nb) : i = j := by
  have hr : t % nb < nb := Nat.mod_lt _ (by omega)
  have key : ∀ k, k < nb → (t + k) % nb = if t % nb + k < nb then t % nb + k else t % nb + k - nb := fun k hk => by
    rw [← Nat.mod_add_mod]
    by_cases c : t % nb + k < nb
    · rw [if_pos c, Nat.mod_eq_of_lt c]
    · rw [if_neg c, Nat.mod_eq_sub_mod (by omega), Nat.mod_eq_of_lt (by omega)]
  rw [key i hi, key j hj] at e
  split at e <;> split at e <;> omega
theorem rl_ti : ∀ f i, i + f = nb → (∃ j, i ≤ j ∧ j < nb ∧ (t + j) % nb = b) → (∀ j, j < i → (t + j) % nb ≠ b) → kx_ti t nb b f i < nb ∧ (t + kx_ti t nb b f i) % nb = b ∧ ∀ j, j < kx_ti t nb b f i → (t + j) % nb ≠ b
  | 0, i, hi, hx, _ => by obtain ⟨j, h1, h2, -⟩ := hx; omega
  | f + 1, i, hi, hx, hp => by
    rw [kx_ti, rl_tu]
    by_cases c : (t + i) % nb = b
    · rw [if_pos c]; exact ⟨by omega, c, hp⟩
    · rw [if_neg c]
      refine rl_ti f (i + 1) (by omega) ?_ (fun j hj => ?_)
      · obtain ⟨j, h1, h2, h3⟩ := hx
        refine ⟨j, ?_, h2, h3⟩
        rcases Nat.eq_or_lt_of_le h1 with e | e
        · subst e; exact absurd h3 c
        · exact e
      · by_cases e : j = i
        · subst e; exact c
        · exact hp j (by omega)
/-- the marks of band b in the reference's whole contest -/
theorem rl_con_told {I : Nat} (hb : b < nb) (hI : I < nb) (hIb : (t + I) % nb = b) : ry_con y 1 n nb z t 28 1 (4 * b) = rl_told (ry_k2 (ry_k1 y 1 n) 1 n nb z t I) 1 n b (z b) := by
  rw [rl_con_28, if_neg (by omega), ry_k2e]
  have key : ∀ i, i ≤ nb → I < i → ry_k2 (ry_k1 y 1 n) 1 n nb z t i 28 1 (4 * b) = rl_told (ry_k2 (ry_k1 y 1 n) 1 n nb z t I) 1 n b (z b) := by
    intro i
    induction i with
    | zero => intro _ h; omega
    | succ i ih =>
      intro h1 h2
      rw [ry_k2, rl_rplay_eq, ry_pE_f (by decide) (by decide), rl_D_28]
      by_cases c : i = I
      · subst c
        rw [hIb, if_pos (by omega), show 4 * b - 4 * b = 0 by omega]
        rfl
      · have hne : (t + i) % nb ≠ b := fun q => c (rl_mj (by omega) hI (q.trans hIb.symm))
        rw [if_neg (by omega)]
        exact ih (by omega) (by omega)
  exact key nb (Nat.le_refl nb) hI
/-- the trial season in advise's loops -/
def rl_sm (X X1 : bd_M) : Prop := (∀ f w k, f ≠ 2 → f ≠ 3 → f ≠ 7 → f ≠ 11 → f ≠ 12 → X f w k = X1 f w k) ∧ (∀ k, X 11 1 k = X1 11 1 k) ∧ ∀ f k, X f 0 k = X1 f 0 k
theorem rl_putOn_o {b s f k : Nat} {v : Int32} : kx_putOn x 1 n b s v f 0 k = x f 0 k := by
  unfold kx_putOn
  split
  · rw [rl_upo (by decide), rl_upo (by decide), rl_upo (by decide)]
  · rw [rl_upo (by decide)]
theorem rl_swap_o {a q f k : Nat} : kx_swap x 1 n b a q f 0 k = x f 0 k := by rw [kx_swap, rl_putOn_o, rl_putOn_o]
theorem rl_swap_f {a q f w k : Nat} (h : f ≠ 2 ∧ f ≠ 3 ∧ f ≠ 11) : kx_swap x 1 n b a q f w k = x f w k := by rw [kx_swap, rl_putOn_f h, rl_putOn_f h]
theorem rl_swap11 {a q : Nat} (hn : n ≤ 24) (ma : ry_mv n (x 11 1 (8 * b + a))) (mq : ry_mv n (x 11 1 (8 * b + q))) (k : Nat) : kx_swap x 1 n b a q 11 1 k = if k = 8 * b + q then x 11 1 (8 * b + a) else if k = 8 * b + a then x 11 1 (8 * b + q) else x 11 1 k := by
  rw [kx_swap, (rl_putOn (p := 0) ma hn (by decide)).1 k, (rl_putOn (p := 0) mq hn (by decide)).1 k]
def rl_ec (b f k : Nat) : Prop := ((f = 19 ∨ f = 20 ∨ f = 21 ∨ f = 22 ∨ f = 28) ∧ k < 24) ∨ ((f = 23 ∨ f = 24) ∧ k < 48 ∧ (f = 23 → k < 8 * b ∨ 8 * b + 8 ≤ k)) ∨ ((f = 25 ∨ f = 26 ∨ f = 27) ∧ k < 6) ∨ ((f = 10 ∨ f = 11 ∨ f = 12) ∧ k = 0)
theorem rl_ecb {b f k : Nat} (h : rl_ec b f k) : ry_bec y 1 0 f 1 k = y f 0 k := rl_bec (by unfold rl_ec at h; omega)
/-- what the band's turn in the trial finds, over every change of its members -/
def rl_at (X1 y : bd_M) (n nb : Nat) (z : Nat → Nat) (t b I : Nat) : Prop := ∀ Yb : bd_M, (∀ f k, rl_ec b f k → Yb f 1 k = y f 0 k) → (∀ f k, Yb f 0 k = y f 0 k) → rl_cf X1 1 (ry_k2 (ry_k1 Yb 1 n) 1 n nb z t I) n nb z ∧ rl_Q X1 1 (ry_k2 (ry_k1 Yb 1 n) 1 n nb z t I) 1 n nb z b
theorem rl_at_of {I : Nat} (h : rl_J x y n nb z t) (hb : b < nb) (hI : ∀ j, j < I → (t + j) % nb ≠ b) : rl_at (kx_pl (kx_fd (kx_scopy x 1 0 n nb z) 1 n) 1 n nb z t I) y n nb z t b I := by
  intro Yb h1 h2
  have hn : n ≤ 24 := h.1.2.1
  have hnb : nb ≤ 6 := h.1.2.2.2.1
  have hz := rl_z8 h.1
  have g : ∀ {f k}, rl_ec b f k → Yb f 1 k = ry_bec y 1 0 f 1 k := fun hf => (h1 _ _ hf).trans (rl_ecb hf).symm
  obtain ⟨m1, m2, m3, m4, m5, m6, m7, m8, m9⟩ := rl_copy h
  have c1 : rl_cf (kx_scopy x 1 0 n nb z) 1 Yb n nb z := rl_cf_of m1 (fun _ _ _ => rfl) (fun _ => rfl) (fun _ => ⟨rfl, rfl⟩) (fun f k hf => by rw [h2, ry_bec_o])
  have c2 : rl_V (kx_scopy x 1 0 n nb z) 1 Yb 1 n nb z b := fun b' hb' hbe => by
    have hz' := hz b' hb'
    exact rl_V1_of (m2 b' hb' (by omega)) (fun _ _ => rfl) (fun k hk => g (by unfold rl_ec; omega))
  have c3 : rl_QP (kx_scopy x 1 0 n nb z) 1 Yb 1 n := fun p hp => by
    rw [g (f := 19) (by unfold rl_ec; omega), g (f := 20) (by unfold rl_ec; omega), g (f := 21) (by unfold rl_ec; omega), g (f := 22) (by unfold rl_ec; omega)]; exact m3 p hp
  have c5 : rl_QB (kx_scopy x 1 0 n nb z) 1 Yb 1 nb := fun b' hb' => by
    rw [g (f := 25) (by unfold rl_ec; omega), g (f := 28) (k := 4 * b') (by unfold rl_ec; omega), g (f := 28) (k := 4 * b' + 2) (by unfold rl_ec; omega), g (f := 28) (k := 4 * b' + 3) (by unfold rl_ec; omega), g (f := 26) (by unfold rl_ec; omega), g (f := 27) (by unfold rl_ec; omega)]; exact m5 b' hb'
  have c6 : rl_QG (kx_scopy x 1 0 n nb z) 1 Yb 1 := by
    unfold rl_QG
    rw [g (f := 11) (by unfold rl_ec; omega), g (f := 12) (by unfold rl_ec; omega)]; exact m6
  have c7 : rl_QW (kx_scopy x 1 0 n nb z) 1 Yb 1 nb z b := fun b' hb' hbe k hk => by
    have hz' := hz b' hb'
    rw [g (f := 24) (by unfold rl_ec; omega)]; exact m7 b' hb' (by omega) k hk
  obtain ⟨f1, f2, f3⟩ := rl_fd (N := n) c1 c2 c3 (fun p q1 q2 => absurd q2 (by omega)) c5 c6 c7
  obtain ⟨p1, p2, p3, -⟩ := rl_pl (t := t) f1 f2 f3 (Nat.le_refl n) hn hz (by omega) I hI
  exact ⟨p1, p3⟩
/-- the marks for one change, in both -/
theorem rl_try (hn : n ≤ 24) (hnb : nb ≤ 6) (hz : ∀ b, b < nb → z b ≤ 8) {I : Nat} (hat : rl_at X1 y n nb z t b I) (hb : b < nb) (hI : I < nb) (hIb : (t + I) % nb = b) {V Yb : bd_M} (hV : ∀ f w k, f ≠ 2 → f ≠ 3 → f ≠ 7 → f ≠ 11 → f ≠ 12 → V f w k = X1 f w k) (h1 : ∀ f k, rl_ec b f k → Yb f 1 k = y f 0 k) (h2 : ∀ f k, Yb f 0 k = y f 0 k)
    (hm : ∀ k, k < z b → V 11 1 (8 * b + k) = Yb 23 1 (8 * b + k) ∧ ry_mv n (V 11 1 (8 * b + k))) (hd : ∀ k, k < z b → ∀ j, j < z b → V 11 1 (8 * b + k) = V 11 1 (8 * b + j) → ¬ V 11 1 (8 * b + k) = (-1) → k = j) : kx_mo (kx_seat V 1 n b (z b)) 1 n b (z b) = ry_con Yb 1 n nb z t 28 1 (4 * b) := by
  obtain ⟨p1, q1, q2, q3, q4, q5⟩ := hat Yb h1 h2
  rw [rl_con_told hb hI hIb]
  have cf : rl_cf V 1 (ry_k2 (ry_k1 Yb 1 n) 1 n nb z t I) n nb z := rl_cf_of p1 (fun j p hj => hV _ _ _ (by omega) (by omega) (by omega) (by omega) (by omega)) (fun k => hV _ _ _ (by decide) (by decide) (by decide) (by decide) (by decide)) (fun i => ⟨hV _ _ _ (by decide) (by decide) (by decide) (by decide) (by decide), hV _ _ _ (by decide) (by decide) (by decide) (by decide) (by decide)⟩) (fun _ _ _ => rfl)
  have e23 : ∀ k, ry_k2 (ry_k1 Yb 1 n) 1 n nb z t I 23 1 k = Yb 23 1 k := fun k => by rw [ry_k2_f (by decide), ry_k1_f (by decide)]
  have V1 : rl_V1 V 1 (ry_k2 (ry_k1 Yb 1 n) 1 n nb z t I) 1 n (z b) b := ⟨fun k hk => by rw [e23]; exact hm k hk, hd⟩
  have P : rl_QP V 1 (ry_k2 (ry_k1 Yb 1 n) 1 n nb z t I) 1 n := fun p hp => by
    rw [hV 0 _ _ (by decide) (by decide) (by decide) (by decide) (by decide), hV 1 _ _ (by decide) (by decide) (by decide) (by decide) (by decide), hV 4 _ _ (by decide) (by decide) (by decide) (by decide) (by decide), hV 5 _ _ (by decide) (by decide) (by decide) (by decide) (by decide)]
    exact q1 p hp
  have T : rl_QT V 1 (ry_k2 (ry_k1 Yb 1 n) 1 n nb z t I) 1 0 n := fun p a1 a2 => by
    rw [hV 6 _ _ (by decide) (by decide) (by decide) (by decide) (by decide)]; exact q2 p a1 a2
  have H := rl_H_of cf V1 P T hb (Nat.le_refl n) hn (hz b hb)
  refine rl_marks H cf.2.2 ?_
  rw [hV 21 _ _ (by decide) (by decide) (by decide) (by decide) (by decide)]
  exact (q3 b hb).1
/-- one change tried -/
theorem rl_bi1 (h : rl_J x y n nb z t) (hb : b < nb) {I : Nat} (hI : I < nb) (hIb : (t + I) % nb = b) (hat : rl_at X1 y n nb z t b I) (e11 : ∀ k, k < z b → X1 11 1 (8 * b + k) = x 11 0 (8 * b + k)) {s : bd_M × Int32 × Int32} {u : bd_M × Int32 × Int32} (hs : rl_sm s.1 X1) (hu : ∀ f k, u.1 f 0 k = y f 0 k) (e1 : s.2 = u.2) {a q : Nat} (ha : a < z b) (hq : q < z b) (haq : a < q) : rl_sm (kx_bi1 s 1 n b (z b) a q).1 X1 ∧ (kx_bi1 s 1 n b (z b) a q).2 = (ry_ad1 u n nb z t b a q).2 := by
  have hn : n ≤ 24 := h.1.2.1
  have hnb : nb ≤ 6 := h.1.2.2.2.1
  have hz := rl_z8 h.1
  have hzb := hz b hb
  have mem : ∀ k, k < z b → s.1 11 1 (8 * b + k) = x 11 0 (8 * b + k) := fun k hk => (hs.2.1 _).trans (e11 k hk)
  have mv : ∀ k, k < z b → ry_mv n (s.1 11 1 (8 * b + k)) := fun k hk => by rw [mem k hk]; exact (rl_J11 h hb hk).2
  have s11 := rl_swap11 (x := s.1) (b := b) hn (mv a ha) (mv q hq)
  have dist : ∀ k, k < z b → ∀ j, j < z b → s.1 11 1 (8 * b + k) = s.1 11 1 (8 * b + j) → ¬ s.1 11 1 (8 * b + k) = (-1) → k = j := fun k hk j hj e hne => by
    rw [mem k hk, mem j hj] at e
    rw [mem k hk] at hne
    exact (h.2.2.1.2.1 b hb (by omega)).2 k hk j hj e hne
  have key : kx_mo (kx_seat (kx_swap s.1 1 n b a q) 1 n b (z b)) 1 n b (z b) = ry_tr u.1 n nb z t b a q 28 1 (4 * b) := by
    rw [ry_tr]
    refine rl_try (y := y) hn hnb hz hat hb hI hIb (V := kx_swap s.1 1 n b a q) (Yb := ry_sw (ry_bec u.1 1 0) 1 (8 * b + a) (8 * b + q)) (fun f w k c2 c3 c7 c11 c12 => by rw [rl_swap_f ⟨c2, c3, c11⟩]; exact hs.1 f w k c2 c3 c7 c11 c12) (fun f k hf => ?_) (fun f k => by rw [ry_sw, rl_upo (by decide), rl_upo (by decide), ry_bec_o]; exact hu f k) (fun k hk => ?_) (fun k hk j hj e hne => ?_)
    · by_cases c : f = 23
      · subst c
        have hk : k < 8 * b ∨ 8 * b + 8 ≤ k := by unfold rl_ec at hf; omega
        rw [rl_sw_23, if_neg (by omega), if_neg (by omega), rl_ecb hf]; exact hu _ _
      · rw [ry_sw_f c, rl_ecb hf]; exact hu _ _
    · have y23 : ∀ k, k < z b → ry_bec u.1 1 0 23 1 (8 * b + k) = s.1 11 1 (8 * b + k) := fun k hk => by
        rw [rl_bec (by omega), hu, mem k hk, (rl_J11 h hb hk).1]
      rw [s11, rl_sw_23, y23 a ha, y23 q hq, y23 k hk]
      refine ⟨rfl, ?_⟩
      split
      · exact mv a ha
      · split
        · exact mv q hq
        · exact mv k hk
    · rw [s11, s11] at e
      rw [s11] at hne
      have r : ∀ k, 8 * b + k = 8 * b + q ↔ k = q := fun k => by omega
      have r2 : ∀ k, 8 * b + k = 8 * b + a ↔ k = a := fun k => by omega
      by_cases k1 : k = q
      · rw [if_pos ((r k).mpr k1)] at e hne
        by_cases j1 : j = q
        · omega
        · rw [if_neg (fun c => j1 ((r j).mp c))] at e
          by_cases j2 : j = a
          · rw [if_pos ((r2 j).mpr j2)] at e
            exact absurd (dist a ha q hq e hne) (by omega)
          · rw [if_neg (fun c => j2 ((r2 j).mp c))] at e
            exact absurd (dist a ha j hj e hne) (fun c => j2 c.symm)
      · rw [if_neg (fun c => k1 ((r k).mp c))] at e hne
        by_cases k2 : k = a
        · rw [if_pos ((r2 k).mpr k2)] at e hne
          by_cases j1 : j = q
          · rw [if_pos ((r j).mpr j1)] at e
            exact absurd (dist q hq a ha e hne) (by omega)
          · rw [if_neg (fun c => j1 ((r j).mp c))] at e
            by_cases j2 : j = a
            · omega
            · rw [if_neg (fun c => j2 ((r2 j).mp c))] at e
              exact absurd (dist q hq j hj e hne) (fun c => j1 c.symm)
        · rw [if_neg (fun c => k2 ((r2 k).mp c))] at e hne
          by_cases j1 : j = q
          · rw [if_pos ((r j).mpr j1)] at e
            exact absurd (dist k hk a ha e hne) k2
          · rw [if_neg (fun c => j1 ((r j).mp c))] at e
            by_cases j2 : j = a
            · rw [if_pos ((r2 j).mpr j2)] at e
              exact absurd (dist k hk q hq e hne) k1
            · rw [if_neg (fun c => j2 ((r2 j).mp c))] at e
              exact dist k hk j hj e hne
  -- back
  have back : rl_sm (kx_swap (kx_seat (kx_swap s.1 1 n b a q) 1 n b (z b)) 1 n b a q) X1 := by
    have t11 : ∀ k, kx_seat (kx_swap s.1 1 n b a q) 1 n b (z b) 11 1 k = kx_swap s.1 1 n b a q 11 1 k := fun k => kx_seat_f (by decide) (by decide)
    have va : kx_seat (kx_swap s.1 1 n b a q) 1 n b (z b) 11 1 (8 * b + a) = s.1 11 1 (8 * b + q) := by rw [t11, s11, if_neg (by omega), if_pos rfl]
    have vq : kx_seat (kx_swap s.1 1 n b a q) 1 n b (z b) 11 1 (8 * b + q) = s.1 11 1 (8 * b + a) := by rw [t11, s11, if_pos rfl]
    refine ⟨fun f w k c2 c3 c7 c11 c12 => ?_, fun k => ?_, fun f k => ?_⟩
    · rw [rl_swap_f ⟨c2, c3, c11⟩, kx_seat_f c7 c12, rl_swap_f ⟨c2, c3, c11⟩]; exact hs.1 f w k c2 c3 c7 c11 c12
    · rw [rl_swap11 hn (by rw [va]; exact mv q hq) (by rw [vq]; exact mv a ha), va, vq, t11, s11, ← hs.2.1 k]
      by_cases k1 : k = 8 * b + q
      · subst k1; rw [if_pos rfl]
      · rw [if_neg k1]
        by_cases k2 : k = 8 * b + a
        · subst k2; rw [if_pos rfl]
        · rw [if_neg k2, if_neg k1, if_neg k2]
    · rw [rl_swap_o, rl_seat_o (by decide), rl_swap_o]; exact hs.2.2 f k
  unfold kx_bi1 ry_ad1
  rw [key, ← e1]
  by_cases c : ry_tr u.1 n nb z t b a q 28 1 (4 * b) ≤ s.2.1
  · rw [if_pos c, if_neg (Int32.not_lt.mpr c)]
    exact ⟨back, rfl⟩
  · rw [if_neg c, if_pos (Int32.not_le.mp c)]
    refine ⟨back, ?_⟩
    show (_, 8 * nI a + nI q) = (_, nI (8 * a + q))
    rw [show (8 : Int32) * nI a = nI (8 * a) from pk_mul 8 a, nI_add]
theorem rl_bi (h : rl_J x y n nb z t) (hb : b < nb) {I : Nat} (hI : I < nb) (hIb : (t + I) % nb = b) (hat : rl_at X1 y n nb z t b I) (e11 : ∀ k, k < z b → X1 11 1 (8 * b + k) = x 11 0 (8 * b + k)) {s : bd_M × Int32 × Int32} {u : bd_M × Int32 × Int32} (hs : rl_sm s.1 X1) (hu : ∀ f k, u.1 f 0 k = y f 0 k) (e1 : s.2 = u.2) {a : Nat} (ha : a < z b) : ∀ j, j ≤ z b → rl_sm (kx_bi s 1 n b (z b) a j).1 X1 ∧ (kx_bi s 1 n b (z b) a j).2 = (ry_ad u n nb z t b a j).2
  | 0, _ => ⟨hs, e1⟩
  | j + 1, hj => by
    obtain ⟨i1, i2⟩ := rl_bi h hb hI hIb hat e11 hs hu e1 ha j (by omega)
    rw [kx_bi, ry_ad]
    by_cases c : j ≤ a
    · rw [if_pos c, if_pos c]; exact ⟨i1, i2⟩
    · rw [if_neg c, if_neg c]
      exact rl_bi1 h hb hI hIb hat e11 i1 (fun f k => by rw [ry_ad_o]; exact hu f k) i2 ha (by omega) (by omega)
theorem rl_bo (h : rl_J x y n nb z t) (hb : b < nb) {I : Nat} (hI : I < nb) (hIb : (t + I) % nb = b) (hat : rl_at X1 y n nb z t b I) (e11 : ∀ k, k < z b → X1 11 1 (8 * b + k) = x 11 0 (8 * b + k)) : ∀ a, a ≤ z b → rl_sm (kx_bo X1 1 n b (z b) a).1 X1 ∧ (kx_bo X1 1 n b (z b) a).2 = (ry_ao y n nb z t b a).2
  | 0, _ => by
    have hn : n ≤ 24 := h.1.2.1
    have hnb : nb ≤ 6 := h.1.2.2.2.1
    have hz := rl_z8 h.1
    have hzb := hz b hb
    refine ⟨⟨fun f w k c2 c3 c7 c11 c12 => kx_seat_f c7 c12, fun k => kx_seat_f (by decide) (by decide), fun f k => rl_seat_o (by decide)⟩, ?_⟩
    show (_, _) = (_, _)
    rw [rl_try (y := y) hn hnb hz hat hb hI hIb (V := X1) (Yb := ry_bec y 1 0) (fun _ _ _ _ _ _ _ _ => rfl) (fun f k hf => rl_ecb hf) (fun f k => ry_bec_o) (fun k hk => ?_) (fun k hk j hj e hne => ?_)]
    · rw [rl_bec (by omega), e11 k hk]; exact rl_J11 h hb hk
    · rw [e11 k hk, e11 j hj] at e
      rw [e11 k hk] at hne
      exact (h.2.2.1.2.1 b hb (by omega)).2 k hk j hj e hne
  | a + 1, ha => by
    obtain ⟨i1, i2⟩ := rl_bo h hb hI hIb hat e11 a (by omega)
    rw [kx_bo, ry_ao]
    exact rl_bi h hb hI hIb hat e11 i1 (fun f k => ry_ao_o a) i2 (by omega) (z b) (Nat.le_refl _)
end LR
