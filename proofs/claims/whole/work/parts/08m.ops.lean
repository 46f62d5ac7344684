/-! MORE CALLS: change, addPlayer, seat -/
section LM
variable {l : Launch} {E : bd_E} {x y x' y' : bd_M} {n nb t i : Nat} {z : Nat → Nat}
theorem rl_putOn {w b s p : Nat} {v : Int32} (hv : ry_mv n v) (hn : n ≤ 24) (hp : p < 2 ^ 31) : (∀ k, kx_putOn x w n b s v 11 w k = if k = 8 * b + s then v else x 11 w k) ∧ kx_putOn x w n b s v 2 w p = (if v = nI p then nI b else x 2 w p) ∧ kx_putOn x w n b s v 3 w p = (if v = nI p then nI s else x 3 w p) := by
  unfold kx_putOn
  by_cases c : v = (-1)
  · have hne : ¬ v = nI p := fun q => rl_nIm hp (q.symm.trans c)
    rw [if_neg (fun q => (rl_mvn hv hn).mp q c), if_neg hne, if_neg hne]
    refine ⟨fun k => ?_, bd_up_f (by decide), bd_up_f (by decide)⟩
    rw [rl_up]
    by_cases d : k = 8 * b + s
    · rw [if_pos ⟨rfl, rfl, d⟩, if_pos d]
    · rw [if_neg (fun q => d q.2.2), if_neg d]
  · obtain ⟨e1, e2⟩ := rl_mvI hv c
    rw [if_pos ((rl_mvn hv hn).mpr c)]
    have hpi : v = nI p ↔ p = v.toNatClampNeg := ⟨fun q => by rw [q, nI_clamp hp], fun q => by rw [q]; exact e1⟩
    refine ⟨fun k => ?_, ?_, ?_⟩
    · rw [bd_up_f (by decide), bd_up_f (by decide), rl_up]
      by_cases d : k = 8 * b + s
      · rw [if_pos ⟨rfl, rfl, d⟩, if_pos d]
      · rw [if_neg (fun q => d q.2.2), if_neg d]
    · rw [bd_up_f (by decide), rl_up, bd_up_f (by decide)]
      by_cases d : p = v.toNatClampNeg
      · rw [if_pos ⟨rfl, rfl, d⟩, if_pos (hpi.mpr d)]
      · rw [if_neg (fun q => d q.2.2), if_neg (fun q => d (hpi.mp q))]
    · rw [rl_up, bd_up_f (by decide), bd_up_f (by decide)]
      by_cases d : p = v.toNatClampNeg
      · rw [if_pos ⟨rfl, rfl, d⟩, if_pos (hpi.mpr d)]
      · rw [if_neg (fun q => d q.2.2), if_neg (fun q => d (hpi.mp q))]
theorem rl_putOn_f {w b s f w' k : Nat} {v : Int32} (h : f ≠ 2 ∧ f ≠ 3 ∧ f ≠ 11) : kx_putOn x w n b s v f w' k = x f w' k := by
  unfold kx_putOn
  split
  · rw [bd_up_f h.2.1, bd_up_f h.1, bd_up_f h.2.2]
  · rw [bd_up_f h.2.2]
theorem rl_swap {b q r : Nat} (hL : rl_L x n nb z) (hm : ∀ b, b < nb → ∀ k, k < z b → ry_mv n (x 11 0 (8 * b + k))) (hn : n ≤ 24) (hb : b < nb) (hq : q < z b) (hr : r < z b) (hz : ∀ b, b < nb → z b ≤ 8) (hnb : nb ≤ 6) : (∀ k, kx_swap x 0 n b q r 11 0 k = if k = 8 * b + r then x 11 0 (8 * b + q) else if k = 8 * b + q then x 11 0 (8 * b + r) else x 11 0 k) ∧ rl_L (kx_swap x 0 n b q r) n nb z := by
  have mu := hm b hb q hq
  have mv := hm b hb r hr
  have hz' := hz b hb
  have P1 : ∀ p, p < 2 ^ 31 → _ := fun p hp => rl_putOn (x := x) (w := 0) (b := b) (s := q) (p := p) mv hn hp
  have P2 : ∀ p, p < 2 ^ 31 → _ := fun p hp => rl_putOn (x := kx_putOn x 0 n b q (x 11 0 (8 * b + r))) (w := 0) (b := b) (s := r) (p := p) mu hn hp
  have e11 : ∀ k, kx_swap x 0 n b q r 11 0 k = if k = 8 * b + r then x 11 0 (8 * b + q) else if k = 8 * b + q then x 11 0 (8 * b + r) else x 11 0 k := fun k => by
    rw [kx_swap, (P2 0 (by decide)).1 k, (P1 0 (by decide)).1 k]
  have e2 : ∀ p, p < 2 ^ 31 → kx_swap x 0 n b q r 2 0 p = if x 11 0 (8 * b + q) = nI p then nI b else if x 11 0 (8 * b + r) = nI p then nI b else x 2 0 p := fun p hp => by
    rw [kx_swap, (P2 p hp).2.1, (P1 p hp).2.1]
  have e3 : ∀ p, p < 2 ^ 31 → kx_swap x 0 n b q r 3 0 p = if x 11 0 (8 * b + q) = nI p then nI r else if x 11 0 (8 * b + r) = nI p then nI q else x 3 0 p := fun p hp => by
    rw [kx_swap, (P2 p hp).2.2, (P1 p hp).2.2]
  refine ⟨e11, fun p hp => ?_, fun b' hb' k hk p hp e => ?_⟩
  · rw [e2 p (by omega), e3 p (by omega)]
    by_cases c : x 11 0 (8 * b + q) = nI p
    · rw [if_pos c, if_pos c]
      have hpn : p < n := by
        have := (rl_mvI mu (by rw [c]; exact rl_nIm (by omega))).2
        rw [c, nI_clamp (by omega)] at this
        exact this
      exact Or.inr ⟨hpn, b, r, hb, hr, rfl, rfl, by rw [e11, if_pos rfl]; exact c⟩
    · rw [if_neg c, if_neg c]
      by_cases d : x 11 0 (8 * b + r) = nI p
      · rw [if_pos d, if_pos d]
        have hpn : p < n := by
          have := (rl_mvI mv (by rw [d]; exact rl_nIm (by omega))).2
          rw [d, nI_clamp (by omega)] at this
          exact this
        have hqr : ¬ 8 * b + q = 8 * b + r := fun e => c (by rw [e]; exact d)
        exact Or.inr ⟨hpn, b, q, hb, hq, rfl, rfl, by rw [e11, if_neg hqr, if_pos rfl]; exact d⟩
      · rw [if_neg d, if_neg d]
        rcases hL.1 p hp with a | ⟨a1, b0, k0, a2, a3, a4, a5, a6⟩
        · exact Or.inl a
        · refine Or.inr ⟨a1, b0, k0, a2, a3, a4, a5, ?_⟩
          rw [e11, if_neg (fun a => d (by rw [← a]; exact a6)), if_neg (fun a => c (by rw [← a]; exact a6))]
          exact a6
  · rw [e11] at e
    rw [e2 p (by omega), e3 p (by omega)]
    have hz2 := hz b' hb'
    by_cases c1 : 8 * b' + k = 8 * b + r
    · rw [if_pos c1] at e
      rw [if_pos e, if_pos e]
      exact ⟨by congr 1; omega, by congr 1; omega⟩
    · rw [if_neg c1] at e
      by_cases c2 : 8 * b' + k = 8 * b + q
      · rw [if_pos c2] at e
        have hu : ¬ x 11 0 (8 * b + q) = nI p := fun a => by
          have h1 := (hL.2 b hb q hq p hp a).2
          have h2 := (hL.2 b hb r hr p hp e).2
          have := (nI_eq (by omega) (by omega)).mp (h1.symm.trans h2)
          omega
        rw [if_neg hu, if_pos e, if_neg hu, if_pos e]
        exact ⟨by congr 1; omega, by congr 1; omega⟩
      · rw [if_neg c2] at e
        have h0 := hL.2 b' hb' k hk p hp e
        have hu : ¬ x 11 0 (8 * b + q) = nI p := fun a => by
          have h1 := hL.2 b hb q hq p hp a
          have r1 := (nI_eq (by omega) (by omega)).mp (h0.1.symm.trans h1.1)
          have r2 := (nI_eq (by omega) (by omega)).mp (h0.2.symm.trans h1.2)
          omega
        have hv : ¬ x 11 0 (8 * b + r) = nI p := fun a => by
          have h1 := hL.2 b hb r hr p hp a
          have r1 := (nI_eq (by omega) (by omega)).mp (h0.1.symm.trans h1.1)
          have r2 := (nI_eq (by omega) (by omega)).mp (h0.2.symm.trans h1.2)
          omega
        rw [if_neg hu, if_neg hv, if_neg hu, if_neg hv]
        exact h0
theorem rl_sw_23 {w a b k : Nat} : ry_sw y w a b 23 w k = if k = b then y 23 w a else if k = a then y 23 w b else y 23 w k := by
  rw [ry_sw, rl_up, rl_up]
  by_cases c : k = b
  · rw [if_pos ⟨rfl, rfl, c⟩, if_pos c]
  · rw [if_neg (fun q => c q.2.2), if_neg c]
    by_cases d : k = a
    · rw [if_pos ⟨rfl, rfl, d⟩, if_pos d]
    · rw [if_neg (fun q => d q.2.2), if_neg d]
theorem la_J_change (hlf : l.stackTraces = false) (h : rl_J x y n nb z t) (hi : t ≤ i) : la_O_change l E x y (rl_Jn (i + 1)) := by
  intro a b d om
  have hs := h.1
  have hy := h.2.1
  have hn : n ≤ 24 := hs.2.1
  have hnb : nb ≤ 6 := hs.2.2.2.1
  have hz := rl_z8 hs
  by_cases hp : ¬ a < 0 ∧ a < nI nb
  · obtain ⟨k, hk, rfl⟩ := la_ix (by omega) hp
    have hc : (nI k).toNatClampNeg = k := nI_clamp (by omega)
    have hzk := hz k hk
    by_cases h2 : ¬ b < 0 ∧ b < nI (z k)
    · obtain ⟨q, hq, rfl⟩ := la_ix (la_chb hs hk) h2
      by_cases h3 : ¬ d < 0 ∧ d < nI (z k)
      · obtain ⟨r, hr, rfl⟩ := la_ix (la_chb hs hk) h3
        obtain ⟨s1, s2⟩ := rl_swap (z := z) h.2.2.2.2.2.1 (fun b hb k hk => (rl_J11 h hb hk).2) hn hk hq hr hz hnb
        have key : ∀ b', b' < nb → ∀ k', k' < z b' → kx_swap x 0 n k q r 11 0 (8 * b' + k') = ry_sw (ry_t0 y) 0 (8 * k + q) (8 * k + r) 23 0 (8 * b' + k') := fun b' hb' k' hk' => by
          rw [s1, rl_sw_23, (rl_J11 h hk hq).1, (rl_J11 h hk hr).1, (rl_J11 h hb' hk').1]
          rfl
        refine la_ok0 (k_L_change_ok l E x y _ om (nI k) (nI q) (nI r) (k_X5_change l E x y om n nb z k q r hs hk hq hr)) (k_X7_change_ok l E _ y _ n nb z k q r hy hk hq hr) (by decide) ?_ (key k hk q hq) (la_up (n := n) (nb := nb) (z := z) (t' := t) (rl_J_mem h (fun f w k' h1 h2 h3 => ?_) (fun f w k' h1 h2 => ?_) (fun b' hb' k' hk' => ⟨key b' hb' k' hk', ?_⟩) s2 (fun b' hb' hb6 k' hk' => ?_)) (by omega))
        · rw [ry_sw_f (by decide)]; exact bd_up_s
        · rw [kx_swap, rl_putOn_f ⟨h1, h2, h3⟩, rl_putOn_f ⟨h1, h2, h3⟩]
        · rw [ry_sw_f h2]; exact bd_up_f h1
        · rw [s1]
          split
          · exact (rl_J11 h hk hq).2
          · split
            · exact (rl_J11 h hk hr).2
            · exact (rl_J11 h hb' hk').2
        · rw [s1, if_neg (by omega), if_neg (by omega)]
          exact ((h.2.2.2.2.2.2.1 b' hb' hb6).2.2 k' hk').1
      · exact la_okx (k_L_change_x1 l E x y om (nI k) (nI q) d (k_X5_change_xt l hlf E x y om n nb z k q d hs hk hq h3)) (k_X7_change_1 l E x y om n nb z (nI k) (nI q) d hy (fun q => h3 (by have := q.2.2; rw [hc] at this; exact this))) (by decide) rfl (by decide) (la_up (rl_J_t (rl_J_t h)) (by omega))
    · exact la_okx (k_L_change_x1 l E x y om (nI k) b d (k_X5_change_xs l hlf E x y om n nb z k b d hs hk h2)) (k_X7_change_1 l E x y om n nb z (nI k) b d hy (fun q => h2 (by have := q.1.2; rw [hc] at this; exact this))) (by decide) rfl (by decide) (la_up (rl_J_t (rl_J_t h)) (by omega))
  · exact la_okx (k_L_change_x1 l E x y om a b d (k_X5_change_xb l hlf E x y om n nb z a b d hs hp)) (k_X7_change_1 l E x y om n nb z a b d hy (fun q => hp q.1.1)) (by decide) rfl (by decide) (la_up (rl_J_t (rl_J_t h)) (by omega))
-- addPlayer
theorem la_J_addPlayer (hlf : l.stackTraces = false) (h : rl_J x y n nb z t) (hi : t ≤ i) : la_O_addPlayer l E x y (rl_Jn (i + 1)) := by
  intro a b c d om
  have hs := h.1
  have hy := h.2.1
  have hn : n ≤ 24 := hs.2.1
  by_cases h1 : (¬ a < 0 ∧ ¬ 9 < a) ∧ (¬ b < 0 ∧ ¬ 9 < b) ∧ (¬ c < 0 ∧ ¬ 9 < c) ∧ ¬ d < 0 ∧ ¬ 9 < d
  · by_cases hn24 : n = 24
    · exact la_okx (k_L_addPlayer_x2 l E x y om a b c d (k_X5_addPlayer_x2 l hlf E x y om n nb z a b c d hs h1.1 h1.2.1 h1.2.2.1 h1.2.2.2 hn24)) (k_X7_addPlayer_2 l E x y om n nb z a b c d hy h1.1 h1.2.1 h1.2.2.1 h1.2.2.2 hn24) (by decide) rfl (by decide) (la_up (rl_J_t (rl_J_t h)) (by omega))
    · have hn' : n < 24 := by omega
      have x13 : ∀ k, ry_add (ry_t0 y) n a b c d 13 0 k = if k < 4 * n ∨ 4 * n + 4 ≤ k then y 13 0 k else upd (upd (upd (upd (fun _ => 0) 0 a) 1 b) 2 c) 3 d (k - 4 * n) := fun k => by
        rw [ry_add, bd_up_f (by decide)]
        show (if (13 = 13 ∧ 0 = 0) then _ else _) = _
        rw [if_pos ⟨rfl, rfl⟩]
        unfold va_cpy
        by_cases q : 4 * n ≤ k ∧ k < 4 * n + 4
        · rw [if_pos q, if_neg (by omega), Nat.zero_add]
        · rw [if_neg q, if_pos (by omega)]
          exact bd_up_f (by decide)
      have xf : ∀ f w k, f < 1000 → f ≠ 30 → kx_enrol x 0 n a b c d f w k = x f w k := fun f w k q1 q2 => by
        rw [kx_enrol, bd_up_f q2, bd_up_f (by omega), bd_up_f (by omega), bd_up_f (by omega), bd_up_f (by omega)]
      have yf : ∀ f w k, f ≠ 0 → f ≠ 1 → f ≠ 13 → ry_add (ry_t0 y) n a b c d f w k = y f w k := fun f w k q0 q1 q2 => by
        rw [ry_add, bd_up_f q1]
        show (if (f = 13 ∧ w = 0) then _ else _) = _
        rw [if_neg (fun q => q2 q.1)]
        exact bd_up_f q0
      refine la_ok0 (k_L_addPlayer_ok l E x y _ om a b c d (k_X5_addPlayer l E x y om n nb z a b c d hs h1.1 h1.2.1 h1.2.2.1 h1.2.2.2 hn')) (k_X7_addPlayer_ok l E _ y _ n nb z a b c d hy h1.1 h1.2.1 h1.2.2.1 h1.2.2.2 hn') (by decide) ?_ rfl (la_up (n := n + 1) (nb := nb) (z := z) (t' := t) ?_ (by omega))
      · rw [ry_add, bd_up_f (by decide)]
        show (if (0 = 13 ∧ 0 = 0) then _ else _) = _
        rw [if_neg (fun q => absurd q.1 (by decide))]
        exact bd_up_s
      · obtain ⟨j1, j2, ⟨⟨m1, m1b, m1c⟩, m2, m3, m4, m5, m6, m7, m8, m9⟩, j4, j5, j6, j7, j8⟩ := h
        obtain ⟨s1, s2, s3, s4, s5, s6, s7⟩ := j2
        have wk : ∀ m, ry_mv n m → ry_mv (n + 1) m := fun m q => q.elim Or.inl (fun q => Or.inr ⟨q.1, by omega⟩)
        refine ⟨⟨bd_up_s, by omega, ?_, j1.2.2.2.1, fun b hb => ?_⟩, ⟨?_, by omega, ?_, s4, fun b hb => ?_, fun k hk => ?_, fun k hk => ?_⟩, ⟨⟨fun p hp j hj => ?_, fun b hb k hk => ?_, fun p hp => ?_⟩, fun g hg hge => ?_, fun p hp => ?_, fun p q1 q2 => ?_, fun b hb => ?_, ?_, fun b hb hbe k hk => ?_, fun b hb => ?_, ?_⟩, ⟨j4.1, fun b hb hb6 => ?_⟩, ?_, ⟨fun p hp => ?_, fun b hb k hk p hp e => ?_⟩, fun b hb hb6 => ?_, fun b hb => ?_⟩
        · rw [xf _ _ _ (by decide) (by decide)]; exact j1.2.2.1
        · rw [xf _ _ _ (by decide) (by decide)]; exact j1.2.2.2.2 b hb
        · rw [ry_add, bd_up_s]
        · rw [yf _ _ _ (by decide) (by decide) (by decide)]; exact s3
        · rw [yf _ _ _ (by decide) (by decide) (by decide)]; exact s5 b hb
        · rw [yf _ _ _ (by decide) (by decide) (by decide)]; exact s6 k hk
        · rw [x13]
          by_cases q : k < 4 * n ∨ 4 * n + 4 ≤ k
          · rw [if_pos q]; exact s7 k hk
          · rw [if_neg q]
            obtain e | e | e | e : k - 4 * n = 0 ∨ k - 4 * n = 1 ∨ k - 4 * n = 2 ∨ k - 4 * n = 3 := by omega
            · rw [e]; exact h1.1.1
            · rw [e]; exact h1.2.1.1
            · rw [e]; exact h1.2.2.1.1
            · rw [e]; exact h1.2.2.2.1
        · rw [x13]
          by_cases q : p = n
          · subst q
            rw [if_neg (by omega), show 4 * p + j - 4 * p = j by omega]
            obtain rfl | rfl | rfl | rfl : j = 0 ∨ j = 1 ∨ j = 2 ∨ j = 3 := by omega
            · refine ⟨?_, h1.1.1⟩
              rw [kx_enrol, bd_up_f (by decide), bd_up_f (by decide), bd_up_f (by decide), bd_up_f (by decide), bd_up_s]
              rfl
            · refine ⟨?_, h1.2.1.1⟩
              rw [kx_enrol, bd_up_f (by decide), bd_up_f (by decide), bd_up_f (by decide), bd_up_s]
              rfl
            · refine ⟨?_, h1.2.2.1.1⟩
              rw [kx_enrol, bd_up_f (by decide), bd_up_f (by decide), bd_up_s]
              rfl
            · refine ⟨?_, h1.2.2.2.1⟩
              rw [kx_enrol, bd_up_f (by decide), bd_up_s]
              rfl
          · rw [if_pos (by omega), kx_enrol, bd_up_f (by omega), bd_up_n (fun e => q e.2.2), bd_up_n (fun e => q e.2.2), bd_up_n (fun e => q e.2.2), bd_up_n (fun e => q e.2.2)]
            exact m1 p (by omega) j hj
        · rw [xf _ _ _ (by decide) (by decide), yf _ _ _ (by decide) (by decide) (by decide)]; exact m1b b hb k hk
        · rw [xf _ _ _ (by decide) (by decide), xf _ _ _ (by decide) (by decide), yf _ _ _ (by decide) (by decide) (by decide), yf _ _ _ (by decide) (by decide) (by decide)]; exact m1c p hp
        · have := rl_V1_of (x' := kx_enrol x 0 n a b c d) (y' := ry_add (ry_t0 y) n a b c d) (m2 g hg hge) (fun k hk => xf _ _ _ (by decide) (by decide)) (fun k hk => yf _ _ _ (by decide) (by decide) (by decide))
          exact ⟨fun k hk => ⟨(this.1 k hk).1, wk _ (this.1 k hk).2⟩, this.2⟩
        · rw [xf 0 _ _ (by decide) (by decide), xf 1 _ _ (by decide) (by decide), xf 4 _ _ (by decide) (by decide), xf 5 _ _ (by decide) (by decide), yf 19 _ _ (by decide) (by decide) (by decide), yf 20 _ _ (by decide) (by decide) (by decide), yf 21 _ _ (by decide) (by decide) (by decide), yf 22 _ _ (by decide) (by decide) (by decide)]
          exact m3 p hp
        · rw [xf _ _ _ (by decide) (by decide), yf _ _ _ (by decide) (by decide) (by decide)]; exact m4 p q1 q2
        · rw [xf 21 _ _ (by decide) (by decide), xf 22 _ _ (by decide) (by decide), xf 24 _ _ (by decide) (by decide), xf 25 _ _ (by decide) (by decide), xf 26 _ _ (by decide) (by decide), xf 27 _ _ (by decide) (by decide), yf 25 _ _ (by decide) (by decide) (by decide), yf 28 _ _ (by decide) (by decide) (by decide), yf 28 _ _ (by decide) (by decide) (by decide), yf 28 _ _ (by decide) (by decide) (by decide), yf 26 _ _ (by decide) (by decide) (by decide), yf 27 _ _ (by decide) (by decide) (by decide)]
          exact m5 b hb
        · unfold rl_QG
          rw [xf _ _ _ (by decide) (by decide), xf _ _ _ (by decide) (by decide), yf _ _ _ (by decide) (by decide) (by decide), yf _ _ _ (by decide) (by decide) (by decide)]; exact m6
        · rw [xf _ _ _ (by decide) (by decide), yf _ _ _ (by decide) (by decide) (by decide)]; exact m7 b hb hbe k hk
        · rw [xf _ _ _ (by decide) (by decide), yf _ _ _ (by decide) (by decide) (by decide)]; exact m8 b hb
        · rw [xf _ _ _ (by decide) (by decide), yf _ _ _ (by decide) (by decide) (by decide)]; exact m9
        · rw [xf _ _ _ (by decide) (by decide)]; exact j4.2 b hb hb6
        · rw [xf _ _ _ (by decide) (by decide)]; exact j5
        · rw [xf _ _ _ (by decide) (by decide), xf _ _ _ (by decide) (by decide)]
          rcases j6.1 p hp with q | ⟨q1, b0, k0, q2, q3, q4, q5, q6⟩
          · exact Or.inl q
          · exact Or.inr ⟨by omega, b0, k0, q2, q3, q4, q5, by rw [xf _ _ _ (by decide) (by decide)]; exact q6⟩
        · rw [xf _ _ _ (by decide) (by decide)] at e
          rw [xf _ _ _ (by decide) (by decide), xf _ _ _ (by decide) (by decide)]
          have hm := ((m2 b hb (by omega)).1 k hk).2
          have := (rl_mvI hm (by rw [e]; exact rl_nIm (by omega))).2
          rw [e, nI_clamp (by omega)] at this
          exact j6.2 b hb k hk p this e
        · obtain ⟨a1, a2, a8⟩ := j7 b hb hb6
          rw [xf 21 _ _ (by decide) (by decide), xf 26 _ _ (by decide) (by decide), xf 27 _ _ (by decide) (by decide), xf 22 _ _ (by decide) (by decide), xf 23 _ _ (by decide) (by decide), xf 24 _ _ (by decide) (by decide), xf 25 _ _ (by decide) (by decide), yf 25 _ _ (by decide) (by decide) (by decide), yf 26 _ _ (by decide) (by decide) (by decide), yf 27 _ _ (by decide) (by decide) (by decide)]
          refine ⟨a1, a2, fun k hk => ?_⟩
          rw [xf _ _ _ (by decide) (by decide), xf _ _ _ (by decide) (by decide)]
          exact a8 k hk
        · rw [xf _ _ _ (by decide) (by decide)]; exact j8 b hb
  · exact la_okx (k_L_addPlayer_x1 l E x y om a b c d (k_X5_addPlayer_x1 l hlf E x y om n nb z a b c d hs h1)) (k_X7_addPlayer_1 l E x y om n nb z a b c d hy h1) (by decide) rfl (by decide) (la_up (rl_J_t (rl_J_t h)) (by omega))
end LM
