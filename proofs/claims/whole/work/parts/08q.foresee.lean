/-! THE OTHER SEASON: copies, and foresee() -/
section LQ
variable {l : Launch} {E : bd_E} {x y x' y' : bd_M} {n nb t i : Nat} {z : Nat → Nat}
theorem rl_J_o (h : rl_J x y n nb z t) (ex : ∀ f k, x' f 0 k = x f 0 k) (ey : ∀ f k, y' f 0 k = y f 0 k) (e20 : ∀ b, nb ≤ b → x' 20 1 b = x 20 1 b) : rl_J x' y' n nb z t := by
  unfold rl_J kx_Sh ry_Sh rl_M rl_cf rl_hw rl_V rl_V1 rl_QP rl_QT rl_QB rl_QG rl_QW rl_L rl_Df rl_sp6 at h ⊢
  simp only [ex, ey]
  obtain ⟨j1, j2, j3, j4, j5⟩ := h
  exact ⟨j1, j2, j3, ⟨j4.1, fun b hb hb6 => (e20 b hb).trans (j4.2 b hb hb6)⟩, j5⟩
theorem rl_pcopy {p p' : Nat} : (∀ f, f ≤ 5 → kx_pcopy x 1 p 0 p f 1 p' = if p' = p then x f 0 p else x f 1 p') ∧ (∀ j, j < 4 → kx_pcopy x 1 p 0 p (j + 1000) 1 p' = if p' = p then x (j + 1000) 0 p else x (j + 1000) 1 p') := by
  have sk : ∀ (g : Nat → Int32) f w k, f < 1000 → bd_sk x 1 p g f w k = x f w k := fun g f w k hf => if_neg (fun q => by omega)
  refine ⟨fun f hf => ?_, fun j hj => ?_⟩
  · by_cases c : p' = p
    · subst c
      rw [if_pos rfl]
      obtain rfl | rfl | rfl | rfl | rfl | rfl : f = 0 ∨ f = 1 ∨ f = 2 ∨ f = 3 ∨ f = 4 ∨ f = 5 := by omega
      all_goals simp [kx_pcopy, kx_c1, bd_up, bd_sk]
    · rw [if_neg c]
      unfold kx_pcopy kx_c1
      rw [bd_up_n (fun q => c q.2.2), bd_up_n (fun q => c q.2.2), bd_up_n (fun q => c q.2.2), bd_up_n (fun q => c q.2.2), bd_up_n (fun q => c q.2.2), bd_up_n (fun q => c q.2.2)]
      exact if_neg (fun q => c q.2.2)
  · unfold kx_pcopy kx_c1
    rw [bd_up_f (by omega), bd_up_f (by omega), bd_up_f (by omega), bd_up_f (by omega), bd_up_f (by omega), bd_up_f (by omega)]
    by_cases c : p' = p
    · subst c
      rw [if_pos rfl]
      show (if 1000 ≤ j + 1000 ∧ 1 = 1 ∧ p' = p' then _ else _) = _
      rw [if_pos ⟨by omega, rfl, rfl⟩, show j + 1000 - 1000 = j by omega]
      show (if 0 ≤ j ∧ j < 0 + 4 then _ else _) = _
      rw [if_pos (by omega), show 0 + (j - 0) = j by omega]
    · rw [if_neg c]
      exact if_neg (fun q => c q.2.2)
theorem rl_c1o {f w k w2 k2 g j : Nat} (h : 0 ≠ w) : kx_c1 x f w k w2 k2 g 0 j = x g 0 j := rl_upo h
theorem rl_pcopy_o {p f k : Nat} : kx_pcopy x 1 p 0 p f 0 k = x f 0 k := by
  rw [kx_pcopy, rl_c1o (by decide), rl_c1o (by decide), rl_c1o (by decide), rl_c1o (by decide), rl_c1o (by decide), rl_c1o (by decide)]
  exact if_neg (fun q => absurd q.2.1 (by decide))
theorem rl_scP_o {f k : Nat} : ∀ i, kx_scP x 1 0 i f 0 k = x f 0 k
  | 0 => rfl
  | i + 1 => by rw [kx_scP, rl_pcopy_o]; exact rl_scP_o i
theorem rl_scP {p : Nat} : ∀ i, (∀ f, f ≤ 5 → kx_scP x 1 0 i f 1 p = if p < i then x f 0 p else x f 1 p) ∧ (∀ j, j < 4 → kx_scP x 1 0 i (j + 1000) 1 p = if p < i then x (j + 1000) 0 p else x (j + 1000) 1 p)
  | 0 => ⟨fun _ _ => rfl, fun _ _ => rfl⟩
  | i + 1 => by
    obtain ⟨i1, i2⟩ := rl_scP (p := p) i
    obtain ⟨a1, a2⟩ := rl_pcopy (x := kx_scP x 1 0 i) (p := i) (p' := p)
    refine ⟨fun f hf => ?_, fun j hj => ?_⟩
    · rw [kx_scP, a1 f hf, rl_scP_o, i1 f hf]
      by_cases c : p = i
      · subst c; rw [if_pos rfl, if_pos (Nat.lt_succ_self p)]
      · rw [if_neg c]
        by_cases d : p < i
        · rw [if_pos d, if_pos (show p < i + 1 by omega)]
        · rw [if_neg d, if_neg (show ¬ p < i + 1 by omega)]
    · rw [kx_scP, a2 j hj, rl_scP_o, i2 j hj]
      by_cases c : p = i
      · subst c; rw [if_pos rfl, if_pos (Nat.lt_succ_self p)]
      · rw [if_neg c]
        by_cases d : p < i
        · rw [if_pos d, if_pos (show p < i + 1 by omega)]
        · rw [if_neg d, if_neg (show ¬ p < i + 1 by omega)]
theorem rl_bcL_o {b f k : Nat} : ∀ i, kx_bcL x 1 b 0 b i f 0 k = x f 0 k
  | 0 => rfl
  | i + 1 => by rw [kx_bcL, kx_ccopy, rl_c1o (by decide), rl_c1o (by decide), rl_c1o (by decide)]; exact rl_bcL_o i
theorem rl_bcL {b f k : Nat} (hf : f = 10 ∨ f = 11 ∨ f = 12) : ∀ i, kx_bcL x 1 b 0 b i f 1 k = if 8 * b ≤ k ∧ k < 8 * b + i then x f 0 k else x f 1 k
  | 0 => by rw [if_neg (by omega)]; rfl
  | i + 1 => by
    have i1 := rl_bcL (b := b) (k := k) hf i
    have o : ∀ f k, kx_bcL x 1 b 0 b i f 0 k = x f 0 k := fun f k => rl_bcL_o i
    rw [kx_bcL, kx_ccopy]
    unfold kx_c1
    by_cases c : k = 8 * b + i
    · subst c
      rw [if_pos (by omega)]
      rcases hf with rfl | rfl | rfl
      · rw [bd_up_f (by decide), bd_up_f (by decide), bd_up_s, o]
      · rw [bd_up_f (by decide), bd_up_s, bd_up_f (by decide), o]
      · rw [bd_up_s, bd_up_f (by decide), bd_up_f (by decide), o]
    · rw [bd_up_n (fun q => c q.2.2), bd_up_n (fun q => c q.2.2), bd_up_n (fun q => c q.2.2), i1]
      by_cases d : 8 * b ≤ k ∧ k < 8 * b + i
      · rw [if_pos d, if_pos (by omega)]
      · rw [if_neg d, if_neg (by omega)]
theorem rl_bcopy_o {b zb f k : Nat} : kx_bcopy x 1 b 0 b zb f 0 k = x f 0 k := by
  rw [kx_bcopy, rl_c1o (by decide), rl_c1o (by decide), rl_c1o (by decide), rl_c1o (by decide), rl_c1o (by decide), rl_c1o (by decide), rl_c1o (by decide), rl_bcL_o, rl_upo (by decide)]
theorem rl_bcopy {b zb : Nat} : (∀ f, 21 ≤ f → f ≤ 27 → ∀ b', kx_bcopy x 1 b 0 b zb f 1 b' = if b' = b then x f 0 b else x f 1 b') ∧ (∀ f, f = 10 ∨ f = 11 ∨ f = 12 → ∀ k, kx_bcopy x 1 b 0 b zb f 1 k = if 8 * b ≤ k ∧ k < 8 * b + zb then x f 0 k else x f 1 k) := by
  have L0 : ∀ f k, 12 < f → f ≠ 20 → ∀ w, kx_bcL (bd_up x 20 1 b (nI zb)) 1 b 0 b zb f w k = x f w k := fun f k h1 h2 w => by
    rw [kx_bcL_f (by omega) (by omega) (by omega), bd_up_f h2]
  refine ⟨fun f h1 h2 b' => ?_, fun f hf k => ?_⟩
  · by_cases c : b' = b
    · subst c
      rw [if_pos rfl]
      obtain rfl | rfl | rfl | rfl | rfl | rfl | rfl : f = 21 ∨ f = 22 ∨ f = 23 ∨ f = 24 ∨ f = 25 ∨ f = 26 ∨ f = 27 := by omega
      all_goals simp [kx_bcopy, kx_c1, bd_up, kx_bcL_f]
    · rw [if_neg c]
      unfold kx_bcopy kx_c1
      rw [bd_up_n (fun q => c q.2.2), bd_up_n (fun q => c q.2.2), bd_up_n (fun q => c q.2.2), bd_up_n (fun q => c q.2.2), bd_up_n (fun q => c q.2.2), bd_up_n (fun q => c q.2.2), bd_up_n (fun q => c q.2.2)]
      exact L0 f b' (by omega) (by omega) 1
  · unfold kx_bcopy kx_c1
    rw [bd_up_f (by omega), bd_up_f (by omega), bd_up_f (by omega), bd_up_f (by omega), bd_up_f (by omega), bd_up_f (by omega), bd_up_f (by omega), rl_bcL hf, bd_up_f (by omega), bd_up_f (by omega)]
theorem rl_scB_o {f k : Nat} : ∀ i, kx_scB x 1 0 z i f 0 k = x f 0 k
  | 0 => rfl
  | i + 1 => by rw [kx_scB, rl_bcopy_o]; exact rl_scB_o i
theorem rl_scB (hz : ∀ b, b < nb → z b ≤ 8) : ∀ i, i ≤ nb → (∀ f, 21 ≤ f → f ≤ 27 → ∀ b, kx_scB x 1 0 z i f 1 b = if b < i then x f 0 b else x f 1 b) ∧ (∀ f, f = 10 ∨ f = 11 ∨ f = 12 → ∀ b, b < nb → ∀ k, k < z b → kx_scB x 1 0 z i f 1 (8 * b + k) = if b < i then x f 0 (8 * b + k) else x f 1 (8 * b + k))
  | 0, _ => ⟨fun _ _ _ _ => rfl, fun _ _ _ _ _ _ => rfl⟩
  | i + 1, hi => by
    obtain ⟨i1, i2⟩ := rl_scB hz i (by omega)
    obtain ⟨a1, a2⟩ := rl_bcopy (x := kx_scB x 1 0 z i) (b := i) (zb := z i)
    have hzi := hz i (by omega)
    refine ⟨fun f h1 h2 b => ?_, fun f hf b hb k hk => ?_⟩
    · rw [kx_scB, a1 f h1 h2, rl_scB_o, i1 f h1 h2]
      by_cases c : b = i
      · subst c; rw [if_pos rfl, if_pos (Nat.lt_succ_self b)]
      · rw [if_neg c]
        by_cases d : b < i
        · rw [if_pos d, if_pos (show b < i + 1 by omega)]
        · rw [if_neg d, if_neg (show ¬ b < i + 1 by omega)]
    · have hzb := hz b hb
      rw [kx_scB, a2 f hf, rl_scB_o, i2 f hf b hb k hk]
      by_cases c : b = i
      · subst c; rw [if_pos (by omega), if_pos (Nat.lt_succ_self b)]
      · rw [if_neg (by omega)]
        by_cases d : b < i
        · rw [if_pos d, if_pos (show b < i + 1 by omega)]
        · rw [if_neg d, if_neg (show ¬ b < i + 1 by omega)]
theorem rl_rco {f g k : Nat} : kx_rc x f 1 0 g 0 k = x g 0 k := if_neg (fun q => absurd q.2 (by decide))
theorem rl_rcf {f g w k : Nat} (h : g ≠ f) : kx_rc x f 1 0 g w k = x g w k := if_neg (fun q => h q.1)
theorem rl_rc1 {f k : Nat} (h : k < 4) : kx_rc x f 1 0 f 1 k = x f 0 k := by
  show (if (f = f ∧ 1 = 1) then _ else _) = _
  rw [if_pos ⟨rfl, rfl⟩]
  show (if 0 ≤ k ∧ k < 0 + 4 then _ else _) = _
  rw [if_pos (by omega), show 0 + (k - 0) = k by omega]
abbrev rl_sB (x : bd_M) (n nb : Nat) (z : Nat → Nat) : bd_M := kx_scB (bd_up (kx_scP (bd_up x 30 1 0 (nI n)) 1 0 n) 31 1 0 (nI nb)) 1 0 z nb
theorem rl_sB_o {f k : Nat} : rl_sB x n nb z f 0 k = x f 0 k := by
  show kx_scB _ 1 0 z nb f 0 k = _
  rw [rl_scB_o, rl_upo (by decide), rl_scP_o, rl_upo (by decide)]
theorem rl_sc_o {f k : Nat} : kx_scopy x 1 0 n nb z f 0 k = x f 0 k := by
  rw [kx_scopy, rl_c1o (by decide), rl_c1o (by decide), rl_c1o (by decide), rl_rco, rl_rco]
  exact rl_sB_o
theorem rl_sc_f {f w k : Nat} (h : f ≠ 35 ∧ f ≠ 36 ∧ f ≠ 32 ∧ f ≠ 33 ∧ f ≠ 34) : kx_scopy x 1 0 n nb z f w k = rl_sB x n nb z f w k := by
  rw [kx_scopy]
  unfold kx_c1
  rw [bd_up_f h.2.2.2.2, bd_up_f h.2.2.2.1, bd_up_f h.2.2.1, rl_rcf h.2.1, rl_rcf h.1]
theorem rl_sc_p {p : Nat} (hp : p < n) : (∀ f, f ≤ 5 → kx_scopy x 1 0 n nb z f 1 p = x f 0 p) ∧ (∀ j, j < 4 → kx_scopy x 1 0 n nb z (j + 1000) 1 p = x (j + 1000) 0 p) := by
  have sB : ∀ f, f ≤ 5 ∨ 1000 ≤ f → ∀ k i, kx_scB (bd_up (kx_scP (bd_up x 30 1 0 (nI n)) 1 0 n) 31 1 0 (nI nb)) 1 0 z i f 1 k = bd_up (kx_scP (bd_up x 30 1 0 (nI n)) 1 0 n) 31 1 0 (nI nb) f 1 k := fun f hf k i => by
    induction i with
    | zero => rfl
    | succ i ih =>
      rw [kx_scB, kx_bcopy]
      unfold kx_c1
      rw [bd_up_f (by omega), bd_up_f (by omega), bd_up_f (by omega), bd_up_f (by omega), bd_up_f (by omega), bd_up_f (by omega), bd_up_f (by omega), kx_bcL_f (by omega) (by omega) (by omega), bd_up_f (by omega)]
      exact ih
  obtain ⟨a1, a2⟩ := rl_scP (x := bd_up x 30 1 0 (nI n)) (p := p) n
  refine ⟨fun f hf => ?_, fun j hj => ?_⟩
  · rw [rl_sc_f (by omega)]
    show kx_scB _ 1 0 z nb f 1 p = _
    rw [sB f (Or.inl hf), bd_up_f (by omega), a1 f hf, if_pos hp, rl_upo (by decide)]
  · rw [rl_sc_f (by omega)]
    show kx_scB _ 1 0 z nb (j + 1000) 1 p = _
    rw [sB (j + 1000) (Or.inr (by omega)), bd_up_f (by omega), a2 j hj, if_pos hp, rl_upo (by decide)]
theorem rl_sc_b (hz : ∀ b, b < nb → z b ≤ 8) {b : Nat} (hb : b < nb) : (∀ f, 21 ≤ f → f ≤ 27 → kx_scopy x 1 0 n nb z f 1 b = x f 0 b) ∧ (∀ f, f = 10 ∨ f = 11 ∨ f = 12 → ∀ k, k < z b → kx_scopy x 1 0 n nb z f 1 (8 * b + k) = x f 0 (8 * b + k)) := by
  obtain ⟨a1, a2⟩ := rl_scB (x := bd_up (kx_scP (bd_up x 30 1 0 (nI n)) 1 0 n) 31 1 0 (nI nb)) hz nb (Nat.le_refl nb)
  refine ⟨fun f h1 h2 => ?_, fun f hf k hk => ?_⟩
  · rw [rl_sc_f (by omega)]
    show kx_scB _ 1 0 z nb f 1 b = _
    rw [a1 f h1 h2, if_pos hb, rl_upo (by decide), rl_scP_o, rl_upo (by decide)]
  · rw [rl_sc_f (by omega)]
    show kx_scB _ 1 0 z nb f 1 (8 * b + k) = _
    rw [a2 f hf b hb k hk, if_pos hb, rl_upo (by decide), rl_scP_o, rl_upo (by decide)]
theorem rl_sc_g : (∀ f, f = 32 ∨ f = 33 ∨ f = 34 → kx_scopy x 1 0 n nb z f 1 0 = x f 0 0) ∧ (∀ f, f = 35 ∨ f = 36 → ∀ k, k < 4 → kx_scopy x 1 0 n nb z f 1 k = x f 0 k) := by
  have o : ∀ f k, rl_sB x n nb z f 0 k = x f 0 k := fun f k => rl_sB_o
  refine ⟨fun f hf => ?_, fun f hf k hk => ?_⟩
  · rw [kx_scopy]
    unfold kx_c1
    rcases hf with rfl | rfl | rfl
    · rw [bd_up_f (by decide), bd_up_f (by decide), bd_up_s, rl_rco, rl_rco]; exact o _ _
    · rw [bd_up_f (by decide), bd_up_s, rl_upo (by decide), rl_rco, rl_rco]; exact o _ _
    · rw [bd_up_s, rl_upo (by decide), rl_upo (by decide), rl_rco, rl_rco]; exact o _ _
  · rw [kx_scopy]
    unfold kx_c1
    rcases hf with rfl | rfl
    · rw [bd_up_f (by decide), bd_up_f (by decide), bd_up_f (by decide), rl_rcf (by decide), rl_rc1 hk]; exact o _ _
    · rw [bd_up_f (by decide), bd_up_f (by decide), bd_up_f (by decide), rl_rc1 hk, rl_rco]; exact o _ _
theorem rl_bec {f k : Nat} (h : ((f = 19 ∨ f = 20 ∨ f = 21 ∨ f = 22 ∨ f = 28) ∧ k < 24) ∨ ((f = 23 ∨ f = 24) ∧ k < 48) ∨ ((f = 25 ∨ f = 26 ∨ f = 27) ∧ k < 6) ∨ ((f = 10 ∨ f = 11 ∨ f = 12) ∧ k = 0)) : ry_bec y 1 0 f 1 k = y f 0 k := by
  rcases h with ⟨h, hk⟩ | ⟨h, hk⟩ | ⟨h, hk⟩ | ⟨h, hk⟩
  · rcases h with rfl | rfl | rfl | rfl | rfl <;> simp [ry_bec, ry_rc, ry_c1, bd_ro, bd_up, va_cpy, hk]
  · rcases h with rfl | rfl <;> simp [ry_bec, ry_rc, ry_c1, bd_ro, bd_up, va_cpy, hk]
  · rcases h with rfl | rfl | rfl <;> simp [ry_bec, ry_rc, ry_c1, bd_ro, bd_up, va_cpy, hk]
  · subst hk
    rcases h with rfl | rfl | rfl <;> simp [ry_bec, ry_rc, ry_c1, bd_ro, bd_up]
/-- the copies are alike -/
theorem rl_copy (h : rl_J x y n nb z t) : rl_M (kx_scopy x 1 0 n nb z) 1 (ry_bec y 1 0) 1 n n nb z n := by
  have hz := rl_z8 h.1
  have hn : n ≤ 24 := h.1.2.1
  have hnb : nb ≤ 6 := h.1.2.2.2.1
  obtain ⟨j1, j2, ⟨⟨m1, m1b, m1c⟩, m2, m3, m4, m5, m6, m7, m8, m9⟩, j4, j5, j6, j7, j8⟩ := h
  have B := fun b (hb : b < nb) => rl_sc_b (x := x) (n := n) hz hb
  refine ⟨⟨fun p hp j hj => ?_, fun b hb k hk => ?_, fun i hi => ?_⟩, fun b hb hbe => ⟨fun k hk => ?_, fun k hk j hj => ?_⟩, fun p hp => ?_, fun p h1 h2 => absurd h2 (by omega), fun b hb => ?_, ⟨?_, ?_⟩, fun b hb hbe k hk => ?_, fun b hb => ?_, ?_⟩
  · rw [(rl_sc_p hp).2 j hj, ry_bec_o]; exact m1 p hp j hj
  · rw [(B b hb).2 10 (by decide) k hk, ry_bec_o]; exact m1b b hb k hk
  · rw [rl_sc_g.2 35 (by decide) i hi, rl_sc_g.2 36 (by decide) i hi, ry_bec_o, ry_bec_o]; exact m1c i hi
  · have hzb := hz b hb
    rw [(B b hb).2 11 (by decide) k hk, rl_bec (by omega)]; exact (m2 b hb hbe).1 k hk
  · rw [(B b hb).2 11 (by decide) k hk, (B b hb).2 11 (by decide) j hj]; exact (m2 b hb hbe).2 k hk j hj
  · have P := (rl_sc_p (x := x) (nb := nb) (z := z) hp).1
    rw [P 0 (by decide), P 1 (by decide), P 4 (by decide), P 5 (by decide), rl_bec (by omega), rl_bec (by omega), rl_bec (by omega), rl_bec (by omega)]
    exact m3 p (by omega)
  · have P := (B b hb).1
    rw [P 21 (by decide) (by decide), P 22 (by decide) (by decide), P 24 (by decide) (by decide), P 25 (by decide) (by decide), P 26 (by decide) (by decide), P 27 (by decide) (by decide), rl_bec (by omega), rl_bec (by omega), rl_bec (by omega), rl_bec (by omega), rl_bec (by omega), rl_bec (by omega)]
    exact m5 b hb
  · rw [rl_sc_g.1 33 (by decide), rl_bec (by omega)]; exact m6.1
  · rw [rl_sc_g.1 34 (by decide), rl_bec (by omega)]; exact m6.2
  · have hzb := hz b hb
    rw [(B b hb).2 12 (by decide) k hk, rl_bec (by omega)]; exact m7 b hb hbe k hk
  · rw [(B b hb).1 23 (by decide) (by decide), rl_bec (by omega)]; exact m8 b hb
  · rw [rl_sc_g.1 32 (by decide), rl_bec (by omega)]; exact m9
theorem rl_fore (h : rl_M x 1 y 1 n n nb z n) (hn : n ≤ 24) (hz : ∀ b, b < nb → z b ≤ 8) (hnb : 0 < nb) (hnb6 : nb ≤ 6) : ∀ j, rl_M (kx_fo x n nb z t j) 1 (ry_fs y n nb z t j) 1 n n nb z n
  | 0 => h
  | j + 1 => by
    rw [kx_fo, ry_fs]
    exact rl_M_n (rl_hold (rl_fore h hn hz hnb hnb6 j) (Nat.le_refl n) hn hz hnb hnb6).1
theorem rl_fo_o {f k : Nat} : ∀ j, kx_fo x n nb z t j f 0 k = x f 0 k
  | 0 => rfl
  | j + 1 => by rw [kx_fo, rl_hold_o (by decide)]; exact rl_fo_o j
theorem rl_fs_o {f k : Nat} : ∀ j, ry_fs y n nb z t j f 0 k = y f 0 k
  | 0 => rfl
  | j + 1 => by rw [ry_fs, ry_con_o]; exact rl_fs_o j
theorem rl_fo_20 {b : Nat} : ∀ j, kx_fo x n nb z t j 20 1 b = x 20 1 b
  | 0 => rfl
  | j + 1 => by rw [kx_fo, rl_hold_f (by decide), rl_h1_k (by decide)]; exact rl_fo_20 j
theorem rl_sc_20 {b : Nat} (hb : nb ≤ b) : kx_scopy x 1 0 n nb z 20 1 b = x 20 1 b := by
  rw [rl_sc_f (by decide)]
  show kx_scB _ 1 0 z nb 20 1 b = _
  rw [kx_scB_20, if_neg (by omega), bd_up_f (by decide), kx_scP_f (by decide) (by decide), bd_up_f (by decide)]
theorem rl_out (h : rl_M x 1 y 1 n n nb z n) {b q : Nat} (hb : b < nb) (hq : q < 4) : kx_outlook x 1 b (nI q) = ry_fe y b q := by
  obtain ⟨m1, m2, m3, m4, m5, m6, m7, m8, m9⟩ := h
  obtain ⟨a1, a2, a3, a4, a5, a6⟩ := m5 b hb
  obtain rfl | rfl | rfl | rfl : q = 0 ∨ q = 1 ∨ q = 2 ∨ q = 3 := by omega
  · exact a2
  · exact m8 b hb
  · exact a3
  · exact a5
theorem rl_hz (h : rl_J x y n nb z t) : ∀ b, nb ≤ b → b < 6 → x 20 1 b = nI (z b) := fun b hb hb6 => by
  rw [h.2.2.2.1.2 b hb hb6, h.2.2.2.1.1 b hb]; exact nI_0.symm
theorem rl_MbJ (h : rl_J x y n nb z t) : ry_Mb y 0 n nb z := fun b hb k hk => by
  have := rl_J11 h hb hk
  rw [← this.1]; exact this.2
theorem la_J_foresee (hlf : l.stackTraces = false) (h : rl_J x y n nb z t) (hi : t ≤ i) (hi2 : i < 1000) : la_O_foresee l E x y (rl_Jn (i + 1)) := by
  intro a b d om
  have hs := h.1
  have hy := h.2.1
  have hn : n ≤ 24 := hs.2.1
  have hnb : nb ≤ 6 := hs.2.2.2.1
  have hz := rl_z8 hs
  have e4 : ∀ a : Int32, (¬ a < 0 ∧ a < 4) ↔ (¬ a < 0 ∧ ¬ 3 < a) := fun a => and_congr_right (fun q => la_ltI (m := 3) (by decide) q)
  by_cases hp : ¬ a < 0 ∧ a < nI nb
  · obtain ⟨k, hk, rfl⟩ := la_ix (by omega) hp
    by_cases h2 : ¬ d < 0 ∧ d < 4
    · obtain ⟨q, hq, rfl⟩ := la_ix (n := 4) (by decide) h2
      by_cases h3 : ¬ b < 1 ∧ ¬ 20 < b
      · have hb0 : ¬ b < 0 := fun q => h3.1 (Int32.lt_trans q (by decide))
        obtain ⟨g, hg, rfl⟩ := nI_of hb0
        have g1 : 1 ≤ g := by
          have : ¬ g < 1 := fun q => h3.1 ((nI_ltI (a := g) (b := 1) hg (by decide)).mpr q)
          omega
        have g2 : g ≤ 20 := by
          have : ¬ 20 < g := fun q => h3.2 ((nI_ltI (a := 20) (b := g) (by decide) hg).mpr q)
          omega
        have ht : x 32 0 0 = nI t := h.2.2.2.2.1
        have h10 : y 10 0 0 = nI t := h.2.2.1.2.2.2.2.2.2.2.2.symm.trans ht
        have M := rl_fore (t := t) (rl_copy (rl_J_t (v := 0) h)) hn hz (by omega) hnb g
        refine la_ok0 (k_L_foresee_ok l E x y _ om (nI k) (nI g) (nI q) (k_X5_foresee l E x y om n nb z t k g q hs ht (by omega) (rl_hz h) hk g1 g2 hq)) (k_X7_foresee_ok l E _ y _ n nb z t k g q hy (rl_MbJ h) h10 (by omega) hk g1 g2 hq) (by decide) ?_ (rl_out M hk hq) (la_up (n := n) (nb := nb) (z := z) (t' := t) (rl_J_o (rl_J_t (v := 0) h) (fun f k' => by rw [rl_fo_o, rl_sc_o]) (fun f k' => by rw [rl_fs_o, ry_bec_o]) (fun b' hb' => by rw [rl_fo_20, rl_sc_20 hb'])) (by omega))
        rw [rl_fs_o, ry_bec_o]
        exact bd_up_s
      · exact la_okx (k_L_foresee_x2 l E x y om (nI k) b (nI q) (k_X5_foresee_x3 l hlf E x y om n nb z k b q hs hk hq h3)) (k_X7_foresee_2 l E x y om n nb z (nI k) b (nI q) hy ⟨hp, (e4 _).mp h2⟩ h3) (by decide) rfl (by decide) (la_up (rl_J_t (rl_J_t h)) (by omega))
    · exact la_okx (k_L_foresee_x1 l E x y om (nI k) b d (k_X5_foresee_x2 l hlf E x y om n nb z k b d hs hk h2)) (k_X7_foresee_1 l E x y om n nb z (nI k) b d hy (fun q => h2 ((e4 _).mpr q.2))) (by decide) rfl (by decide) (la_up (rl_J_t (rl_J_t h)) (by omega))
  · exact la_okx (k_L_foresee_x1 l E x y om a b d (k_X5_foresee_x1 l hlf E x y om n nb z a b d hs hp)) (k_X7_foresee_1 l E x y om n nb z a b d hy (fun q => hp q.1)) (by decide) rfl (by decide) (la_up (rl_J_t (rl_J_t h)) (by omega))
end LQ
