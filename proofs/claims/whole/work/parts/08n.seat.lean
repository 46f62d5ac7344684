/-! SEATS: where a player sits, and seat() -/
section LN
variable {l : Launch} {E : bd_E} {x y : bd_M} {n nb t i : Nat} {z : Nat → Nat}
theorem rl_so_no {v : Int32} (h : ∀ i, i < 48 → i / 8 < nb → i % 8 < z (i / 8) → ¬ y 23 0 i = v) : ∀ f i, i + f = 48 → ry_so y 0 nb z v f i = (-1)
  | 0, _, _ => rfl
  | f + 1, i, hi => by
    have ih := rl_so_no h f (i + 1) (by omega)
    rw [ry_so, ih]
    by_cases c : nb ≤ i / 8
    · rw [if_pos c]
    · rw [if_neg c]
      by_cases d : z (i / 8) ≤ i % 8
      · rw [if_pos d]
      · rw [if_neg d, if_neg (h i (by omega) (by omega) (by omega))]
theorem rl_so_at {v : Int32} {i0 : Nat} (h0 : i0 < 48) (h1 : i0 / 8 < nb) (h2 : i0 % 8 < z (i0 / 8)) (h3 : y 23 0 i0 = v) (h : ∀ i, i < 48 → i / 8 < nb → i % 8 < z (i / 8) → y 23 0 i = v → i = i0) : ∀ f i, i + f = 48 → i ≤ i0 → ry_so y 0 nb z v f i = nI i0
  | 0, i, hi, hi0 => absurd hi (by omega)
  | f + 1, i, hi, hi0 => by
    rw [ry_so]
    by_cases e : i = i0
    · subst e
      rw [if_neg (by omega), if_neg (by omega), if_pos h3]
    · have ih := rl_so_at h0 h1 h2 h3 h f (i + 1) (by omega) (by omega)
      rw [ih]
      by_cases c : nb ≤ i / 8
      · rw [if_pos c]
      · rw [if_neg c]
        by_cases d : z (i / 8) ≤ i % 8
        · rw [if_pos d]
        · rw [if_neg d, if_neg (fun q => e (h i (by omega) (by omega) (by omega) q))]
theorem rl_seatOf (h : rl_J x y n nb z t) {p : Nat} (hp : p < n) : (x 2 0 p = (-1) ∧ x 3 0 p = (-1) ∧ ry_so y 0 nb z (nI p) 48 0 = (-1)) ∨ ∃ b k, b < nb ∧ k < z b ∧ x 2 0 p = nI b ∧ x 3 0 p = nI k ∧ x 11 0 (8 * b + k) = nI p ∧ ry_so y 0 nb z (nI p) 48 0 = nI (8 * b + k) := by
  have hs := h.1
  have hn : n ≤ 24 := hs.2.1
  have hnb : nb ≤ 6 := hs.2.2.2.1
  have hz := rl_z8 hs
  have hL := h.2.2.2.2.2.1
  have rd : ∀ i, i / 8 < nb → i % 8 < z (i / 8) → y 23 0 i = nI p → x 2 0 p = nI (i / 8) ∧ x 3 0 p = nI (i % 8) := fun i h1 h2 h3 => by
    have e := (rl_J11 h h1 h2).1
    rw [Nat.div_add_mod] at e
    exact hL.2 (i / 8) h1 (i % 8) h2 p hp (by rw [Nat.div_add_mod, e]; exact h3)
  rcases hL.1 p (by omega) with ⟨a1, a2⟩ | ⟨a1, b, k, a2, a3, a4, a5, a6⟩
  · refine Or.inl ⟨a1, a2, rl_so_no (fun i hi h1 h2 h3 => ?_) 48 0 rfl⟩
    exact rl_nIm (p := i / 8) (by omega) ((rd i h1 h2 h3).1.symm.trans a1)
  · have hzb := hz b a2
    refine Or.inr ⟨b, k, a2, a3, a4, a5, a6, rl_so_at (by omega) (by omega) ?_ ?_ (fun i hi h1 h2 h3 => ?_) 48 0 rfl (by omega)⟩
    · rw [show (8 * b + k) / 8 = b by omega, show (8 * b + k) % 8 = k by omega]; exact a3
    · rw [← (rl_J11 h a2 a3).1]; exact a6
    · obtain ⟨q1, q2⟩ := rd i h1 h2 h3
      have r1 := (nI_eq (by omega) (by omega)).mp (q1.symm.trans a4)
      have r2 := (nI_eq (by omega) (by omega)).mp (q2.symm.trans a5)
      omega
theorem rl_leave (hL : rl_L x n nb z) (hn : n ≤ 24) (hnb : nb ≤ 6) (hz : ∀ b, b < nb → z b ≤ 8) {p : Nat} (hp : p < n) : (∀ b, b < nb → ∀ k, k < z b → kx_leave x 0 n nb z (nI p) 11 0 (8 * b + k) = if x 11 0 (8 * b + k) = nI p then (-1) else x 11 0 (8 * b + k)) ∧ (∀ b k, nb ≤ b → kx_leave x 0 n nb z (nI p) 11 0 (8 * b + k) = x 11 0 (8 * b + k)) ∧ (∀ r, kx_leave x 0 n nb z (nI p) 2 0 r = (if r = p then (-1) else x 2 0 r) ∧ kx_leave x 0 n nb z (nI p) 3 0 r = (if r = p then (-1) else x 3 0 r)) ∧ (∀ f w k, f ≠ 2 → f ≠ 3 → f ≠ 11 → kx_leave x 0 n nb z (nI p) f w k = x f w k) ∧ rl_L (kx_leave x 0 n nb z (nI p)) n nb z := by
  have hu : kx_leave x 0 n nb z (nI p) = bd_up (bd_up (kx_off x 0 nb z p) 2 0 p (-1)) 3 0 p (-1) := by
    unfold kx_leave
    rw [if_pos ⟨nI_pos (by omega), nI_lt hp (by omega)⟩, nI_clamp (by omega)]
  have off : ∀ f w k, f ≠ 11 → kx_off x 0 nb z p f w k = x f w k := fun f w k hf => by
    unfold kx_off
    split
    · exact bd_up_f hf
    · rfl
  have o11 : (∀ b, b < nb → ∀ k, k < z b → kx_off x 0 nb z p 11 0 (8 * b + k) = if x 11 0 (8 * b + k) = nI p then (-1) else x 11 0 (8 * b + k)) ∧ (∀ b k, nb ≤ b → kx_off x 0 nb z p 11 0 (8 * b + k) = x 11 0 (8 * b + k)) := by
    unfold kx_off
    rcases hL.1 p (by omega) with ⟨a1, a2⟩ | ⟨a1, b0, k0, a2, a3, a4, a5, a6⟩
    · rw [if_neg (fun q => q.1.1 (by rw [a1]; decide))]
      refine ⟨fun b hb k hk => ?_, fun b k hb => rfl⟩
      rw [if_neg (fun q => rl_nIm (p := b) (by omega) ((hL.2 b hb k hk p hp q).1.symm.trans a1))]
    · have hz0 := hz b0 a2
      have hok : kx_chOk nb z (nI b0) (nI k0) := by
        refine ⟨⟨nI_pos (by omega), nI_lt a2 (by omega)⟩, nI_pos (by omega), ?_⟩
        rw [nI_clamp (by omega)]
        exact nI_lt a3 (by omega)
      rw [a4, a5, if_pos hok, nI_clamp (n := b0) (by omega), nI_clamp (n := k0) (by omega)]
      refine ⟨fun b hb k hk => ?_, fun b k hb => bd_up_n (fun q => by omega)⟩
      rw [rl_up]
      by_cases c : 8 * b + k = 8 * b0 + k0
      · rw [if_pos ⟨rfl, rfl, c⟩, c, if_pos a6]
      · rw [if_neg (fun q => c q.2.2), if_neg (fun q => ?_)]
        obtain ⟨q1, q2⟩ := hL.2 b hb k hk p hp q
        have hzb := hz b hb
        have r1 := (nI_eq (by omega) (by omega)).mp (q1.symm.trans a4)
        have r2 := (nI_eq (by omega) (by omega)).mp (q2.symm.trans a5)
        omega
  have e11 : ∀ k, kx_leave x 0 n nb z (nI p) 11 0 k = kx_off x 0 nb z p 11 0 k := fun k => by rw [hu, bd_up_f (by decide), bd_up_f (by decide)]
  have e2 : ∀ r, kx_leave x 0 n nb z (nI p) 2 0 r = (if r = p then (-1) else x 2 0 r) ∧ kx_leave x 0 n nb z (nI p) 3 0 r = (if r = p then (-1) else x 3 0 r) := fun r => by
    rw [hu]
    refine ⟨?_, ?_⟩
    · rw [bd_up_f (by decide), rl_up, off _ _ _ (by decide)]
      by_cases c : r = p
      · rw [if_pos ⟨rfl, rfl, c⟩, if_pos c]
      · rw [if_neg (fun q => c q.2.2), if_neg c]
    · rw [rl_up, bd_up_f (by decide), off _ _ _ (by decide)]
      by_cases c : r = p
      · rw [if_pos ⟨rfl, rfl, c⟩, if_pos c]
      · rw [if_neg (fun q => c q.2.2), if_neg c]
  refine ⟨fun b hb k hk => by rw [e11]; exact o11.1 b hb k hk, fun b k hb => by rw [e11]; exact o11.2 b k hb, e2, fun f w k h1 h2 h3 => by rw [hu, bd_up_f h2, bd_up_f h1]; exact off f w k h3, fun r hr => ?_, fun b hb k hk r hr e => ?_⟩
  · rw [(e2 r).1, (e2 r).2]
    by_cases c : r = p
    · rw [if_pos c, if_pos c]; exact Or.inl ⟨rfl, rfl⟩
    · rw [if_neg c, if_neg c]
      rcases hL.1 r hr with q | ⟨q1, b, k, q2, q3, q4, q5, q6⟩
      · exact Or.inl q
      · refine Or.inr ⟨q1, b, k, q2, q3, q4, q5, ?_⟩
        rw [e11, o11.1 b q2 k q3, if_neg (fun q => c ((nI_eq (by omega) (by omega)).mp (q6.symm.trans q)))]
        exact q6
  · rw [e11, o11.1 b hb k hk] at e
    by_cases c : x 11 0 (8 * b + k) = nI p
    · rw [if_pos c] at e
      exact absurd e.symm (rl_nIm (by omega))
    · rw [if_neg c] at e
      have hrp : ¬ r = p := fun q => c (by rw [← q]; exact e)
      rw [(e2 r).1, (e2 r).2, if_neg hrp, if_neg hrp]
      exact hL.2 b hb k hk r hr e
theorem rl_put {b q : Nat} {v : Int32} (hL : rl_L x n nb z) (hn : n ≤ 24) (hnb : nb ≤ 6) (hz : ∀ b, b < nb → z b ≤ 8) (hb : b < nb) (hq : q < z b) (he : x 11 0 (8 * b + q) = (-1)) (hv : v = (-1) ∨ ∃ p, p < n ∧ v = nI p ∧ x 2 0 p = (-1)) : (∀ k, kx_putOn x 0 n b q v 11 0 k = if k = 8 * b + q then v else x 11 0 k) ∧ rl_L (kx_putOn x 0 n b q v) n nb z := by
  have hmv : ry_mv n v := by
    rcases hv with q | ⟨p, h1, h2, -⟩
    · exact Or.inl q
    · rw [h2]; exact ry_mv_nI h1 hn
  have P := fun p (hp : p < 2 ^ 31) => rl_putOn (x := x) (w := 0) (b := b) (s := q) (p := p) hmv hn hp
  have hzb := hz b hb
  refine ⟨(P 0 (by decide)).1, fun r hr => ?_, fun b' hb' k hk r hr e => ?_⟩
  · rw [(P r (by omega)).2.1, (P r (by omega)).2.2]
    by_cases c : v = nI r
    · rw [if_pos c, if_pos c]
      have hrn : r < n := by
        rcases hv with a | ⟨p, h1, h2, -⟩
        · exact absurd (c.symm.trans a) (rl_nIm (by omega))
        · have := (nI_eq (by omega) (by omega)).mp (c.symm.trans h2)
          omega
      refine Or.inr ⟨hrn, b, q, hb, hq, rfl, rfl, ?_⟩
      rw [(P 0 (by decide)).1, if_pos rfl]; exact c
    · rw [if_neg c, if_neg c]
      rcases hL.1 r hr with a | ⟨a1, b0, k0, a2, a3, a4, a5, a6⟩
      · exact Or.inl a
      · refine Or.inr ⟨a1, b0, k0, a2, a3, a4, a5, ?_⟩
        rw [(P 0 (by decide)).1, if_neg (fun q => rl_nIm (p := r) (by omega) (by rw [← a6, q]; exact he))]
        exact a6
  · rw [(P 0 (by decide)).1] at e
    rw [(P r (by omega)).2.1, (P r (by omega)).2.2]
    have hzb' := hz b' hb'
    by_cases c : 8 * b' + k = 8 * b + q
    · rw [if_pos c] at e
      rw [if_pos e, if_pos e]
      exact ⟨by congr 1; omega, by congr 1; omega⟩
    · rw [if_neg c] at e
      have h0 := hL.2 b' hb' k hk r hr e
      have hne : ¬ v = nI r := fun a => by
        rcases hv with a1 | ⟨p, h1, h2, h3⟩
        · exact rl_nIm (p := r) (by omega) (a.symm.trans a1)
        · have := (nI_eq (by omega) (by omega)).mp (a.symm.trans h2)
          subst this
          exact rl_nIm (p := b') (by omega) (h0.1.symm.trans h3)
      rw [if_neg hne, if_neg hne]
      exact h0
/-- seat(): the class -/
theorem rl_seat_x (h : rl_J x y n nb z t) {b q : Nat} {v : Int32} (hb : b < nb) (hq : q < z b) (hv : v = (-1) ∨ ∃ p, p < n ∧ v = nI p ∧ (x 11 0 (8 * b + q) = (-1) ∨ x 11 0 (8 * b + q) = nI p)) :
    (∀ b', b' < nb → ∀ k, k < z b' → kx_putOn (kx_leave (kx_leave x 0 n nb z (x 11 0 (8 * b + q))) 0 n nb z v) 0 n b q v 11 0 (8 * b' + k) = if 8 * b' + k = 8 * b + q then v else if ¬ v = (-1) ∧ x 11 0 (8 * b' + k) = v then (-1) else x 11 0 (8 * b' + k)) ∧ (∀ b' k, nb ≤ b' → kx_putOn (kx_leave (kx_leave x 0 n nb z (x 11 0 (8 * b + q))) 0 n nb z v) 0 n b q v 11 0 (8 * b' + k) = x 11 0 (8 * b' + k)) ∧ (∀ f w k, f ≠ 2 → f ≠ 3 → f ≠ 11 → kx_putOn (kx_leave (kx_leave x 0 n nb z (x 11 0 (8 * b + q))) 0 n nb z v) 0 n b q v f w k = x f w k) ∧ rl_L (kx_putOn (kx_leave (kx_leave x 0 n nb z (x 11 0 (8 * b + q))) 0 n nb z v) 0 n b q v) n nb z := by
  have hs := h.1
  have hn : n ≤ 24 := hs.2.1
  have hnb : nb ≤ 6 := hs.2.2.2.1
  have hz := rl_z8 hs
  have hL := h.2.2.2.2.2.1
  have hzb := hz b hb
  have hmu := (rl_J11 h hb hq).2
  have l1 : ∀ X : bd_M, kx_leave X 0 n nb z (-1) = X := fun X => if_neg (fun q => q.1 (by decide))
  have un : ∀ p, p < n → x 11 0 (8 * b + q) = nI p → ∀ b', b' < nb → ∀ k, k < z b' → x 11 0 (8 * b' + k) = nI p → 8 * b' + k = 8 * b + q := fun p hp hu b' hb' k hk e => by
    have a1 := hL.2 b hb q hq p hp hu
    have a2 := hL.2 b' hb' k hk p hp e
    have hz' := hz b' hb'
    have r1 := (nI_eq (by omega) (by omega)).mp (a1.1.symm.trans a2.1)
    have r2 := (nI_eq (by omega) (by omega)).mp (a1.2.symm.trans a2.2)
    omega
  have fin : ∀ X : bd_M, rl_L X n nb z → X 11 0 (8 * b + q) = (-1) → (v = (-1) ∨ ∃ p, p < n ∧ v = nI p ∧ X 2 0 p = (-1)) → (∀ b', b' < nb → ∀ k, k < z b' → ¬ 8 * b' + k = 8 * b + q → X 11 0 (8 * b' + k) = if ¬ v = (-1) ∧ x 11 0 (8 * b' + k) = v then (-1) else x 11 0 (8 * b' + k)) → (∀ b' k, nb ≤ b' → X 11 0 (8 * b' + k) = x 11 0 (8 * b' + k)) → (∀ f w k, f ≠ 2 → f ≠ 3 → f ≠ 11 → X f w k = x f w k) →
      (∀ b', b' < nb → ∀ k, k < z b' → kx_putOn X 0 n b q v 11 0 (8 * b' + k) = if 8 * b' + k = 8 * b + q then v else if ¬ v = (-1) ∧ x 11 0 (8 * b' + k) = v then (-1) else x 11 0 (8 * b' + k)) ∧ (∀ b' k, nb ≤ b' → kx_putOn X 0 n b q v 11 0 (8 * b' + k) = x 11 0 (8 * b' + k)) ∧ (∀ f w k, f ≠ 2 → f ≠ 3 → f ≠ 11 → kx_putOn X 0 n b q v f w k = x f w k) ∧ rl_L (kx_putOn X 0 n b q v) n nb z := fun X hLX hX hvX c1 c2 c3 => by
    obtain ⟨p1, p2⟩ := rl_put hLX hn hnb hz hb hq hX hvX
    refine ⟨fun b' hb' k hk => ?_, fun b' k hb' => ?_, fun f w k h1 h2 h3 => by rw [rl_putOn_f ⟨h1, h2, h3⟩]; exact c3 f w k h1 h2 h3, p2⟩
    · rw [p1]
      by_cases c : 8 * b' + k = 8 * b + q
      · rw [if_pos c, if_pos c]
      · rw [if_neg c, if_neg c]; exact c1 b' hb' k hk c
    · rw [p1, if_neg (by omega)]; exact c2 b' k hb'
  by_cases hu : x 11 0 (8 * b + q) = (-1)
  · rw [hu, l1]
    rcases hv with rfl | ⟨p, hp, rfl, -⟩
    · rw [l1]
      exact fin x hL hu (Or.inl rfl) (fun b' hb' k hk c => by rw [if_neg (fun a => a.1 rfl)]) (fun _ _ _ => rfl) (fun _ _ _ _ _ _ => rfl)
    · obtain ⟨a1, a2, a3, a4, a5⟩ := rl_leave hL hn hnb hz hp
      refine fin _ a5 ?_ (Or.inr ⟨p, hp, rfl, by rw [(a3 p).1, if_pos rfl]⟩) (fun b' hb' k hk c => ?_) a2 a4
      · rw [a1 b hb q hq, hu]; split <;> rfl
      · rw [a1 b' hb' k hk]
        by_cases d : x 11 0 (8 * b' + k) = nI p
        · rw [if_pos d, if_pos ⟨rl_nIm (by omega), d⟩]
        · rw [if_neg d, if_neg (fun a => d a.2)]
  · obtain ⟨e0, hp0⟩ := rl_mvI hmu hu
    obtain ⟨a1, a2, a3, a4, a5⟩ := rl_leave hL hn hnb hz hp0
    rw [← e0] at a1 a2 a3 a4 a5
    rcases hv with rfl | ⟨p, hp, rfl, hvu⟩
    · rw [l1]
      refine fin _ a5 (by rw [a1 b hb q hq, if_pos rfl]) (Or.inl rfl) (fun b' hb' k hk c => ?_) a2 a4
      rw [a1 b' hb' k hk, if_neg (fun d => c (un _ hp0 e0 b' hb' k hk (d.trans e0))), if_neg (fun a => a.1 rfl)]
    · have hup : x 11 0 (8 * b + q) = nI p := hvu.resolve_left hu
      rw [hup] at a1 a2 a3 a4 a5 ⊢
      obtain ⟨b1, b2, b3, b4, b5⟩ := rl_leave a5 hn hnb hz hp
      refine fin _ b5 ?_ (Or.inr ⟨p, hp, rfl, by rw [(b3 p).1, if_pos rfl]⟩) (fun b' hb' k hk c => ?_) (fun b' k hb' => (b2 b' k hb').trans (a2 b' k hb')) (fun f w k h1 h2 h3 => (b4 f w k h1 h2 h3).trans (a4 f w k h1 h2 h3))
      · rw [b1 b hb q hq, a1 b hb q hq, if_pos hup]; split <;> rfl
      · rw [b1 b' hb' k hk, a1 b' hb' k hk]
        by_cases d : x 11 0 (8 * b' + k) = nI p
        · rw [if_pos d, if_neg (fun a => rl_nIm (p := p) (by omega) a.symm), if_pos ⟨rl_nIm (by omega), d⟩]
        · rw [if_neg d, if_neg d, if_neg (fun a => d a.2)]
/-- seat(): the reference -/
theorem rl_seat_y (h : rl_J x y n nb z t) {b q : Nat} {v : Int32} (hv : v = (-1) ∨ ∃ p, p < n ∧ v = nI p) {b' k : Nat} (hb' : b' < nb) (hk : k < z b') : ry_seat (ry_t0 y) nb z (8 * b + q) v 23 0 (8 * b' + k) = if 8 * b' + k = 8 * b + q then v else if ¬ v = (-1) ∧ x 11 0 (8 * b' + k) = v then (-1) else x 11 0 (8 * b' + k) := by
  have hs := h.1
  have hn : n ≤ 24 := hs.2.1
  have hnb : nb ≤ 6 := hs.2.2.2.1
  have hz := rl_z8 hs
  have hL := h.2.2.2.2.2.1
  have e := (rl_J11 h hb' hk).1
  rw [ry_seat, rl_up]
  by_cases c : 8 * b' + k = 8 * b + q
  · rw [if_pos ⟨rfl, rfl, c⟩, if_pos c]
  · rw [if_neg (fun a => c a.2.2), if_neg c]
    unfold ry_s1 ry_ol
    rcases hv with rfl | ⟨p, hp, rfl⟩
    · rw [if_pos rfl, if_pos rfl, if_neg (fun a => a.1 rfl), e]
      exact bd_up_f (by decide)
    · rw [if_neg (rl_nIm (by omega))]
      have hso := rl_seatOf (rl_J_t (v := 0) h) hp
      rcases hso with ⟨a1, a2, a3⟩ | ⟨b0, k0, a1, a2, a3, a4, a5, a6⟩
      · rw [a3, if_pos rfl, if_neg (fun a => rl_nIm (p := b') (by omega) ((hL.2 b' hb' k hk p hp a.2).1.symm.trans a1)), e]
        exact bd_up_f (by decide)
      · have hz0 := hz b0 a1
        rw [a6, if_neg (rl_nIm (by omega)), nI_clamp (by omega), rl_up]
        by_cases d : 8 * b' + k = 8 * b0 + k0
        · rw [if_pos ⟨rfl, rfl, d⟩, if_pos ⟨rl_nIm (by omega), by rw [d]; exact a5⟩]
        · rw [if_neg (fun a => d a.2.2), if_neg (fun a => ?_), e]
          · exact bd_up_f (by decide)
          · obtain ⟨r1, r2⟩ := hL.2 b' hb' k hk p hp a.2
            have hz' := hz b' hb'
            have s1 := (nI_eq (by omega) (by omega)).mp (r1.symm.trans a3)
            have s2 := (nI_eq (by omega) (by omega)).mp (r2.symm.trans a4)
            omega
end LN
