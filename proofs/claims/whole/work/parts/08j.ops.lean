/-! THE CALLS, one by one: class and reference answer alike and keep the invariant -/
theorem la_ok0 {l : Launch} {E : bd_E} {yL : MethodName} {cL : ByteArray} {nL : Nat} {hh : List (Nat × Nat × Nat × Nat)} {y7 : MethodName} {c7 : ByteArray} {n7 : Nat} {As : List Value} {xm ym xm' ym' : bd_M} {om : Nat → Int64} {J : bd_M → bd_M → Prop} {fr lo mc ms fr2 lo2 mc2 ms2 : Nat} {v r : Int32}
    (hC : bd_CL l yL cL nL hh fr lo mc ms E (.ref (bd_ea E 0 0 0) :: (As ++ [.ref (bd_ea E 30 0 0)])) xm ym om xm' ym (vp_updL om 0 v.toInt64) 0) (hD : bd_Ct l y7 c7 n7 (some .int) fr2 lo2 mc2 ms2 E (.ref (bd_ea E 12 0 0) :: As) xm' ym (vp_updL om 0 v.toInt64) xm' ym' (vp_updL om 0 v.toInt64) (some (.int r)))
    (hb : fr ≤ 11 ∧ lo ≤ 400 ∧ fr2 ≤ 11 ∧ lo2 ≤ 400 ∧ mc + mc2 ≤ 400 ∧ ms + ms2 ≤ 1600) (ht : ym' 0 0 0 = 0) (hv : v = r) (hJ : J xm' ym') : la_Ok l E yL cL nL hh y7 c7 n7 As xm ym om J :=
  ⟨fr, lo, mc, ms, fr2, lo2, mc2, ms2, xm', ym', _, 0, r, hb, hC, hD, ht, fun _ => by subst hv; exact pk_uLs, hJ⟩
theorem la_okx {l : Launch} {E : bd_E} {yL : MethodName} {cL : ByteArray} {nL : Nat} {hh : List (Nat × Nat × Nat × Nat)} {y7 : MethodName} {c7 : ByteArray} {n7 : Nat} {As : List Value} {xm ym ym' : bd_M} {om : Nat → Int64} {J : bd_M → bd_M → Prop} {fr lo mc ms fr2 lo2 mc2 ms2 : Nat} {k r : Int32}
    (hC : bd_CL l yL cL nL hh fr lo mc ms E (.ref (bd_ea E 0 0 0) :: (As ++ [.ref (bd_ea E 30 0 0)])) xm ym om xm ym om k) (hD : bd_Ct l y7 c7 n7 (some .int) fr2 lo2 mc2 ms2 E (.ref (bd_ea E 12 0 0) :: As) xm ym om xm ym' om (some (.int r)))
    (hb : fr ≤ 11 ∧ lo ≤ 400 ∧ fr2 ≤ 11 ∧ lo2 ≤ 400 ∧ mc + mc2 ≤ 400 ∧ ms + ms2 ≤ 1600) (ht : ym' 0 0 0 = k) (hk : ¬ k = 0) (hJ : J xm ym') : la_Ok l E yL cL nL hh y7 c7 n7 As xm ym om J :=
  ⟨fr, lo, mc, ms, fr2, lo2, mc2, ms2, xm, ym', _, k, r, hb, hC, hD, ht, fun q => absurd q hk, hJ⟩
theorem la_ix {a : Int32} {n : Nat} (hn : n < 2 ^ 31) (h : ¬ a < 0 ∧ a < nI n) : ∃ k, k < n ∧ a = nI k := ⟨_, bd_tnl h.1 h.2 hn, bd_tn h.1⟩
theorem la_ix3 {a : Int32} {m : Nat} {M : Int32} (hM : M = nI m) (hm : m < 2 ^ 30) (h : ¬ a < 0 ∧ ¬ M < a) : ∃ k, k < m + 1 ∧ a = nI k := by
  refine ⟨a.toNatClampNeg, ?_, bd_tn h.1⟩
  have h2 := h.2
  obtain ⟨j, hj, rfl⟩ := nI_of h.1
  rw [hM, nI_ltI (by omega) hj] at h2
  rw [nI_clamp hj]
  omega
theorem la_ltI {a : Int32} {m : Nat} (hm : m < 2 ^ 30) (ha : ¬ a < 0) : a < nI (m + 1) ↔ ¬ nI m < a := by
  obtain ⟨j, hj, rfl⟩ := nI_of ha
  rw [nI_ltI hj (by omega), nI_ltI (by omega) hj]
  omega
section LJ
variable {l : Launch} {E : bd_E} {x y : bd_M} {n nb t i : Nat} {z : Nat → Nat}
theorem la_up {t' : Nat} (h : rl_J x y n nb z t') (ht : t' ≤ i) : rl_Jn i x y := ⟨n, nb, z, t', h, ht⟩
theorem la_J_absent (hlf : l.stackTraces = false) (h : rl_J x y n nb z t) (hi : t ≤ i) : la_O_absent l E x y (rl_Jn (i + 1)) := by
  intro a b om
  have hs := h.1
  have hy := h.2.1
  have hn : n ≤ 24 := hs.2.1
  by_cases hp : ¬ a < 0 ∧ a < nI n
  · obtain ⟨k, hk, rfl⟩ := la_ix (by omega) hp
    by_cases h2 : ¬ b < 0 ∧ ¬ 20 < b
    · refine la_ok0 (k_L_absent_ok l E x y _ om (nI k) b (k_X5_absent l E x y om n nb z k b hs hk h2)) (k_X7_absent_ok l E _ y _ n nb z k b hy hk h2) (by decide) rfl (h.2.2.1.2.2.1 k (by omega)).2.1 (la_up (n := n) (nb := nb) (z := z) (t' := t) ?_ (by omega))
      obtain ⟨j1, j2, ⟨m1, m2, m3, m4, m5, m6, m7, m8, m9⟩, j4, j5, j6, j7, j8⟩ := h
      refine ⟨j1, j2, ⟨m1, m2, fun p hp => ?_, m4, m5, m6, m7, m8, m9⟩, j4, j5, j6, j7, j8⟩
      obtain ⟨a1, a2, a3, a4, a5⟩ := m3 p hp
      refine ⟨a1, ?_, ?_, a4, a5⟩
      · rw [rl_up, rl_up]
        by_cases c : p = k
        · subst c; rw [if_pos ⟨rfl, rfl, rfl⟩, if_pos ⟨rfl, rfl, rfl⟩]
        · rw [if_neg (fun q => c q.2.2), if_neg (fun q => c q.2.2)]; exact a2
      · rw [rl_up]
        split
        · exact h2.1
        · exact a3
    · exact la_okx (k_L_absent_x2 l E x y om (nI k) b (k_X5_absent_x2 l hlf E x y om n nb z k b hs hk h2)) (k_X7_absent_2 l E x y om n nb z (nI k) b hy hp h2) (by decide) rfl (by decide) (la_up (rl_J_t (rl_J_t h)) (by omega))
  · exact la_okx (k_L_absent_x1 l E x y om a b (k_X5_absent_x1 l hlf E x y om n nb z a b hs hp)) (k_X7_absent_1 l E x y om n nb z a b hy hp) (by decide) rfl (by decide) (la_up (rl_J_t (rl_J_t h)) (by omega))
theorem la_J_setPiece (hlf : l.stackTraces = false) (h : rl_J x y n nb z t) (hi : t ≤ i) : la_O_setPiece l E x y (rl_Jn (i + 1)) := by
  intro a b om
  have hs := h.1
  have hy := h.2.1
  have e4 : ∀ a : Int32, (¬ a < 0 ∧ a < 4) ↔ (¬ a < 0 ∧ ¬ 3 < a) := fun a => and_congr_right (fun q => la_ltI (m := 3) (by decide) q)
  by_cases hp : ¬ a < 0 ∧ a < 4
  · obtain ⟨k, hk, rfl⟩ := la_ix (n := 4) (by decide) hp
    by_cases h2 : ¬ b < 0 ∧ ¬ 9 < b
    · refine la_ok0 (k_L_setPiece_ok l E x y _ om (nI k) b (k_X5_setPiece l E x y om n nb z k b hs hk h2)) (k_X7_setPiece_ok l E _ y _ n nb z k b hy hk h2) (by decide) rfl (h.2.2.1.1.2.2 k hk).1 (la_up (n := n) (nb := nb) (z := z) (t' := t) ?_ (by omega))
      obtain ⟨j1, j2, ⟨⟨m1, m1b, m1c⟩, m2, m3, m4, m5, m6, m7, m8, m9⟩, j4, j5, j6, j7, j8⟩ := h
      refine ⟨j1, j2, ⟨⟨fun p hp j hj => ?_, m1b, fun p hp => ?_⟩, m2, m3, m4, m5, m6, m7, m8, m9⟩, j4, j5, j6, j7, j8⟩
      · rw [bd_up_f (by omega)]; exact m1 p hp j hj
      · rw [rl_up, rl_up]
        refine ⟨?_, ?_⟩
        · by_cases c : p = k
          · subst c; rw [if_pos ⟨rfl, rfl, rfl⟩, if_pos ⟨rfl, rfl, rfl⟩]
          · rw [if_neg (fun q => c q.2.2), if_neg (fun q => c q.2.2)]; exact (m1c p hp).1
        · rw [bd_up_f (by decide), bd_up_f (by decide)]; exact (m1c p hp).2
    · exact la_okx (k_L_setPiece_x2 l E x y om (nI k) b (k_X5_setPiece_x2 l hlf E x y om n nb z k b hs hk h2)) (k_X7_setPiece_2 l E x y om n nb z (nI k) b hy ((e4 _).mp hp) h2) (by decide) rfl (by decide) (la_up (rl_J_t (rl_J_t h)) (by omega))
  · exact la_okx (k_L_setPiece_x1 l E x y om a b (k_X5_setPiece_x1 l hlf E x y om n nb z a b hs hp)) (k_X7_setPiece_1 l E x y om n nb z a b hy (fun q => hp ((e4 _).mpr q))) (by decide) rfl (by decide) (la_up (rl_J_t (rl_J_t h)) (by omega))
theorem la_J_setTaste (hlf : l.stackTraces = false) (h : rl_J x y n nb z t) (hi : t ≤ i) : la_O_setTaste l E x y (rl_Jn (i + 1)) := by
  intro a b om
  have hs := h.1
  have hy := h.2.1
  have e4 : ∀ a : Int32, (¬ a < 0 ∧ a < 4) ↔ (¬ a < 0 ∧ ¬ 3 < a) := fun a => and_congr_right (fun q => la_ltI (m := 3) (by decide) q)
  by_cases hp : ¬ a < 0 ∧ a < 4
  · obtain ⟨k, hk, rfl⟩ := la_ix (n := 4) (by decide) hp
    by_cases h2 : ¬ b < 1 ∧ ¬ 5 < b
    · refine la_ok0 (k_L_setTaste_ok l E x y _ om (nI k) b (k_X5_setTaste l E x y om n nb z k b hs hk h2)) (k_X7_setTaste_ok l E _ y _ n nb z k b hy hk h2) (by decide) rfl (h.2.2.1.1.2.2 k hk).2 (la_up (n := n) (nb := nb) (z := z) (t' := t) ?_ (by omega))
      obtain ⟨j1, j2, ⟨⟨m1, m1b, m1c⟩, m2, m3, m4, m5, m6, m7, m8, m9⟩, j4, j5, j6, j7, j8⟩ := h
      refine ⟨j1, j2, ⟨⟨fun p hp j hj => ?_, m1b, fun p hp => ?_⟩, m2, m3, m4, m5, m6, m7, m8, m9⟩, j4, j5, j6, j7, j8⟩
      · rw [bd_up_f (by omega)]; exact m1 p hp j hj
      · refine ⟨?_, ?_⟩
        · rw [bd_up_f (by decide), bd_up_f (by decide)]; exact (m1c p hp).1
        · rw [rl_up, rl_up]
          by_cases c : p = k
          · subst c; rw [if_pos ⟨rfl, rfl, rfl⟩, if_pos ⟨rfl, rfl, rfl⟩]
          · rw [if_neg (fun q => c q.2.2), if_neg (fun q => c q.2.2)]; exact (m1c p hp).2
    · exact la_okx (k_L_setTaste_x2 l E x y om (nI k) b (k_X5_setTaste_x2 l hlf E x y om n nb z k b hs hk h2)) (k_X7_setTaste_2 l E x y om n nb z (nI k) b hy ((e4 _).mp hp) h2) (by decide) rfl (by decide) (la_up (rl_J_t (rl_J_t h)) (by omega))
  · exact la_okx (k_L_setTaste_x1 l E x y om a b (k_X5_setTaste_x1 l hlf E x y om n nb z a b hs hp)) (k_X7_setTaste_1 l E x y om n nb z a b hy (fun q => hp ((e4 _).mpr q))) (by decide) rfl (by decide) (la_up (rl_J_t (rl_J_t h)) (by omega))
theorem la_J_contest (hlf : l.stackTraces = false) (h : rl_J x y n nb z t) (hi : t ≤ i) (hi2 : i < 1000) : la_O_contest l E x y (rl_Jn (i + 1)) := by
  intro om
  have hs := h.1
  have hy := h.2.1
  by_cases hnb : nb = 0
  · exact la_okx (k_L_contest_x1 l E x y om (k_X5_contest_x l hlf E x y om n nb z hs hnb)) (k_X7_contest_1 l E x y om n nb z hy hnb) (by decide) rfl (by decide) (la_up (rl_J_t (rl_J_t h)) (by omega))
  · have h10 : y 10 0 0 = nI t := h.2.2.1.2.2.2.2.2.2.2.2.symm.trans h.2.2.2.2.1
    have hMb : ry_Mb y 0 n nb z := fun b hb k hk => by
      have := (h.2.2.1.2.1 b hb (by omega)).1 k hk
      rw [← this.1]; exact this.2
    obtain ⟨k1, k2⟩ := rl_hold_J (rl_J_t (v := 0) h) (by omega : 0 < nb)
    refine la_ok0 (k_L_contest_ok l E x y _ om (k_X5_contest l E x y om n nb z t hs h.2.2.2.2.1 (by omega) (by omega))) (k_X7_contest_ok l E _ y _ n nb z t hy hMb h10 (by omega) (by omega)) (by decide) ?_ k2 (la_up k1 (by omega))
    rw [rl_con_f (by decide), ry_k2e, ry_k2_f (by decide), ry_k1_f (by decide)]
    exact bd_up_s
end LJ
