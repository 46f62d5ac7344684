/-! THE CALL advise -/
section LS
variable {l : Launch} {E : bd_E} {x y x' y' X1 : bd_M} {n nb t i b : Nat} {z : Nat → Nat}
theorem rl_sm_o {X : bd_M} (h : rl_sm X X1) (hx : ∀ f k, X1 f 0 k = x f 0 k) : ∀ f k, X f 0 k = x f 0 k := fun f k => (h.2.2 f k).trans (hx f k)
theorem la_J_advise (hlf : l.stackTraces = false) (h : rl_J x y n nb z t) (hi : t ≤ i) (hi2 : i < 1000) : la_O_advise l E x y (rl_Jn (i + 1)) := by
  intro a om
  have hs := h.1
  have hy := h.2.1
  have hn : n ≤ 24 := hs.2.1
  have hnb : nb ≤ 6 := hs.2.2.2.1
  have hz := rl_z8 hs
  by_cases hp : ¬ a < 0 ∧ a < nI nb
  · obtain ⟨b, hb, rfl⟩ := la_ix (by omega) hp
    have ht : x 32 0 0 = nI t := h.2.2.2.2.1
    have h10 : y 10 0 0 = nI t := h.2.2.1.2.2.2.2.2.2.2.2.symm.trans ht
    have hJ := rl_J_t (v := 0) h
    obtain ⟨j, hj, hjb⟩ := rl_cov (t := t) hb
    obtain ⟨t1, t2, t3⟩ := rl_ti (t := t) (b := b) nb 0 (by omega) ⟨j, by omega, hj, hjb⟩ (fun j q => absurd q (Nat.not_lt_zero j))
    have hat := rl_at_of hJ hb t3
    have e11 : ∀ k, k < z b → kx_pl (kx_fd (kx_scopy x 1 0 n nb z) 1 n) 1 n nb z t (kx_ti t nb b nb 0) 11 1 (8 * b + k) = x 11 0 (8 * b + k) := fun k hk => by
      rw [rl_pl_k (by decide), kx_fd_f (by decide)]; exact (rl_sc_b hz hb).2 11 (by decide) k hk
    obtain ⟨r1, r2⟩ := rl_bo hJ hb t1 t2 hat e11 (z b) (Nat.le_refl _)
    refine la_ok0 (k_L_advise_ok l E x y _ om (nI b) (k_X5_advise l E x y om n nb z t b hs ht (by omega) (rl_hz h) hb)) (k_X7_advise_ok l E _ y _ n nb z t b hy (rl_MbJ h) h10 (by omega) hb) (by decide) ?_ (congrArg Prod.snd r2) (la_up (n := n) (nb := nb) (z := z) (t' := t) (rl_J_o (rl_J_t (v := 0) h) (rl_sm_o r1 (fun f k => by rw [rl_plh_o (by decide), rl_sc_o])) (fun f k => by rw [ry_ao_o]) (fun b' hb' => ?_)) (by omega))
    · rw [ry_ao_o]
      exact bd_up_s
    · rw [r1.1 20 1 b' (by decide) (by decide) (by decide) (by decide) (by decide), rl_pl_k (by decide), kx_fd_f (by decide), rl_sc_20 hb']
  · exact la_okx (k_L_advise_x1 l E x y om a (k_X5_advise_x l hlf E x y om n nb z a hs hp)) (k_X7_advise_1 l E x y om n nb z a hy hp) (by decide) rfl (by decide) (la_up (rl_J_t (rl_J_t h)) (by omega))
end LS
