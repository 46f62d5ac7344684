/-! THE CLASS: the second season -/
theorem kx_Sh_scopy {x : bd_M} {n nb : Nat} {z : Nat → Nat} (h : kx_Sh x 0 n nb z) : kx_Sh (kx_scopy x 1 0 n nb z) 0 n nb z :=
  kx_c1_sh (kx_c1_sh (kx_c1_sh (kx_Sh_ro (kx_Sh_ro (kx_scB_sh (kx_Sh_w (kx_scP_sh (kx_Sh_w h (by decide)) n) (by decide)) (by decide) nb) (by decide)) (by decide)) (by decide)) (by decide)) (by decide)
theorem kx_bcopy_20 {x : bd_M} {w b w2 b2 zb w' k' : Nat} : kx_bcopy x w b w2 b2 zb 20 w' k' = if w' = w ∧ k' = b then nI zb else x 20 w' k' := by
  simp only [kx_bcopy, kx_c1]
  repeat rw [bd_up_f (by decide)]
  rw [kx_bcL_f (by decide) (by decide) (by decide)]
  unfold bd_up
  simp
theorem kx_scB_20 {x : bd_M} {w w2 b : Nat} {z : Nat → Nat} : ∀ i, kx_scB x w w2 z i 20 w b = if b < i then nI (z b) else x 20 w b
  | 0 => by rw [if_neg (by omega)]; rfl
  | i + 1 => by
    rw [kx_scB, kx_bcopy_20, kx_scB_20 i]
    by_cases h : b = i
    · subst h; rw [if_pos ⟨rfl, rfl⟩, if_pos (by omega)]
    · rw [if_neg (fun q => h q.2)]
      by_cases h2 : b < i
      · rw [if_pos h2, if_pos (by omega)]
      · rw [if_neg h2, if_neg (by omega)]
theorem kx_Sh_scopy1 {x : bd_M} {n nb : Nat} {z : Nat → Nat} (h : kx_Sh x 0 n nb z) (hz : ∀ b, nb ≤ b → b < 6 → x 20 1 b = nI (z b)) : kx_Sh (kx_scopy x 1 0 n nb z) 1 n nb z := by
  have hY : kx_Sh (kx_scB (bd_up (kx_scP (bd_up x 30 1 0 (nI n)) 1 0 n) 31 1 0 (nI nb)) 1 0 z nb) 1 n nb z := by
    refine ⟨?_, h.2.1, ?_, h.2.2.2.1, fun b hb => ⟨?_, (h.2.2.2.2 b hb).2⟩⟩
    · rw [kx_scB_f (by decide), bd_up_f (by decide), kx_scP_f (by decide) (by decide), bd_up_s]
    · rw [kx_scB_f (by decide), bd_up_s]
    · rw [kx_scB_20]
      by_cases h2 : b < nb
      · rw [if_pos h2]
      · rw [if_neg h2, bd_up_f (by decide), kx_scP_f (by decide) (by decide), bd_up_f (by decide)]
        exact hz b (by omega) hb
  exact kx_c1_sh (kx_c1_sh (kx_c1_sh (kx_Sh_ro (kx_Sh_ro hY (by decide)) (by decide)) (by decide)) (by decide)) (by decide)
theorem kx_scopy_32 {x : bd_M} {n nb : Nat} {z : Nat → Nat} : kx_scopy x 1 0 n nb z 32 1 0 = x 32 0 0 := by
  rw [kx_scopy, kx_c1, bd_up_f (by decide), kx_c1, bd_up_f (by decide), kx_c1, bd_up_s]
  have h1 : ∀ (y : bd_M) (f : Nat), f ≠ 32 → kx_rc y f 1 0 32 0 0 = y 32 0 0 := fun y f hf => if_neg (fun q => hf q.1.symm)
  rw [h1 _ _ (by decide), h1 _ _ (by decide), kx_scB_f (by decide), bd_up_f (by decide), kx_scP_f (by decide) (by decide), bd_up_f (by decide)]
theorem kx_fd_32 {x : bd_M} {w w' k' : Nat} : ∀ i, kx_fd x w i 32 w' k' = x 32 w' k' := fun i => kx_fd_f (by decide) i
theorem kx_gp_32 {x : bd_M} {w nb w' k' : Nat} : ∀ i, kx_gp x w nb i 32 w' k' = x 32 w' k'
  | 0 => rfl
  | i + 1 => by
    rw [kx_gp, kx_gp2]
    split
    · rw [bd_up_f (by decide)]; exact kx_gp_32 i
    · rw [bd_up_f (by decide), bd_up_f (by decide)]; exact kx_gp_32 i
theorem kx_rl_32 {x : bd_M} {w w' k' : Nat} {z : Nat → Nat} : ∀ i, kx_rl x w z i 32 w' k' = x 32 w' k'
  | 0 => rfl
  | i + 1 => by rw [kx_rl, kx_raise, bd_up_f (by decide)]; exact kx_rl_32 i
theorem kx_ab_32 {x : bd_M} {w w' k' : Nat} : ∀ i, kx_ab x w i 32 w' k' = x 32 w' k'
  | 0 => rfl
  | i + 1 => by rw [kx_ab, bd_up_f (by decide)]; exact kx_ab_32 i
theorem kx_hold_32 {x : bd_M} {w n nb t : Nat} {z : Nat → Nat} : kx_hold x w n nb z t 32 w 0 = x 32 w 0 + 1 := by
  rw [kx_hold, bd_up_s, kx_h4, kx_ab_32, kx_rl_32, kx_gp_32, kx_h1, kx_pl_f, kx_fd_32]
/-- the contests that are held in the second season -/
def kx_fo (x : bd_M) (n nb : Nat) (z : Nat → Nat) (t : Nat) : Nat → bd_M
  | 0 => x
  | j + 1 => kx_hold (kx_fo x n nb z t j) 1 n nb z (t + j)
theorem kx_fo_sh {x : bd_M} {w n nb : Nat} {z : Nat → Nat} (h : kx_Sh x w n nb z) {t : Nat} : ∀ j, kx_Sh (kx_fo x n nb z t j) w n nb z
  | 0 => h
  | j + 1 => kx_hold_sh (kx_fo_sh h j)
theorem kx_fo_32 {x : bd_M} {n nb t : Nat} {z : Nat → Nat} (h : x 32 1 0 = nI t) : ∀ j, kx_fo x n nb z t j 32 1 0 = nI (t + j)
  | 0 => h
  | j + 1 => by rw [kx_fo, kx_hold_32, kx_fo_32 h j, nI_1, Nat.add_assoc]
