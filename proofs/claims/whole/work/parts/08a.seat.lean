/-! CLASS AND REFERENCE SEAT A BAND ALIKE -/
theorem rl_up {x : bd_M} {f w k f' w' k' : Nat} {v : Int32} : bd_up x f w k v f' w' k' = if f' = f ∧ w' = w ∧ k' = k then v else x f' w' k' := rfl
theorem rl_mvn {n : Nat} {m : Int32} (h : ry_mv n m) (hn : n ≤ 24) : (¬ m < 0 ∧ m < nI n) ↔ ¬ m = (-1) := by
  rcases h with rfl | ⟨h1, h2⟩
  · exact ⟨fun q => absurd (by decide) q.1, fun q => absurd rfl q⟩
  · refine ⟨fun _ q => h1 (by rw [q]; decide), fun _ => ⟨h1, ?_⟩⟩
    rw [bd_tn h1]
    exact nI_lt h2 (by omega)
theorem rl_mvI {n : Nat} {m : Int32} (h : ry_mv n m) (h1 : ¬ m = (-1)) : m = nI m.toNatClampNeg ∧ m.toNatClampNeg < n := by
  rcases h with h | ⟨h2, h3⟩
  · exact absurd h h1
  · exact ⟨bd_tn h2, h3⟩
theorem rl_nIm {p : Nat} (h : p < 2 ^ 31) : ¬ nI p = (-1) := fun q => nI_pos h (by rw [q]; decide)
/-- who sits on a seat as its member -/
def rl_own (x : bd_M) (w k : Nat) : Int32 := if x 11 w k = (-1) then (-1) else if x 1 w (x 11 w k).toNatClampNeg = 0 then x 11 w k else (-1)
theorem rl_own_mv {x : bd_M} {w k n : Nat} (h : ry_mv n (x 11 w k)) : ry_mv n (rl_own x w k) := by
  unfold rl_own
  repeat' split
  all_goals first | exact Or.inl rfl | exact h
theorem rl_own_eq {x : bd_M} {w k : Nat} (h : ¬ rl_own x w k = (-1)) : rl_own x w k = x 11 w k ∧ x 1 w (x 11 w k).toNatClampNeg = 0 := by
  unfold rl_own at h ⊢
  split at h
  · exact absurd rfl h
  · split at h
    · rename_i h1 h2
      rw [if_neg h1, if_pos h2]
      exact ⟨rfl, h2⟩
    · exact absurd rfl h
theorem rl_ns7 {x : bd_M} {w p : Nat} : ∀ i, kx_ns x w i 7 w p = if p < i then 0 else x 7 w p
  | 0 => rfl
  | i + 1 => by
    rw [kx_ns, rl_up, rl_ns7 i]
    by_cases h : p = i
    · subst h; rw [if_pos ⟨rfl, rfl, rfl⟩, if_pos (by omega)]
    · rw [if_neg (fun q => h q.2.2)]
      by_cases h2 : p < i
      · rw [if_pos h2, if_pos (by omega)]
      · rw [if_neg h2, if_neg (by omega)]
theorem rl_sm1_12 {y : bd_M} {w n k k' : Nat} (hm : ry_mv n (y 11 w k)) (hn : n ≤ 24) : kx_sm1 y w n k 12 w k' = if k' = k then rl_own y w k else y 12 w k' := by
  unfold kx_sm1 rl_own
  by_cases h1 : y 11 w k = (-1)
  · rw [if_neg (fun q => (rl_mvn hm hn).mp q h1), if_pos h1]
    simp [bd_up]
  · rw [if_pos ((rl_mvn hm hn).mpr h1), if_neg h1]
    by_cases h2 : y 1 w (y 11 w k).toNatClampNeg = 0
    · by_cases hk : k' = k <;> simp [bd_up, h2, hk]
    · by_cases hk : k' = k <;> simp [bd_up, h2, hk]
theorem rl_sm1_7 {y : bd_M} {w n k p : Nat} (hm : ry_mv n (y 11 w k)) (hn : n ≤ 24) (hp : p < n) : kx_sm1 y w n k 7 w p = 0 ↔ y 7 w p = 0 ∧ ¬ rl_own y w k = nI p := by
  have hpm := rl_nIm (p := p) (by omega)
  unfold kx_sm1 rl_own
  by_cases h1 : y 11 w k = (-1)
  · rw [if_neg (fun q => (rl_mvn hm hn).mp q h1), if_pos h1]
    rw [bd_up_f (by decide)]
    exact ⟨fun q => ⟨q, fun q2 => hpm q2.symm⟩, fun q => q.1⟩
  · rw [if_pos ((rl_mvn hm hn).mpr h1), if_neg h1]
    obtain ⟨e1, e2⟩ := rl_mvI hm h1
    by_cases h2 : y 1 w (y 11 w k).toNatClampNeg = 0
    · rw [if_pos (show bd_up y 12 w k (-1) 1 w (y 11 w k).toNatClampNeg = 0 by rw [rl_up, if_neg (fun q => absurd q.1 (by decide))]; exact h2), if_pos h2]
      rw [rl_up]
      by_cases h3 : p = (y 11 w k).toNatClampNeg
      · rw [if_pos ⟨rfl, rfl, h3⟩]
        refine ⟨fun q => absurd q (by decide), fun q => absurd ?_ q.2⟩
        rw [h3]
        exact e1
      · rw [if_neg (fun q => h3 q.2.2), bd_up_f (by decide), bd_up_f (by decide)]
        refine ⟨fun q => ⟨q, fun q2 => h3 ?_⟩, fun q => q.1⟩
        rw [q2, nI_clamp (by omega)]
    · rw [if_neg (show ¬ bd_up y 12 w k (-1) 1 w (y 11 w k).toNatClampNeg = 0 by rw [rl_up, if_neg (fun q => absurd q.1 (by decide))]; exact h2), if_neg h2]
      rw [rl_up, if_neg (fun q => absurd q.1 (by decide))]
      exact ⟨fun q => ⟨q, fun q2 => hpm q2.symm⟩, fun q => q.1⟩
theorem rl_own_sm {x : bd_M} {w n b k : Nat} (i : Nat) : rl_own (kx_sm x w n b i) w k = rl_own x w k := by
  unfold rl_own
  rw [kx_sm_f (by decide) (by decide), kx_sm_f (by decide) (by decide)]
theorem rl_sm_12 {x : bd_M} {w n b zb k' : Nat} (hm : ∀ k, k < zb → ry_mv n (x 11 w (8 * b + k))) (hn : n ≤ 24) : ∀ i, i ≤ zb → kx_sm x w n b i 12 w k' = if 8 * b ≤ k' ∧ k' < 8 * b + i then rl_own x w k' else x 12 w k'
  | 0, _ => by rw [if_neg (by omega)]; rfl
  | i + 1, h => by
    rw [kx_sm, rl_sm1_12 (n := n) (by rw [kx_sm_f (by decide) (by decide)]; exact hm i (by omega)) hn, rl_own_sm, rl_sm_12 hm hn i (by omega)]
    by_cases h1 : k' = 8 * b + i
    · subst h1; rw [if_pos rfl, if_pos (by omega)]
    · rw [if_neg h1]
      by_cases h2 : 8 * b ≤ k' ∧ k' < 8 * b + i
      · rw [if_pos h2, if_pos (by omega)]
      · rw [if_neg h2, if_neg (by omega)]
theorem rl_sm_7 {x : bd_M} {w n b zb p : Nat} (hm : ∀ k, k < zb → ry_mv n (x 11 w (8 * b + k))) (hn : n ≤ 24) (hp : p < n) : ∀ i, i ≤ zb → (kx_sm x w n b i 7 w p = 0 ↔ x 7 w p = 0 ∧ ∀ k, k < i → ¬ rl_own x w (8 * b + k) = nI p)
  | 0, _ => ⟨fun q => ⟨q, fun k hk => absurd hk (Nat.not_lt_zero k)⟩, fun q => q.1⟩
  | i + 1, h => by
    rw [kx_sm, rl_sm1_7 (n := n) (by rw [kx_sm_f (by decide) (by decide)]; exact hm i (by omega)) hn hp, rl_own_sm, rl_sm_7 hm hn hp i (by omega)]
    refine ⟨fun q => ⟨q.1.1, fun k hk => ?_⟩, fun q => ⟨⟨q.1, fun k hk => q.2 k (by omega)⟩, q.2 i (by omega)⟩⟩
    by_cases hki : k = i
    · subst hki; exact q.2
    · exact q.1.2 k (by omega)
/-- the state when the members have sat down -/
def rl_A (x : bd_M) (w n b zb : Nat) : bd_M := kx_sm (kx_ns x w n) w n b zb
theorem rl_A_f {x : bd_M} {w n b zb f w' k' : Nat} (h : f ≠ 7) (h2 : f ≠ 12) : rl_A x w n b zb f w' k' = x f w' k' := by rw [rl_A, kx_sm_f h h2, kx_ns_f h]
theorem rl_own_ns {x : bd_M} {w k : Nat} (i : Nat) : rl_own (kx_ns x w i) w k = rl_own x w k := by
  unfold rl_own
  rw [kx_ns_f (by decide), kx_ns_f (by decide)]
theorem rl_A_12 {x : bd_M} {w n b zb k' : Nat} (hm : ∀ k, k < zb → ry_mv n (x 11 w (8 * b + k))) (hn : n ≤ 24) : rl_A x w n b zb 12 w k' = if 8 * b ≤ k' ∧ k' < 8 * b + zb then rl_own x w k' else x 12 w k' := by
  rw [rl_A, rl_sm_12 (zb := zb) (fun k hk => by rw [kx_ns_f (by decide)]; exact hm k hk) hn zb (Nat.le_refl _), rl_own_ns, kx_ns_f (by decide)]
theorem rl_A_7 {x : bd_M} {w n b zb p : Nat} (hm : ∀ k, k < zb → ry_mv n (x 11 w (8 * b + k))) (hn : n ≤ 24) (hp : p < n) : rl_A x w n b zb 7 w p = 0 ↔ ∀ k, k < zb → ¬ rl_own x w (8 * b + k) = nI p := by
  rw [rl_A, rl_sm_7 (zb := zb) (fun k hk => by rw [kx_ns_f (by decide)]; exact hm k hk) hn hp zb (Nat.le_refl _), rl_ns7, if_pos hp]
  refine ⟨fun q k hk => ?_, fun q => ⟨rfl, fun k hk => ?_⟩⟩
  · have := q.2 k hk; rw [rl_own_ns] at this; exact this
  · rw [rl_own_ns]; exact q k hk
-- the reference
theorem rl_pA_24 {y : bd_M} {s b k' : Nat} : ∀ i, ry_pA y s b i 24 s k' = if 8 * b ≤ k' ∧ k' < 8 * b + i then ry_pA1 y s k' else y 24 s k'
  | 0 => by rw [if_neg (by omega)]; rfl
  | i + 1 => by
    rw [ry_pA, rl_up, rl_pA_24 i]
    have e : ry_pA1 (ry_pA y s b i) s (8 * b + i) = ry_pA1 y s (8 * b + i) := by
      unfold ry_pA1
      rw [ry_pA_f (by decide), ry_pA_f (by decide)]
    rw [e]
    by_cases h1 : k' = 8 * b + i
    · subst h1; rw [if_pos ⟨rfl, rfl, rfl⟩, if_pos (by omega)]
    · rw [if_neg (fun q => h1 q.2.2)]
      by_cases h2 : 8 * b ≤ k' ∧ k' < 8 * b + i
      · rw [if_pos h2, if_pos (by omega)]
      · rw [if_neg h2, if_neg (by omega)]
theorem rl_in {y : bd_M} {s b : Nat} {v : Int32} : ∀ i, ry_in y s b v i = false ↔ ∀ k, k < i → ¬ y 24 s (8 * b + k) = v
  | 0 => ⟨fun _ k hk => absurd hk (Nat.not_lt_zero k), fun _ => rfl⟩
  | i + 1 => by
    rw [ry_in, Bool.or_eq_false_iff, rl_in i, decide_eq_false_iff_not]
    refine ⟨fun q k hk => ?_, fun q => ⟨fun k hk => q k (by omega), q i (by omega)⟩⟩
    by_cases h : k = i
    · subst h; exact q.2
    · exact q.1 k (by omega)
theorem rl_in2 {y : bd_M} {s b : Nat} {v : Int32} (i : Nat) : ry_in y s b v i = true ↔ ∃ k, k < i ∧ y 24 s (8 * b + k) = v := by
  by_cases h : ry_in y s b v i = true
  · refine ⟨fun _ => ?_, fun _ => h⟩
    refine Classical.byContradiction (fun q => ?_)
    have := (rl_in (y := y) (s := s) (b := b) (v := v) i).mpr (fun k hk e => q ⟨k, hk, e⟩)
    rw [this] at h
    exact absurd h (by decide)
  · refine ⟨fun q => absurd q h, fun q => ?_⟩
    obtain ⟨k, hk, e⟩ := q
    exact absurd e ((rl_in i).mp (Bool.eq_false_iff.mpr h) k hk)
/-- the search for a deputy, in both -/
theorem rl_df {X Y : bd_M} {w s n b zb k W : Nat} {lim : Int32} (hn : n ≤ 24) (sk : ∀ p, p < n → kx_skill X w p (X 10 w k) = Y 13 0 (4 * p + W)) (sk0 : ∀ p, p < n → ¬ Y 13 0 (4 * p + W) < 0) (ab : ∀ p, p < n → X 1 w p = Y 20 s p ∧ ¬ X 1 w p < 0) (ti : ∀ p, p < n → X 0 w p = Y 19 s p)
    (si : ∀ p, p < n → (X 7 w p = 0 ↔ ry_in Y s b (nI p) zb = false)) (tm : ∀ p, p < n → X 7 w p = 0 → X 6 w p = Y 29 s p) :
    ∀ p, p ≤ n → (kx_df X w k lim p).1 = ry_fi Y s b zb W lim p ∧ (kx_df X w k lim p).2.1 = ry_th Y W (ry_fi Y s b zb W lim p) ∧ (¬ ry_fi Y s b zb W lim p = (-1) → (kx_df X w k lim p).2.2 = Y 19 s (ry_fi Y s b zb W lim p).toNatClampNeg) ∧ (ry_fi Y s b zb W lim p = (-1) ∨ ∃ q, q < n ∧ ry_fi Y s b zb W lim p = nI q ∧ kx_may X w q) := by
  intro p
  induction p with
  | zero => intro _; exact ⟨rfl, rfl, fun q => absurd rfl q, Or.inl rfl⟩
  | succ p ih =>
    intro hp
    have ih := ih (by omega)
    have hpn : p < n := by omega
    obtain ⟨i1, i2, i3, i4⟩ := ih
    have e1 := sk p hpn
    have e2 := ab p hpn
    have e3 := ti p hpn
    have e4 := si p hpn
    have hnew : (nI p = nI p ∧ Y 13 0 (4 * p + W) = ry_th Y W (nI p) ∧ (¬ nI p = (-1) → X 0 w p = Y 19 s (nI p).toNatClampNeg)) := by
      refine ⟨rfl, ?_, fun _ => ?_⟩
      · unfold ry_th
        rw [if_neg (rl_nIm (by omega)), nI_clamp (by omega)]
      · rw [nI_clamp (by omega)]; exact e3
    by_cases hm : kx_may X w p
    · have g1 : ¬ 0 < Y 20 s p := by rw [← e2.1, hm.1]; decide
      have g2 : ¬ 1 < Y 29 s p := by rw [← tm p hpn hm.2.1]; exact hm.2.2
      have g3 : ¬ ry_in Y s b (nI p) zb = true := by rw [e4.mp hm.2.1]; decide
      have hX : kx_df X w k lim (p + 1) = (if lim < Y 13 0 (4 * p + W) then kx_df X w k lim p else (if ry_th Y W (ry_fi Y s b zb W lim p) < Y 13 0 (4 * p + W) then (nI p, Y 13 0 (4 * p + W), X 0 w p) else if Y 13 0 (4 * p + W) = ry_th Y W (ry_fi Y s b zb W lim p) then (if (kx_df X w k lim p).2.2 ≤ X 0 w p then kx_df X w k lim p else (nI p, Y 13 0 (4 * p + W), X 0 w p)) else kx_df X w k lim p)) := by
        rw [kx_df, if_pos hm, e1, i2]
      have hY : ry_fi Y s b zb W lim (p + 1) = (if lim < Y 13 0 (4 * p + W) then ry_fi Y s b zb W lim p else if ry_th Y W (ry_fi Y s b zb W lim p) < Y 13 0 (4 * p + W) then nI p else if Y 13 0 (4 * p + W) = ry_th Y W (ry_fi Y s b zb W lim p) then (if Y 19 s (ry_fi Y s b zb W lim p).toNatClampNeg ≤ Y 19 s p then ry_fi Y s b zb W lim p else nI p) else ry_fi Y s b zb W lim p) := by
        rw [ry_fi, if_neg g1, if_neg g2, if_neg g3]
      have keep : (kx_df X w k lim p).1 = ry_fi Y s b zb W lim p ∧ (kx_df X w k lim p).2.1 = ry_th Y W (ry_fi Y s b zb W lim p) ∧ (¬ ry_fi Y s b zb W lim p = (-1) → (kx_df X w k lim p).2.2 = Y 19 s (ry_fi Y s b zb W lim p).toNatClampNeg) ∧ (ry_fi Y s b zb W lim p = (-1) ∨ ∃ q, q < n ∧ ry_fi Y s b zb W lim p = nI q ∧ kx_may X w q) := ⟨i1, i2, i3, i4⟩
      have newp : (nI p, Y 13 0 (4 * p + W), X 0 w p).1 = nI p ∧ (nI p, Y 13 0 (4 * p + W), X 0 w p).2.1 = ry_th Y W (nI p) ∧ (¬ nI p = (-1) → (nI p, Y 13 0 (4 * p + W), X 0 w p).2.2 = Y 19 s (nI p).toNatClampNeg) ∧ (nI p = (-1) ∨ ∃ q, q < n ∧ nI p = nI q ∧ kx_may X w q) := ⟨rfl, hnew.2.1, hnew.2.2, Or.inr ⟨p, hpn, rfl, hm⟩⟩
      rw [hX, hY]
      by_cases c1 : lim < Y 13 0 (4 * p + W)
      · rw [if_pos c1, if_pos c1]; exact keep
      · rw [if_neg c1, if_neg c1]
        by_cases c2 : ry_th Y W (ry_fi Y s b zb W lim p) < Y 13 0 (4 * p + W)
        · rw [if_pos c2, if_pos c2]; exact newp
        · rw [if_neg c2, if_neg c2]
          by_cases c3 : Y 13 0 (4 * p + W) = ry_th Y W (ry_fi Y s b zb W lim p)
          · rw [if_pos c3, if_pos c3]
            have hne : ¬ ry_fi Y s b zb W lim p = (-1) := fun q => by
              rw [q] at c3
              have h0 : ry_th Y W (-1) = (-1) := if_pos rfl
              rw [h0] at c3
              exact sk0 p hpn (by rw [c3]; decide)
            rw [i3 hne, e3]
            by_cases c4 : Y 19 s (ry_fi Y s b zb W lim p).toNatClampNeg ≤ Y 19 s p
            · rw [if_pos c4, if_pos c4]; exact keep
            · rw [if_neg c4, if_neg c4, ← e3]; exact newp
          · rw [if_neg c3, if_neg c3]; exact keep
    · have hX : kx_df X w k lim (p + 1) = kx_df X w k lim p := by rw [kx_df, if_neg hm]
      have hY : ry_fi Y s b zb W lim (p + 1) = ry_fi Y s b zb W lim p := by
        rw [ry_fi]
        by_cases g1 : 0 < Y 20 s p
        · rw [if_pos g1]
        · rw [if_neg g1]
          by_cases g2 : 1 < Y 29 s p
          · rw [if_pos g2]
          · rw [if_neg g2]
            by_cases g0 : lim < Y 13 0 (4 * p + W)
            · rw [if_pos g0]
            · rw [if_neg g0]
              by_cases g3 : ry_in Y s b (nI p) zb = true
              · rw [if_pos g3]
              · exfalso
                have h7 : X 7 w p = 0 := e4.mpr (Bool.eq_false_iff.mpr g3)
                refine hm ⟨?_, h7, ?_⟩
                · have h1 : ¬ 0 < X 1 w p := by rw [e2.1]; exact g1
                  exact Int32.le_antisymm (Int32.not_lt.mp h1) (Int32.not_lt.mp e2.2)
                · rw [tm p hpn h7]; exact g2
      rw [hX, hY]
      exact ⟨i1, i2, i3, i4⟩
