/-! A CONTEST'S END, and the whole contest: alike in both -/
section RLE
variable {x y : bd_M} {w s n N nb t : Nat} {z : Nat → Nat}
theorem rl_ia {i j : Nat} (h1 : x 22 w i = y 28 s (4 * i) ∧ x 24 w i = y 28 s (4 * i + 2)) (h2 : x 22 w j = y 28 s (4 * j) ∧ x 24 w j = y 28 s (4 * j + 2)) : kx_ia x w i j ↔ ry_ia y s i j := by
  show (if x 22 w i = x 22 w j then (if x 24 w i = x 24 w j then ¬ nI j ≤ nI i else ¬ x 24 w j ≤ x 24 w i) else ¬ x 22 w i ≤ x 22 w j) ↔ (if y 28 s (4 * i) = y 28 s (4 * j) then (if y 28 s (4 * i + 2) = y 28 s (4 * j + 2) then ¬ nI j ≤ nI i else ¬ y 28 s (4 * j + 2) ≤ y 28 s (4 * i + 2)) else ¬ y 28 s (4 * i) ≤ y 28 s (4 * j))
  rw [h1.1, h1.2, h2.1, h2.2]
/-- ahead by marks: the class's way of saying it and the plain one -/
theorem rl_bi0 {A B C D : Int32} {u : Prop} [Decidable u] {K K1 : Int32} : (if (if B < A then True else if A = B then ¬ D ≤ C else False) then K1 else if u then K else if (if A < B then True else if B = A then ¬ C ≤ D else False) then K else K1) = if (if A = B then (if C = D then ¬ u else ¬ D ≤ C) else ¬ A ≤ B) then K1 else K := by
  have bt : ∀ A B C D : Int32, (if B < A then True else if A = B then ¬ D ≤ C else False) ↔ (B.toInt < A.toInt ∨ (A.toInt = B.toInt ∧ C.toInt < D.toInt)) := fun A B C D => by
    by_cases h1 : B < A
    · rw [if_pos h1]
      exact ⟨fun _ => Or.inl (Int32.lt_iff_toInt_lt.mp h1), fun _ => trivial⟩
    · rw [if_neg h1]
      have g1 : ¬ B.toInt < A.toInt := fun q => h1 (Int32.lt_iff_toInt_lt.mpr q)
      by_cases h2 : A = B
      · rw [if_pos h2, Int32.le_iff_toInt_le]
        have g2 : A.toInt = B.toInt := congrArg Int32.toInt h2
        omega
      · rw [if_neg h2]
        have g2 : ¬ A.toInt = B.toInt := fun q => h2 (Int32.toInt_inj.mp q)
        exact ⟨False.elim, fun q => absurd q (by omega)⟩
  have t1 := bt A B C D
  have t2 := bt B A D C
  have t3 : (if A = B then (if C = D then ¬ u else ¬ D ≤ C) else ¬ A ≤ B) ↔ (B.toInt < A.toInt ∨ (A.toInt = B.toInt ∧ (C.toInt < D.toInt ∨ (C.toInt = D.toInt ∧ ¬ u)))) := by
    by_cases h1 : A = B
    · rw [if_pos h1]
      have g1 : A.toInt = B.toInt := congrArg Int32.toInt h1
      by_cases h2 : C = D
      · rw [if_pos h2]
        have g2 : C.toInt = D.toInt := congrArg Int32.toInt h2
        exact ⟨fun q => Or.inr ⟨g1, Or.inr ⟨g2, q⟩⟩, fun q => q.elim (fun q => absurd q (by omega)) (fun q => q.2.elim (fun q => absurd q (by omega)) (fun q => q.2))⟩
      · rw [if_neg h2, Int32.le_iff_toInt_le]
        have g2 : ¬ C.toInt = D.toInt := fun q => h2 (Int32.toInt_inj.mp q)
        exact ⟨fun q => Or.inr ⟨g1, Or.inl (by omega)⟩, fun q => q.elim (fun q => absurd q (by omega)) (fun q => q.2.elim (fun q => by omega) (fun q => absurd q.1 g2))⟩
    · rw [if_neg h1, Int32.le_iff_toInt_le]
      have g1 : ¬ A.toInt = B.toInt := fun q => h1 (Int32.toInt_inj.mp q)
      exact ⟨fun q => Or.inl (by omega), fun q => q.elim (fun q => by omega) (fun q => absurd q.1 g1)⟩
  by_cases b1 : (if B < A then True else if A = B then ¬ D ≤ C else False)
  · rw [if_pos b1, if_pos (t3.mpr ((t1.mp b1).elim Or.inl (fun q => Or.inr ⟨q.1, Or.inl q.2⟩)))]
  · have n1 := fun q => b1 (t1.mpr q)
    have n1 : ¬ (B.toInt < A.toInt ∨ (A.toInt = B.toInt ∧ C.toInt < D.toInt)) := n1
    rw [if_neg b1]
    by_cases hu : u
    · rw [if_pos hu, if_neg (fun q => n1 ((t3.mp q).elim Or.inl (fun q => Or.inr ⟨q.1, q.2.elim id (fun q => absurd hu q.2)⟩)))]
    · rw [if_neg hu]
      by_cases b2 : (if A < B then True else if B = A then ¬ C ≤ D else False)
      · have n2 := t2.mp b2
        rw [if_pos b2, if_neg (fun q => by
          have n3 := t3.mp q
          rcases n3 with n3 | ⟨n3, n4 | n4⟩
          · omega
          · omega
          · have := n4.1
            omega)]
      · have n2 : ¬ (A.toInt < B.toInt ∨ (B.toInt = A.toInt ∧ D.toInt < C.toInt)) := fun q => b2 (t2.mpr q)
        rw [if_neg b2, if_pos (t3.mpr (Or.inr ⟨by omega, Or.inr ⟨by omega, hu⟩⟩))]
theorem rl_abm_s {i j : Nat} : kx_abm x w i (j + 1) = if kx_ia x w j i then kx_abm x w i j + 1 else kx_abm x w i j := by
  rw [kx_abm]
  exact rl_bi0
theorem rl_abm {i : Nat} (hnb6 : nb ≤ 6) (hi : i < nb) (h : ∀ j, j < nb → x 22 w j = y 28 s (4 * j) ∧ x 24 w j = y 28 s (4 * j + 2)) : ∀ j, j ≤ nb → kx_abm x w i j = ry_ab y s i j
  | 0, _ => rfl
  | j + 1, hj => by
    rw [rl_abm_s, ry_ab, rl_abm hnb6 hi h j (by omega)]
    have e := rl_ia (h j (by omega)) (h i hi)
    by_cases c : nI j = nI i
    · have c2 : j = i := (nI_eq (by omega) (by omega)).mp c
      have d : ¬ kx_ia x w j i := by
        rw [c2]
        intro q
        change (if x 22 w i = x 22 w i then (if x 24 w i = x 24 w i then ¬ nI i ≤ nI i else ¬ x 24 w i ≤ x 24 w i) else ¬ x 22 w i ≤ x 22 w i) at q
        rw [if_pos rfl, if_pos rfl] at q
        exact q ((nI_leI (by omega) (by omega)).mpr (Nat.le_refl i))
      rw [if_neg d, if_pos c, Int32.add_zero]
    · rw [if_neg c]
      by_cases d : kx_ia x w j i
      · rw [if_pos d, if_pos (e.mp d)]
      · rw [if_neg d, if_neg (fun q => d (e.mpr q)), Int32.add_zero]
theorem rl_abm_n {i : Nat} : ∀ j, ∃ c, c ≤ j ∧ kx_abm x w i j = nI c
  | 0 => ⟨0, Nat.le_refl 0, rfl⟩
  | j + 1 => by
    obtain ⟨c, hc, e⟩ := rl_abm_n (i := i) j
    rw [rl_abm_s, e]
    split
    · exact ⟨c + 1, by omega, nI_1 c⟩
    · exact ⟨c, by omega, rfl⟩
theorem rl_abm_of {x' : bd_M} {i : Nat} (h : ∀ k, x' 22 w k = x 22 w k ∧ x' 24 w k = x 24 w k) : ∀ j, kx_abm x' w i j = kx_abm x w i j
  | 0 => rfl
  | j + 1 => by
    have e : kx_ia x' w j i ↔ kx_ia x w j i := by
      show (if x' 22 w j = x' 22 w i then (if x' 24 w j = x' 24 w i then ¬ nI i ≤ nI j else ¬ x' 24 w i ≤ x' 24 w j) else ¬ x' 22 w j ≤ x' 22 w i) ↔ (if x 22 w j = x 22 w i then (if x 24 w j = x 24 w i then ¬ nI i ≤ nI j else ¬ x 24 w i ≤ x 24 w j) else ¬ x 22 w j ≤ x 22 w i)
      rw [(h j).1, (h i).1, (h j).2, (h i).2]
    rw [rl_abm_s, rl_abm_s, rl_abm_of h j]
    by_cases d : kx_ia x w j i
    · rw [if_pos d, if_pos (e.mpr d)]
    · rw [if_neg d, if_neg (fun q => d (e.mp q))]
theorem rl_gp_f {f k' : Nat} (h : f ≠ 23) (h2 : f ≠ 26) : ∀ i, kx_gp x w nb i f w k' = x f w k'
  | 0 => rfl
  | i + 1 => by
    rw [kx_gp]
    unfold kx_gp2
    split
    · rw [bd_up_f h]; exact rl_gp_f h h2 i
    · rw [bd_up_f h2, bd_up_f h]; exact rl_gp_f h h2 i
theorem rl_gp : ∀ i, ∀ k, kx_gp x w nb i 23 w k = (if k < i then kx_abm x w k nb else x 23 w k) ∧ kx_gp x w nb i 26 w k = (if k < i then (if x 22 w k ≤ 0 then x 26 w k else x 26 w k + kx_pts (kx_abm x w k nb)) else x 26 w k)
  | 0, k => ⟨rfl, rfl⟩
  | i + 1, k => by
    obtain ⟨i1, i2⟩ := rl_gp i k
    have ea : kx_abm (kx_gp x w nb i) w i nb = kx_abm x w i nb := rl_abm_of (fun k => ⟨rl_gp_f (by decide) (by decide) i, rl_gp_f (by decide) (by decide) i⟩) nb
    have e22 : bd_up (kx_gp x w nb i) 23 w i (kx_abm x w i nb) 22 w i = x 22 w i := by rw [bd_up_f (by decide)]; exact rl_gp_f (by decide) (by decide) i
    rw [kx_gp, ea]
    unfold kx_gp2
    rw [e22]
    by_cases h : k = i
    · subst h
      rw [if_neg (Nat.lt_irrefl k)] at i1 i2
      rw [if_pos (Nat.lt_succ_self k), if_pos (Nat.lt_succ_self k)]
      by_cases c : x 22 w k ≤ 0
      · rw [if_pos c, if_pos c]
        exact ⟨bd_up_s, (bd_up_f (by decide)).trans i2⟩
      · rw [if_neg c, if_neg c]
        refine ⟨(bd_up_f (by decide)).trans bd_up_s, ?_⟩
        rw [bd_up_s, bd_up_f (by decide), bd_up_s, i2]
    · have e : ∀ f, (if x 22 w i ≤ 0 then bd_up (kx_gp x w nb i) 23 w i (kx_abm x w i nb) else bd_up (bd_up (kx_gp x w nb i) 23 w i (kx_abm x w i nb)) 26 w i (bd_up (kx_gp x w nb i) 23 w i (kx_abm x w i nb) 26 w i + kx_pts (bd_up (kx_gp x w nb i) 23 w i (kx_abm x w i nb) 23 w i))) f w k = kx_gp x w nb i f w k := fun f => by
        split
        · exact bd_up_n (fun q => h q.2.2)
        · rw [bd_up_n (fun q => h q.2.2), bd_up_n (fun q => h q.2.2)]
      rw [e, e, i1, i2]
      by_cases h2 : k < i
      · rw [if_pos h2, if_pos h2, if_pos (show k < i + 1 by omega), if_pos (show k < i + 1 by omega)]
        exact ⟨rfl, rfl⟩
      · rw [if_neg h2, if_neg h2, if_neg (show ¬ k < i + 1 by omega), if_neg (show ¬ k < i + 1 by omega)]
        exact ⟨rfl, rfl⟩
theorem rl_rl_f {f k' : Nat} (h : f ≠ 21) : ∀ i, kx_rl x w z i f w k' = x f w k'
  | 0 => rfl
  | i + 1 => by rw [kx_rl, kx_raise, bd_up_f h]; exact rl_rl_f h i
theorem rl_rl : ∀ i, ∀ k, kx_rl x w z i 21 w k = if k < i then bd_mx 0 (bd_mn 50 (x 21 w k + (kx_owns x w k (z k) - 2 * kx_deps x w k (z k)))) else x 21 w k
  | 0, k => rfl
  | i + 1, k => by
    have i1 := rl_rl i k
    have eo : kx_owns (kx_rl x w z i) w i (z i) = kx_owns x w i (z i) := rl_owns_of (z i) (fun k _ => ⟨rl_rl_f (by decide) i, rl_rl_f (by decide) i⟩)
    have ed : kx_deps (kx_rl x w z i) w i (z i) = kx_deps x w i (z i) := rl_deps_of (z i) (fun k _ => ⟨rl_rl_f (by decide) i, rl_rl_f (by decide) i⟩)
    rw [kx_rl, kx_raise, eo, ed, rl_up]
    by_cases h : k = i
    · subst h
      rw [if_neg (Nat.lt_irrefl k)] at i1
      rw [if_pos ⟨rfl, rfl, rfl⟩, if_pos (Nat.lt_succ_self k), i1]
    · rw [if_neg (fun q => h q.2.2), i1]
      by_cases h2 : k < i
      · rw [if_pos h2, if_pos (show k < i + 1 by omega)]
      · rw [if_neg h2, if_neg (show ¬ k < i + 1 by omega)]
theorem rl_ab_f {f k' : Nat} (h : f ≠ 1) : ∀ i, kx_ab x w i f w k' = x f w k'
  | 0 => rfl
  | i + 1 => by rw [kx_ab, bd_up_f h]; exact rl_ab_f h i
theorem rl_ab {p : Nat} : ∀ i, kx_ab x w i 1 w p = if p < i then bd_mx 0 (x 1 w p - 1) else x 1 w p
  | 0 => rfl
  | i + 1 => by
    have i1 := rl_ab (p := p) i
    rw [kx_ab, rl_up]
    by_cases h : p = i
    · subst h
      rw [if_neg (Nat.lt_irrefl p)] at i1
      rw [if_pos ⟨rfl, rfl, rfl⟩, if_pos (Nat.lt_succ_self p), i1]
    · rw [if_neg (fun q => h q.2.2), i1]
      by_cases h2 : p < i
      · rw [if_pos h2, if_pos (show p < i + 1 by omega)]
      · rw [if_neg h2, if_neg (show ¬ p < i + 1 by omega)]
-- the reference
theorem rl_rab_of {y' : bd_M} {i : Nat} (h : ∀ k, y' 28 s (4 * k) = y 28 s (4 * k) ∧ y' 28 s (4 * k + 2) = y 28 s (4 * k + 2)) : ∀ j, ry_ab y' s i j = ry_ab y s i j
  | 0 => rfl
  | j + 1 => by
    have e : ry_ia y' s j i ↔ ry_ia y s j i := by
      show (if y' 28 s (4 * j) = y' 28 s (4 * i) then (if y' 28 s (4 * j + 2) = y' 28 s (4 * i + 2) then ¬ nI i ≤ nI j else ¬ y' 28 s (4 * i + 2) ≤ y' 28 s (4 * j + 2)) else ¬ y' 28 s (4 * j) ≤ y' 28 s (4 * i)) ↔ (if y 28 s (4 * j) = y 28 s (4 * i) then (if y 28 s (4 * j + 2) = y 28 s (4 * i + 2) then ¬ nI i ≤ nI j else ¬ y 28 s (4 * i + 2) ≤ y 28 s (4 * j + 2)) else ¬ y 28 s (4 * j) ≤ y 28 s (4 * i))
      rw [(h j).1, (h i).1, (h j).2, (h i).2]
    rw [ry_ab, ry_ab, rl_rab_of h j]
    by_cases c : nI j = nI i
    · rw [if_pos c, if_pos c]
    · rw [if_neg c, if_neg c]
      by_cases d : ry_ia y s j i
      · rw [if_pos d, if_pos (e.mpr d)]
      · rw [if_neg d, if_neg (fun q => d (e.mp q))]
theorem rl_ow_of {y' : bd_M} {b : Nat} (h : ∀ k, y' 24 s k = y 24 s k ∧ y' 23 s k = y 23 s k) : ∀ j, ry_ow y' s b j = ry_ow y s b j
  | 0 => rfl
  | j + 1 => by rw [ry_ow, ry_ow, (h _).1, (h _).2, rl_ow_of h j]
theorem rl_k3_28 : ∀ i, ∀ k, ry_k3 y s nb z i 28 s k = if k % 4 = 1 ∧ k / 4 < i then ry_ab y s (k / 4) nb else y 28 s k
  | 0, k => by rw [if_neg (fun q => Nat.not_lt_zero _ q.2)]; rfl
  | i + 1, k => by
    have ih := rl_k3_28 i
    have ea : ry_ab (ry_k3 y s nb z i) s i nb = ry_ab y s i nb := rl_rab_of (fun k => ⟨by rw [ih, if_neg (by omega)], by rw [ih, if_neg (by omega)]⟩) nb
    rw [ry_k3, ry_q3, bd_up_f (by decide), ry_q2, bd_up_f (by decide), ry_q1, ea, rl_up, ih k]
    by_cases h : k = 4 * i + 1
    · subst h
      rw [if_pos ⟨rfl, rfl, rfl⟩, if_pos (by omega), show (4 * i + 1) / 4 = i by omega]
    · rw [if_neg (fun q => h q.2.2)]
      by_cases h2 : k % 4 = 1 ∧ k / 4 < i
      · rw [if_pos h2, if_pos (by omega)]
      · rw [if_neg h2, if_neg (by omega)]
theorem rl_k3_f {f w' k : Nat} (h : f ≠ 28 ∧ f ≠ 26 ∧ f ≠ 25) (i : Nat) : ry_k3 y s nb z i f w' k = y f w' k := ry_k3_f h.1 h.2.1 h.2.2 i
theorem rl_k3 : ∀ i, ∀ k, ry_k3 y s nb z i 26 s k = (if k < i then y 26 s k + (if y 28 s (4 * k) = 0 then 0 else if ry_ab y s k nb ≤ 2 then 5 - 2 * ry_ab y s k nb else 0) else y 26 s k) ∧ ry_k3 y s nb z i 25 s k = (if k < i then bd_mx 0 (bd_mn 50 (y 25 s k + ry_ow y s k (z k) - 2 * y 28 s (4 * k + 2))) else y 25 s k)
  | 0, k => ⟨rfl, rfl⟩
  | i + 1, k => by
    obtain ⟨i1, i2⟩ := rl_k3 i k
    have e28 := rl_k3_28 (y := y) (s := s) (nb := nb) (z := z) i
    have ea : ry_ab (ry_k3 y s nb z i) s i nb = ry_ab y s i nb := rl_rab_of (fun k => ⟨by rw [e28, if_neg (by omega)], by rw [e28, if_neg (by omega)]⟩) nb
    rw [ry_k3, ea]
    by_cases h : k = i
    · subst h
      rw [if_neg (Nat.lt_irrefl k)] at i1 i2
      rw [if_pos (Nat.lt_succ_self k), if_pos (Nat.lt_succ_self k)]
      have q28 : ry_q1 (ry_k3 y s nb z k) s nb k 28 s (4 * k) = y 28 s (4 * k) := by
        rw [ry_q1, bd_up_n (fun q => by omega), e28, if_neg (by omega)]
      have q26 : ry_q1 (ry_k3 y s nb z k) s nb k 26 s k = y 26 s k := by rw [ry_q1, bd_up_f (by decide), i1]
      refine ⟨?_, ?_⟩
      · rw [ry_q3, bd_up_f (by decide), ry_q2, bd_up_s, q28, q26]
      · have r28 : ry_q2 (ry_q1 (ry_k3 y s nb z k) s nb k) s k (ry_ab y s k nb) 28 s (4 * k + 2) = y 28 s (4 * k + 2) := by
          rw [ry_q2, bd_up_f (by decide), ry_q1, bd_up_n (fun q => by omega), e28, if_neg (by omega)]
        have r25 : ry_q2 (ry_q1 (ry_k3 y s nb z k) s nb k) s k (ry_ab y s k nb) 25 s k = y 25 s k := by
          rw [ry_q2, bd_up_f (by decide), ry_q1, bd_up_f (by decide), i2]
        have row : ry_ow (ry_q2 (ry_q1 (ry_k3 y s nb z k) s nb k) s k (ry_ab y s k nb)) s k (z k) = ry_ow y s k (z k) := rl_ow_of (fun j => ⟨by rw [ry_q2, bd_up_f (by decide), ry_q1, bd_up_f (by decide), rl_k3_f (by decide)], by rw [ry_q2, bd_up_f (by decide), ry_q1, bd_up_f (by decide), rl_k3_f (by decide)]⟩) (z k)
        rw [ry_q3, bd_up_s, r28, r25, row]
    · refine ⟨?_, ?_⟩
      · rw [ry_q3, bd_up_f (by decide), ry_q2, bd_up_n (fun q => h q.2.2), ry_q1, bd_up_f (by decide), i1]
        by_cases h2 : k < i
        · rw [if_pos h2, if_pos (show k < i + 1 by omega)]
        · rw [if_neg h2, if_neg (show ¬ k < i + 1 by omega)]
      · rw [ry_q3, bd_up_n (fun q => h q.2.2), ry_q2, bd_up_f (by decide), ry_q1, bd_up_f (by decide), i2]
        by_cases h2 : k < i
        · rw [if_pos h2, if_pos (show k < i + 1 by omega)]
        · rw [if_neg h2, if_neg (show ¬ k < i + 1 by omega)]
theorem rl_k4 {p : Nat} : ∀ i, ry_k4 y s i 20 s p = if p < i then bd_mx 0 (y 20 s p - 1) else y 20 s p
  | 0 => rfl
  | i + 1 => by
    have i1 := rl_k4 (p := p) i
    rw [ry_k4, rl_up]
    by_cases h : p = i
    · subst h
      rw [if_neg (Nat.lt_irrefl p)] at i1
      rw [if_pos ⟨rfl, rfl, rfl⟩, if_pos (Nat.lt_succ_self p), i1]
    · rw [if_neg (fun q => h q.2.2), i1]
      by_cases h2 : p < i
      · rw [if_pos h2, if_pos (show p < i + 1 by omega)]
      · rw [if_neg h2, if_neg (show ¬ p < i + 1 by omega)]
theorem rl_owW {b zb : Nat} : ∀ i, i ≤ zb → (∀ k, k < zb → x 12 w (8 * b + k) = y 24 s (8 * b + k) ∧ x 11 w (8 * b + k) = y 23 s (8 * b + k)) → kx_owns x w b i = ry_ow y s b i
  | 0, _, _ => rfl
  | i + 1, hi, h => by
    obtain ⟨h1, h2⟩ := h i (by omega)
    have e : kx_own x w (8 * b + i) ↔ ¬ y 24 s (8 * b + i) = (-1) ∧ y 24 s (8 * b + i) = y 23 s (8 * b + i) := by
      show ¬ x 12 w (8 * b + i) = (-1) ∧ x 12 w (8 * b + i) = x 11 w (8 * b + i) ↔ _
      rw [h1, h2]
    rw [kx_owns, ry_ow, rl_owW i (by omega) h]
    by_cases c : y 24 s (8 * b + i) = (-1)
    · rw [if_neg (fun q => (e.mp q).1 c), if_pos c, Int32.add_zero]
    · rw [if_neg c]
      by_cases d : y 24 s (8 * b + i) = y 23 s (8 * b + i)
      · rw [if_pos (e.mpr ⟨c, d⟩), if_pos d]
      · rw [if_neg (fun q => d (e.mp q).2), if_neg d, Int32.add_zero]
theorem rl_pts {c : Nat} (h : c ≤ 6) : kx_pts (nI c) = if nI c ≤ 2 then 5 - 2 * nI c else 0 := by
  obtain rfl | rfl | rfl | rfl | rfl | rfl | rfl : c = 0 ∨ c = 1 ∨ c = 2 ∨ c = 3 ∨ c = 4 ∨ c = 5 ∨ c = 6 := by omega
  all_goals decide
theorem rl_cov {b : Nat} (hb : b < nb) : ∃ j, j < nb ∧ (t + j) % nb = b := by
  refine ⟨(b + nb - t % nb) % nb, Nat.mod_lt _ (by omega), ?_⟩
  rw [Nat.add_mod_mod]
  have h1 := Nat.div_add_mod t nb
  have h2 := Nat.mod_lt t (show 0 < nb by omega)
  have e : t + (b + nb - t % nb) = b + nb * (t / nb + 1) := by rw [Nat.mul_add]; omega
  rw [e, Nat.add_mul_mod_self_left, Nat.mod_eq_of_lt hb]
end RLE
