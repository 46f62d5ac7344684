/-! A BAND PLAYS, in both: field by field -/
theorem rl_deps_of {x x' : bd_M} {w b : Nat} : ∀ i, (∀ k, k < i → x' 11 w (8 * b + k) = x 11 w (8 * b + k) ∧ x' 12 w (8 * b + k) = x 12 w (8 * b + k)) → kx_deps x' w b i = kx_deps x w b i
  | 0, _ => rfl
  | i + 1, h => by
    obtain ⟨h1, h2⟩ := h i (by omega)
    have e : kx_dep x' w (8 * b + i) ↔ kx_dep x w (8 * b + i) := by
      show ¬ x' 12 w (8 * b + i) = (-1) ∧ ¬ x' 12 w (8 * b + i) = x' 11 w (8 * b + i) ↔ ¬ x 12 w (8 * b + i) = (-1) ∧ ¬ x 12 w (8 * b + i) = x 11 w (8 * b + i)
      rw [h1, h2]
    rw [kx_deps, kx_deps, rl_deps_of i (fun k hk => h k (by omega))]
    by_cases c : kx_dep x w (8 * b + i)
    · rw [if_pos c, if_pos (e.mpr c)]
    · rw [if_neg c, if_neg (fun q => c (e.mp q))]
theorem rl_owns_of {x x' : bd_M} {w b : Nat} : ∀ i, (∀ k, k < i → x' 11 w (8 * b + k) = x 11 w (8 * b + k) ∧ x' 12 w (8 * b + k) = x 12 w (8 * b + k)) → kx_owns x' w b i = kx_owns x w b i
  | 0, _ => rfl
  | i + 1, h => by
    obtain ⟨h1, h2⟩ := h i (by omega)
    have e : kx_own x' w (8 * b + i) ↔ kx_own x w (8 * b + i) := by
      show ¬ x' 12 w (8 * b + i) = (-1) ∧ x' 12 w (8 * b + i) = x' 11 w (8 * b + i) ↔ ¬ x 12 w (8 * b + i) = (-1) ∧ x 12 w (8 * b + i) = x 11 w (8 * b + i)
      rw [h1, h2]
    rw [kx_owns, kx_owns, rl_owns_of i (fun k hk => h k (by omega))]
    by_cases c : kx_own x w (8 * b + i)
    · rw [if_pos c, if_pos (e.mpr c)]
    · rw [if_neg c, if_neg (fun q => c (e.mp q))]
theorem rl_emps_of {x x' : bd_M} {w b : Nat} : ∀ i, (∀ k, k < i → x' 12 w (8 * b + k) = x 12 w (8 * b + k)) → kx_emps x' w b i = kx_emps x w b i
  | 0, _ => rfl
  | i + 1, h => by rw [kx_emps, kx_emps, h i (by omega), rl_emps_of i (fun k hk => h k (by omega))]
/-- marks, deputies, empty seats set down -/
def rl_C (x : bd_M) (w n b zb : Nat) : bd_M := kx_p6 (kx_p5 (kx_p4 (kx_p3 (kx_p2 (kx_p1 x w n b zb) w b zb) w b zb) w b zb) w b) w b
section RLC
variable {x : bd_M} {w n b zb : Nat}
theorem rl_p3 : kx_p3 (kx_p2 (kx_p1 x w n b zb) w b zb) w b zb = bd_up (bd_up (bd_up (kx_seat x w n b zb) 22 w b (kx_mo (kx_seat x w n b zb) w n b zb)) 24 w b (kx_deps (kx_seat x w n b zb) w b zb)) 25 w b (kx_emps (kx_seat x w n b zb) w b zb) := by
  unfold kx_p3 kx_p2 kx_p1
  rw [rl_deps_of (x := kx_seat x w n b zb) zb (fun k _ => ⟨bd_up_f (by decide), bd_up_f (by decide)⟩), rl_emps_of (x := kx_seat x w n b zb) zb (fun k _ => by rw [bd_up_f (by decide), bd_up_f (by decide)])]
theorem rl_p3_d : kx_deps (kx_p3 (kx_p2 (kx_p1 x w n b zb) w b zb) w b zb) w b zb = kx_deps (kx_seat x w n b zb) w b zb := by
  rw [rl_p3]
  exact rl_deps_of zb (fun k _ => ⟨by rw [bd_up_f (by decide), bd_up_f (by decide), bd_up_f (by decide)], by rw [bd_up_f (by decide), bd_up_f (by decide), bd_up_f (by decide)]⟩)
theorem rl_p4_f {f w' k' : Nat} (h : f ≠ 27) : kx_p4 (kx_p3 (kx_p2 (kx_p1 x w n b zb) w b zb) w b zb) w b zb f w' k' = kx_p3 (kx_p2 (kx_p1 x w n b zb) w b zb) w b zb f w' k' := by
  unfold kx_p4
  split
  · exact bd_up_f h
  · rfl
theorem rl_C_f {f w' k' : Nat} (h : f ≠ 22 ∧ f ≠ 24 ∧ f ≠ 25 ∧ f ≠ 27 ∧ f ≠ 33 ∧ f ≠ 34) : rl_C x w n b zb f w' k' = kx_seat x w n b zb f w' k' := by
  rw [rl_C, kx_p6, bd_up_f h.2.2.2.2.2, kx_p5, bd_up_f h.2.2.2.2.1, rl_p4_f h.2.2.2.1, rl_p3, bd_up_f h.2.2.1, bd_up_f h.2.1, bd_up_f h.1]
theorem rl_C_22 {k' : Nat} : rl_C x w n b zb 22 w k' = if k' = b then kx_mo (kx_seat x w n b zb) w n b zb else x 22 w k' := by
  rw [rl_C, kx_p6, bd_up_f (by decide), kx_p5, bd_up_f (by decide), rl_p4_f (by decide), rl_p3, bd_up_f (by decide), bd_up_f (by decide), rl_up, kx_seat_f (by decide) (by decide)]
  simp
theorem rl_C_24 {k' : Nat} : rl_C x w n b zb 24 w k' = if k' = b then kx_deps (kx_seat x w n b zb) w b zb else x 24 w k' := by
  rw [rl_C, kx_p6, bd_up_f (by decide), kx_p5, bd_up_f (by decide), rl_p4_f (by decide), rl_p3, bd_up_f (by decide), rl_up, bd_up_f (by decide), kx_seat_f (f := 24) (by decide) (by decide)]
  simp
theorem rl_C_25 {k' : Nat} : rl_C x w n b zb 25 w k' = if k' = b then kx_emps (kx_seat x w n b zb) w b zb else x 25 w k' := by
  rw [rl_C, kx_p6, bd_up_f (by decide), kx_p5, bd_up_f (by decide), rl_p4_f (by decide), rl_p3, rl_up, bd_up_f (by decide), bd_up_f (by decide), kx_seat_f (f := 25) (by decide) (by decide)]
  simp
theorem rl_C_27 {k' : Nat} : rl_C x w n b zb 27 w k' = if k' = b then (if kx_deps (kx_seat x w n b zb) w b zb ≤ 3 then x 27 w k' else x 27 w k' + 1) else x 27 w k' := by
  have e : ∀ k', kx_p3 (kx_p2 (kx_p1 x w n b zb) w b zb) w b zb 27 w k' = x 27 w k' := fun k' => by
    rw [rl_p3, bd_up_f (by decide), bd_up_f (by decide), bd_up_f (by decide), kx_seat_f (by decide) (by decide)]
  rw [rl_C, kx_p6, bd_up_f (by decide), kx_p5, bd_up_f (by decide), kx_p4, rl_p3_d]
  by_cases c : kx_deps (kx_seat x w n b zb) w b zb ≤ 3
  · rw [if_neg (fun q => q c), if_pos c, e]
    split <;> rfl
  · rw [if_pos c, if_neg c, rl_up, e, e]
    by_cases hk : k' = b
    · subst hk; rw [if_pos ⟨rfl, rfl, rfl⟩, if_pos rfl]
    · rw [if_neg (fun q => hk q.2.2), if_neg hk]
theorem rl_C_33 : rl_C x w n b zb 33 w 0 = x 33 w 0 + kx_deps (kx_seat x w n b zb) w b zb := by
  rw [rl_C, kx_p6, bd_up_f (by decide), kx_p5, bd_up_s, rl_p4_f (by decide), rl_p4_f (by decide), rl_p3, bd_up_f (by decide), bd_up_f (by decide), bd_up_f (by decide), kx_seat_f (f := 33) (by decide) (by decide), bd_up_f (f' := 24) (by decide), bd_up_s]
theorem rl_C_34 : rl_C x w n b zb 34 w 0 = x 34 w 0 + kx_emps (kx_seat x w n b zb) w b zb := by
  rw [rl_C, kx_p6, bd_up_s, kx_p5, bd_up_f (by decide), bd_up_f (by decide), rl_p4_f (by decide), rl_p4_f (by decide), rl_p3, bd_up_f (by decide), bd_up_f (by decide), bd_up_f (by decide), kx_seat_f (f := 34) (by decide) (by decide), bd_up_s]
theorem rl_no1 {y : bd_M} {k p : Nat} (hm : ry_mv n (y 12 w k)) (hn : n ≤ 24) (hp : p < 2 ^ 31) : kx_no1 y w n k 4 w p = (if y 12 w k = nI p then y 4 w p + 1 else y 4 w p) ∧ kx_no1 y w n k 5 w p = (if kx_dep y w k ∧ y 12 w k = nI p then y 5 w p + 1 else y 5 w p) ∧ kx_no1 y w n k 6 w p = (if kx_dep y w k ∧ y 12 w k = nI p then y 6 w p + 1 else y 6 w p) := by
  have hpm := rl_nIm hp
  unfold kx_no1
  by_cases h1 : y 12 w k = (-1)
  · have hne : ¬ y 12 w k = nI p := fun q => hpm (q.symm.trans h1)
    rw [if_neg (fun q => (rl_mvn hm hn).mp q h1)]
    refine ⟨?_, ?_, ?_⟩
    · rw [if_neg hne]
    · rw [if_neg (fun q => hne q.2)]
    · rw [if_neg (fun q => hne q.2)]
  · obtain ⟨e1, e2⟩ := rl_mvI hm h1
    rw [if_pos ((rl_mvn hm hn).mpr h1)]
    have hpi : y 12 w k = nI p ↔ p = (y 12 w k).toNatClampNeg := by
      refine ⟨fun q => by rw [q, nI_clamp hp], fun q => by rw [q]; exact e1⟩
    have hd : kx_dep (bd_up y 4 w (y 12 w k).toNatClampNeg (y 4 w (y 12 w k).toNatClampNeg + 1)) w k ↔ kx_dep y w k := by
      show ¬ bd_up y 4 w _ _ 12 w k = (-1) ∧ ¬ bd_up y 4 w _ _ 12 w k = bd_up y 4 w _ _ 11 w k ↔ ¬ y 12 w k = (-1) ∧ ¬ y 12 w k = y 11 w k
      rw [bd_up_f (by decide), bd_up_f (by decide)]
    unfold kx_no2
    by_cases d : kx_dep y w k
    · rw [if_pos (hd.mpr d)]
      by_cases q : p = (y 12 w k).toNatClampNeg
      · rw [if_pos (hpi.mpr q), if_pos ⟨d, hpi.mpr q⟩, if_pos ⟨d, hpi.mpr q⟩]
        subst q
        refine ⟨?_, ?_, ?_⟩
        · rw [bd_up_f (by decide), bd_up_f (by decide), bd_up_s]
        · rw [bd_up_f (by decide), bd_up_s, bd_up_f (by decide)]
        · rw [bd_up_s, bd_up_f (by decide), bd_up_f (by decide)]
      · rw [if_neg (fun a => q (hpi.mp a)), if_neg (fun a => q (hpi.mp a.2)), if_neg (fun a => q (hpi.mp a.2))]
        refine ⟨?_, ?_, ?_⟩
        · rw [bd_up_n (fun a => q a.2.2), bd_up_n (fun a => q a.2.2), bd_up_n (fun a => q a.2.2)]
        · rw [bd_up_n (fun a => q a.2.2), bd_up_n (fun a => q a.2.2), bd_up_n (fun a => q a.2.2)]
        · rw [bd_up_n (fun a => q a.2.2), bd_up_n (fun a => q a.2.2), bd_up_n (fun a => q a.2.2)]
    · rw [if_neg (fun a => d (hd.mp a))]
      refine ⟨?_, by rw [bd_up_f (by decide), if_neg (fun a => d a.1)], by rw [bd_up_f (by decide), if_neg (fun a => d a.1)]⟩
      by_cases q : p = (y 12 w k).toNatClampNeg
      · rw [if_pos (hpi.mpr q)]
        subst q
        rw [bd_up_s]
      · rw [if_neg (fun a => q (hpi.mp a)), bd_up_n (fun a => q a.2.2)]
theorem rl_no {y : bd_M} {p : Nat} (hm : ∀ k, k < zb → ry_mv n (y 12 w (8 * b + k))) (hn : n ≤ 24) (hp : p < 2 ^ 31) : ∀ i, i ≤ zb → kx_no y w n b i 4 w p = y 4 w p + rl_cnt (fun k => decide (y 12 w (8 * b + k) = nI p)) i ∧ kx_no y w n b i 5 w p = y 5 w p + rl_cnt (fun k => decide (kx_dep y w (8 * b + k) ∧ y 12 w (8 * b + k) = nI p)) i ∧ kx_no y w n b i 6 w p = y 6 w p + rl_cnt (fun k => decide (kx_dep y w (8 * b + k) ∧ y 12 w (8 * b + k) = nI p)) i
  | 0, _ => ⟨(Int32.add_zero _).symm, (Int32.add_zero _).symm, (Int32.add_zero _).symm⟩
  | i + 1, hi => by
    obtain ⟨i1, i2, i3⟩ := rl_no hm hn hp i (by omega)
    have e12 : kx_no y w n b i 12 w (8 * b + i) = y 12 w (8 * b + i) := kx_no_f (by decide) (by decide) (by decide) i
    have e11 : kx_no y w n b i 11 w (8 * b + i) = y 11 w (8 * b + i) := kx_no_f (by decide) (by decide) (by decide) i
    have hd : kx_dep (kx_no y w n b i) w (8 * b + i) ↔ kx_dep y w (8 * b + i) := by
      show ¬ kx_no y w n b i 12 w (8 * b + i) = (-1) ∧ ¬ kx_no y w n b i 12 w (8 * b + i) = kx_no y w n b i 11 w (8 * b + i) ↔ ¬ y 12 w (8 * b + i) = (-1) ∧ ¬ y 12 w (8 * b + i) = y 11 w (8 * b + i)
      rw [e12, e11]
    obtain ⟨a1, a2, a3⟩ := rl_no1 (y := kx_no y w n b i) (w := w) (k := 8 * b + i) (p := p) (n := n) (by rw [e12]; exact hm i (by omega)) hn hp
    rw [kx_no, a1, a2, a3, i1, i2, i3]
    refine ⟨?_, ?_, ?_⟩
    · by_cases c : y 12 w (8 * b + i) = nI p
      · rw [if_pos (e12.trans c), rl_cnt_p (fun k => y 12 w (8 * b + k) = nI p) c, Int32.add_assoc]
      · rw [if_neg (fun q => c (e12.symm.trans q)), rl_cnt_n (fun k => y 12 w (8 * b + k) = nI p) c]
    · by_cases c : kx_dep y w (8 * b + i) ∧ y 12 w (8 * b + i) = nI p
      · rw [if_pos ⟨hd.mpr c.1, e12.trans c.2⟩, rl_cnt_p (fun k => kx_dep y w (8 * b + k) ∧ y 12 w (8 * b + k) = nI p) c, Int32.add_assoc]
      · rw [if_neg (fun q => c ⟨hd.mp q.1, e12.symm.trans q.2⟩), rl_cnt_n (fun k => kx_dep y w (8 * b + k) ∧ y 12 w (8 * b + k) = nI p) c]
    · by_cases c : kx_dep y w (8 * b + i) ∧ y 12 w (8 * b + i) = nI p
      · rw [if_pos ⟨hd.mpr c.1, e12.trans c.2⟩, rl_cnt_p (fun k => kx_dep y w (8 * b + k) ∧ y 12 w (8 * b + k) = nI p) c, Int32.add_assoc]
      · rw [if_neg (fun q => c ⟨hd.mp q.1, e12.symm.trans q.2⟩), rl_cnt_n (fun k => kx_dep y w (8 * b + k) ∧ y 12 w (8 * b + k) = nI p) c]
theorem rl_ml {x : bd_M} {w p : Nat} : ∀ i, kx_ml x w i 0 w p = if p < i then (if x 7 w p = 0 then bd_mx 0 (x 0 w p - 10) else bd_mn 100 (x 0 w p + 15)) else x 0 w p
  | 0 => rfl
  | i + 1 => by
    have e7 : kx_ml x w i 7 w i = x 7 w i := kx_ml_f (by decide) i
    rw [kx_ml, e7]
    by_cases h : p = i
    · subst h
      rw [if_pos (Nat.lt_succ_self p)]
      have e0 : kx_ml x w p 0 w p = x 0 w p := by rw [rl_ml p, if_neg (Nat.lt_irrefl p)]
      by_cases c : x 7 w p = 0
      · simp only [if_pos c, kx_rest, bd_up_s, e0]
      · simp only [if_neg c, kx_tire, bd_up_s, e0]
    · have e : (if x 7 w i = 0 then kx_rest (kx_ml x w i) w i 10 else kx_tire (kx_ml x w i) w i 15) 0 w p = kx_ml x w i 0 w p := by
        unfold kx_rest kx_tire
        split <;> exact bd_up_n (fun q => h q.2.2)
      rw [e, rl_ml i]
      by_cases h2 : p < i
      · rw [if_pos h2, if_pos (show p < i + 1 by omega)]
      · rw [if_neg h2, if_neg (show ¬ p < i + 1 by omega)]
theorem rl_play_eq : kx_play x w n b zb = kx_ml (kx_no (rl_C x w n b zb) w n b zb) w n := rfl
/-- each once at most -/
theorem rl_once {f : Nat → Int32} {v : Int32} : ∀ i, (∀ k, k < i → ∀ j, j < i → f k = f j → f k = v → k = j) → rl_cnt (fun k => decide (f k = v)) i = if ∃ k, k < i ∧ f k = v then 1 else 0 := by
  intro i
  induction i with
  | zero => intro _; rw [if_neg (fun q => by obtain ⟨k, hk, -⟩ := q; omega)]; rfl
  | succ i ih =>
    intro h
    have ih := ih (fun k hk j hj => h k (by omega) j (by omega))
    by_cases c : f i = v
    · rw [rl_cnt_p (fun k => f k = v) c, ih, if_neg, if_pos ⟨i, by omega, c⟩]
      · rfl
      · rintro ⟨k, hk, e⟩
        have := h k (by omega) i (by omega) (e.trans c.symm) e
        omega
    · rw [rl_cnt_n (fun k => f k = v) c, ih]
      by_cases e : ∃ k, k < i ∧ f k = v
      · obtain ⟨k, hk, e2⟩ := e
        rw [if_pos ⟨k, hk, e2⟩, if_pos ⟨k, by omega, e2⟩]
      · rw [if_neg e, if_neg]
        rintro ⟨k, hk, e2⟩
        by_cases hki : k = i
        · subst hki; exact c e2
        · exact e ⟨k, by omega, e2⟩
end RLC
