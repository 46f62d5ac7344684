/-! MARKS, in both -/
theorem rl_deps_c {x : bd_M} {w b : Nat} : ∀ i, kx_deps x w b i = rl_cnt (fun k => decide (kx_dep x w (8 * b + k))) i
  | 0 => rfl
  | i + 1 => by rw [kx_deps, rl_cnt, rl_deps_c i]; simp only [decide_eq_true_eq]
theorem rl_owns_c {x : bd_M} {w b : Nat} : ∀ i, kx_owns x w b i = rl_cnt (fun k => decide (kx_own x w (8 * b + k))) i
  | 0 => rfl
  | i + 1 => by rw [kx_owns, rl_cnt, rl_owns_c i]; simp only [decide_eq_true_eq]
theorem rl_emps_c {x : bd_M} {w b : Nat} : ∀ i, kx_emps x w b i = rl_cnt (fun k => decide (x 12 w (8 * b + k) = (-1))) i
  | 0 => rfl
  | i + 1 => by rw [kx_emps, rl_cnt, rl_emps_c i]; simp only [decide_eq_true_eq]
theorem rl_pB_c {y : bd_M} {s b : Nat} : ∀ i, ry_pB y s b i = rl_cnt (fun k => decide (¬ y 24 s (8 * b + k) = (-1))) i
  | 0 => rfl
  | i + 1 => by
    rw [ry_pB, rl_cnt, rl_pB_c i]
    by_cases h : y 24 s (8 * b + i) = (-1) <;> simp [h]
section RLM
variable {x y : bd_M} {w s n b zb : Nat}
theorem rl_S (h : rl_H x w y s n b zb) : rl_I x w y s n b zb zb := rl_Iz h zb (Nat.le_refl zb)
theorem rl_S_mv (h : rl_H x w y s n b zb) {k : Nat} (hk : k < zb) : ry_mv n (kx_seat x w n b zb 12 w (8 * b + k)) := by
  have hI := rl_S h
  obtain ⟨a1, a2⟩ := hI.2.2.2.2.1 k hk
  by_cases ho : rl_own x w (8 * b + k) = (-1)
  · rcases a2 ho with e | ⟨p, hp, e, -⟩
    · exact Or.inl e
    · rw [show kx_seat x w n b zb 12 w (8 * b + k) = nI p from e]
      exact ry_mv_nI hp h.1
  · rw [show kx_seat x w n b zb 12 w (8 * b + k) = _ from a1 ho]
    exact rl_own_mv (h.2.2.2.1 k hk)
theorem rl_S_11 {k : Nat} : kx_seat x w n b zb 11 w k = x 11 w k := kx_seat_f (by decide) (by decide)
theorem rl_S_dep (h : rl_H x w y s n b zb) {k : Nat} (hk : k < zb) : kx_dep (kx_seat x w n b zb) w (8 * b + k) ↔ rl_own x w (8 * b + k) = (-1) ∧ ¬ kx_seat x w n b zb 12 w (8 * b + k) = (-1) := by
  obtain ⟨a1, a2⟩ := (rl_S h).2.2.2.2.1 k hk
  show ¬ kx_seat x w n b zb 12 w (8 * b + k) = (-1) ∧ ¬ kx_seat x w n b zb 12 w (8 * b + k) = kx_seat x w n b zb 11 w (8 * b + k) ↔ _
  rw [rl_S_11]
  by_cases ho : rl_own x w (8 * b + k) = (-1)
  · refine ⟨fun q => ⟨ho, q.1⟩, fun q => ⟨q.2, fun e => ?_⟩⟩
    rcases a2 ho with e1 | ⟨p, hp, e1, e2⟩
    · exact q.2 e1
    · have e3 : x 11 w (8 * b + k) = nI p := e.symm.trans e1
      have hn := h.1
      have : rl_own x w (8 * b + k) = nI p := by
        unfold rl_own
        rw [e3, if_neg (rl_nIm (by omega)), nI_clamp (by omega), if_pos e2]
      exact rl_nIm (p := p) (by omega) (this.symm.trans ho)
  · have e1 : kx_seat x w n b zb 12 w (8 * b + k) = x 11 w (8 * b + k) := (a1 ho).trans (rl_own_eq ho).1
    exact ⟨fun q => absurd e1 q.2, fun q => absurd q.1 ho⟩
theorem rl_S_own (h : rl_H x w y s n b zb) {k : Nat} (hk : k < zb) : kx_own (kx_seat x w n b zb) w (8 * b + k) ↔ ¬ rl_own x w (8 * b + k) = (-1) := by
  obtain ⟨a1, a2⟩ := (rl_S h).2.2.2.2.1 k hk
  have hd := rl_S_dep h hk
  show ¬ kx_seat x w n b zb 12 w (8 * b + k) = (-1) ∧ kx_seat x w n b zb 12 w (8 * b + k) = kx_seat x w n b zb 11 w (8 * b + k) ↔ _
  refine ⟨fun q ho => ?_, fun ho => ?_⟩
  · exact (hd.mpr ⟨ho, q.1⟩).2 q.2
  · rw [rl_S_11]
    have e1 : kx_seat x w n b zb 12 w (8 * b + k) = x 11 w (8 * b + k) := (a1 ho).trans (rl_own_eq ho).1
    exact ⟨fun q => ho ((a1 ho).symm.trans q), e1⟩
theorem rl_many (h : rl_H x w y s n b zb) : kx_deps (kx_seat x w n b zb) w b zb = (rl_Y y s n b zb zb).2.1 := by
  rw [rl_deps_c, (rl_S h).2.2.2.2.2.1.1]
  exact rl_cnt_c zb (fun k hk => decide_eq_decide.mpr (rl_S_dep h hk))
theorem rl_empty (h : rl_H x w y s n b zb) : kx_emps (kx_seat x w n b zb) w b zb = (rl_Y y s n b zb zb).2.2 := by
  rw [rl_emps_c, (rl_S h).2.2.2.2.2.1.2]
  rfl
theorem rl_ownB (h : rl_H x w y s n b zb) : kx_owns (kx_seat x w n b zb) w b zb = ry_pB (ry_pA y s b zb) s b zb := by
  rw [rl_owns_c, rl_pB_c]
  refine rl_cnt_c zb (fun k hk => decide_eq_decide.mpr ?_)
  rw [rl_S_own h hk, rl_pA_24, if_pos (by omega), rl_own_pA1 h hk]
/-- the piece and the taste, in both -/
def rl_hw (x : bd_M) (w : Nat) (y : bd_M) : Prop := ∀ i, i < 4 → x 35 w i = y 16 0 i ∧ x 36 w i = y 17 0 i
theorem rl_mk (h : rl_H x w y s n b zb) (hw : rl_hw x w y) {k : Nat} (hk : k < zb) (hne : ¬ kx_seat x w n b zb 12 w (8 * b + k) = (-1)) : kx_mf (kx_seat x w n b zb) w (kx_seat x w n b zb 12 w (8 * b + k)).toNatClampNeg (kx_seat x w n b zb 10 w (8 * b + k)) = ry_mk (rl_Y y s n b zb zb).1 s (8 * b + k) := by
  have e12 : kx_seat x w n b zb 12 w (8 * b + k) = (rl_Y y s n b zb zb).1 24 s (8 * b + k) := (rl_S h).1 k hk
  have hp := (rl_mvI (rl_S_mv h hk) hne).2
  have hs := rl_skill h hp hk
  have h' := h
  obtain ⟨hn, hz, h1, h2, h3, h4, h5, h6⟩ := h'
  obtain ⟨a1, a2, a3⟩ := h4 k hk
  unfold kx_mf ry_mk
  have e10 : kx_seat x w n b zb 10 w (8 * b + k) = y 15 0 (8 * b + k) := (kx_seat_f (by decide) (by decide)).trans a1
  have f4 : ¬ (4 : Int32) ≤ y 15 0 (8 * b + k) := fun q => by
    rw [bd_tn a2] at q
    have := (nI_leI (a := 4) (b := (y 15 0 (8 * b + k)).toNatClampNeg) (by decide) (by omega)).mp q
    omega
  have es : kx_skill (kx_seat x w n b zb) w (kx_seat x w n b zb 12 w (8 * b + k)).toNatClampNeg (kx_seat x w n b zb 10 w (8 * b + k)) = y 13 0 (4 * (kx_seat x w n b zb 12 w (8 * b + k)).toNatClampNeg + (y 15 0 (8 * b + k)).toNatClampNeg) := by
    rw [← hs]
    unfold kx_skill
    rw [kx_seat_f (f := 10) (by decide) (by decide), kx_seat_f (f := (x 10 w (8 * b + k)).toNatClampNeg + 1000) (by omega) (by omega)]
  have eh : kx_hard (kx_seat x w n b zb) w (kx_seat x w n b zb 10 w (8 * b + k)) = y 16 0 (y 15 0 (8 * b + k)).toNatClampNeg := by
    unfold kx_hard
    rw [e10, if_neg a2, if_neg f4, kx_seat_f (by decide) (by decide), (hw _ a3).1]
  have ew : kx_wt (kx_seat x w n b zb) w (kx_seat x w n b zb 10 w (8 * b + k)) = y 17 0 (y 15 0 (8 * b + k)).toNatClampNeg := by
    unfold kx_wt
    rw [e10, if_neg a2, if_neg f4, kx_seat_f (by decide) (by decide), (hw _ a3).2]
  rw [es, eh, ew, kx_seat_f (f := 0) (by decide) (by decide), (h6 _ hp).1, rl_Y_f (f := 17) (by decide) (by decide) (by decide), rl_Y_f (f := 15) (by decide) (by decide) (by decide), rl_Y_f (f := 13) (by decide) (by decide) (by decide), rl_Y_f (f := 16) (by decide) (by decide) (by decide), rl_Y_f (f := 19) (by decide) (by decide) (by decide), ← e12]
  exact Int32.mul_comm _ _
theorem rl_r1 {a t o d e m : Int32} (h : a = t + o + d + (-5) * e) : a + m + 1 = t + (o + 1) + (d + m) + (-5) * e := by subst h; grind
theorem rl_r2 {a t o d e m : Int32} (h : a = t + o + d + (-5) * e) : a + m = t + o + (d + m) + (-5) * e := by subst h; grind
theorem rl_r3 {a t o d e : Int32} (h : a = t + o + d + (-5) * e) : a + (-5) = t + o + d + (-5) * (e + 1) := by subst h; grind
theorem rl_r4 {t o d e : Int32} : o + t - 5 * e + d = t + o + d + (-5) * e := by grind
theorem rl_ms (h : rl_H x w y s n b zb) (hw : rl_hw x w y) : ∀ i, i ≤ zb → kx_ms (kx_seat x w n b zb) w n b i = kx_seat x w n b zb 21 w b / 5 + kx_owns (kx_seat x w n b zb) w b i + ry_pD (rl_Y y s n b zb zb).1 s b 0 i + (-5) * kx_emps (kx_seat x w n b zb) w b i
  | 0, _ => by
    show _ = kx_seat x w n b zb 21 w b / 5 + 0 + 0 + (-5) * 0
    simp [kx_ms]
  | i + 1, hi => by
    have ih := rl_ms h hw i (by omega)
    have hk : i < zb := by omega
    have hmv := rl_S_mv h hk
    have hn := h.1
    have e24 : (rl_Y y s n b zb zb).1 24 s (8 * b + i) = kx_seat x w n b zb 12 w (8 * b + i) := ((rl_S h).1 i hk).symm
    rw [kx_ms, kx_owns, ry_pD, kx_emps, e24]
    unfold kx_ms1
    by_cases e : kx_seat x w n b zb 12 w (8 * b + i) = (-1)
    · rw [if_neg (fun q => (rl_mvn hmv hn).mp q e), if_neg (fun q => q.1 e), if_neg (fun q => q.1 e), if_pos e, if_pos e]
      exact rl_r3 ih
    · rw [if_pos ((rl_mvn hmv hn).mpr e), rl_mk h hw hk e, if_neg e, if_neg e]
      by_cases o : kx_own (kx_seat x w n b zb) w (8 * b + i)
      · rw [if_pos o, if_pos o]; exact rl_r1 ih
      · rw [if_neg o, if_neg o]; exact rl_r2 ih
theorem rl_pD_m {m : Int32} : ∀ i, ry_pD y s b m i = m + ry_pD y s b 0 i
  | 0 => (Int32.add_zero m).symm
  | i + 1 => by
    rw [ry_pD, ry_pD, rl_pD_m i]
    split
    · rfl
    · exact Int32.add_assoc _ _ _
/-- the marks of a band that is seated, in both -/
def rl_told (y : bd_M) (s n b zb : Nat) : Int32 := if (rl_Y y s n b zb zb).2.1 ≤ 3 then bd_mx 0 (ry_pD (rl_Y y s n b zb zb).1 s b (ry_m0 (ry_pA y s b zb) s b zb (rl_Y y s n b zb zb)) zb) else 0
theorem rl_marks (h : rl_H x w y s n b zb) (hw : rl_hw x w y) (h21 : x 21 w b = y 25 s b) : kx_mo (kx_seat x w n b zb) w n b zb = rl_told y s n b zb := by
  unfold kx_mo rl_told
  rw [rl_many h, rl_ms h hw zb (Nat.le_refl zb), rl_ownB h, rl_empty h, kx_seat_f (f := 21) (by decide) (by decide), h21]
  unfold ry_m0
  rw [rl_Y_f (f := 25) (by decide) (by decide) (by decide), rl_pD_m (m := ry_pB (ry_pA y s b zb) s b zb + y 25 s b / 5 - 5 * (rl_Y y s n b zb zb).2.2), rl_r4]
  by_cases c : (rl_Y y s n b zb zb).2.1 ≤ 3
  · rw [if_neg (fun q => q c), if_pos c]
  · rw [if_pos c, if_neg c]
end RLM
