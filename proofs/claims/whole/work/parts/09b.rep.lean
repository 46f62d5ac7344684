/-! THE WORLD AT THE LOOP'S START -/
section SR
abbrev st_P1 : Nat → Nat → Nat → Bool := cw_P5 (cw_in (fun _ _ _ => false) 0 0 0) 2
abbrev st_P2 : Nat → Nat → Nat → Bool := cw_P7 (cw_in st_P1 12 0 0)
theorem st_all : ∀ q ∈ bd_idx, cw_in st_P2 30 0 0 q.1 q.2.1 q.2.2 = true := by decide +kernel
theorem st_kind : ∀ q ∈ bd_idx, (q.1 = 0 ∧ q.2.1 = 0 ∧ q.2.2 = 0) ∨ (1 ≤ q.1 ∧ q.1 ≤ 11 ∧ q.2.1 < 2 ∧ cw_n5 q.1 q.2.2) ∨ (12 ≤ q.1 ∧ q.1 ≤ 29 ∧ (q.2.1 = 0 ∨ (q.2.1 = 1 ∧ 18 ≤ q.1)) ∧ q.2.2 = 0) ∨ (q.1 = 30 ∧ q.2.1 = 0 ∧ q.2.2 = 0) := by decide +kernel
theorem st_c30 {E : bd_E} {a : Nat → Nat → Nat → Nat} {q f w k : Nat} (h1 : 12 ≤ f) (h2 : f ≤ 29) : cw_c0 E a f w k = cw_c0 E (cw_ua a 30 0 0 q) f w k := by
  obtain rfl | rfl | rfl | rfl | rfl | rfl | rfl | rfl | rfl | rfl | rfl | rfl | rfl | rfl | rfl | rfl | rfl | rfl : f = 12 ∨ f = 13 ∨ f = 14 ∨ f = 15 ∨ f = 16 ∨ f = 17 ∨ f = 18 ∨ f = 19 ∨ f = 20 ∨ f = 21 ∨ f = 22 ∨ f = 23 ∨ f = 24 ∨ f = 25 ∨ f = 26 ∨ f = 27 ∨ f = 28 ∨ f = 29 := by omega
  all_goals rfl
theorem st_rep {E : bd_E} {ad1 ad2 : Nat → Nat → Nat → Nat} {ce0 : Nat → Nat → Nat → va_E} {a12 a30 : Nat} {e12 : va_E} {H : Heap}
    (hag : ∀ f w k, cw_in st_P1 12 0 0 f w k = true → ad2 f w k = cw_ua ad1 12 0 0 a12 f w k)
    (hW : cw_W E (cw_in st_P2 30 0 0) (cw_ua ad2 30 0 0 a30) (cw_up (cw_F7 E (cw_up (cw_F5 E ce0 ad1) 12 0 0 e12) ad2) 30 0 0 (.inl (bd_eK E 4, 1, .inr (.inl (fun _ => 0))))) H) :
    bd_Rep (cw_E E (cw_ua ad2 30 0 0 a30)) kx_0 ry_0 (fun _ => 0) H := by
  have hP : ∀ f w k, bd_dm f w k → cw_in st_P2 30 0 0 f w k = true := fun f w k hd => st_all (f, w, k) (bd_mem.mpr hd)
  have hA : ∀ f w k, w < 2 → cw_n5 f k → cw_ua ad2 30 0 0 a30 f w k = ad1 f w k := fun f w k hw hn => by
    have h30 : ¬ (f = 30 ∧ w = 0 ∧ k = 0) := by omega
    have h12 : ¬ (f = 12 ∧ w = 0 ∧ k = 0) := by omega
    rw [cw_ua_n h30, hag f w k (cw_in_o (cw_P5_of.mpr (Or.inr ⟨hw, hn⟩))), cw_ua_n h12]
  refine ⟨fun f w k f' w' k' h1 h2 he => hW.2.2.1 f w k f' w' k' (hP _ _ _ h1) (hP _ _ _ h2) he, fun f w k h1 => hW.2.1 f w k (hP _ _ _ h1), fun f w k h1 => ?_⟩
  have h2 := hW.2.2.2 f w k (hP _ _ _ h1)
  show va_at (bd_eD E) vwCl (cw_ua ad2 30 0 0 a30 f w k, cw_c0 E (cw_ua ad2 30 0 0 a30) f w k) H
  rcases st_kind (f, w, k) (bd_mem.mpr h1) with h | h | h | h
  · obtain ⟨rfl, rfl, rfl⟩ : f = 0 ∧ w = 0 ∧ k = 0 := h
    rw [cw_up_n (by omega)] at h2
    unfold cw_F7 at h2
    rw [if_neg (by omega), cw_up_n (by omega)] at h2
    unfold cw_F5 at h2
    rw [if_pos (Or.inl ⟨rfl, rfl, rfl⟩)] at h2
    have e : cw_c0 E ad1 0 0 0 = cw_c0 E (cw_ua ad2 30 0 0 a30) 0 0 0 := by
      show (Sum.inr (5, [.ref (ad1 2 0 0), .ref (ad1 1 0 0), .ref (ad1 2 1 0), .ref (ad1 1 1 0)]) : va_E) = Sum.inr (5, [.ref (cw_ua ad2 30 0 0 a30 2 0 0), .ref (cw_ua ad2 30 0 0 a30 1 0 0), .ref (cw_ua ad2 30 0 0 a30 2 1 0), .ref (cw_ua ad2 30 0 0 a30 1 1 0)])
      rw [hA 1 0 0 (by decide) (Or.inl ⟨Or.inl rfl, rfl⟩), hA 2 0 0 (by decide) (Or.inl ⟨Or.inr rfl, rfl⟩), hA 1 1 0 (by decide) (Or.inl ⟨Or.inl rfl, rfl⟩), hA 2 1 0 (by decide) (Or.inl ⟨Or.inr rfl, rfl⟩)]
    rw [← e]; exact h2
  · obtain ⟨q1, q2, q3, q4⟩ : 1 ≤ f ∧ f ≤ 11 ∧ w < 2 ∧ cw_n5 f k := h
    rw [cw_up_n (by omega)] at h2
    unfold cw_F7 at h2
    rw [if_neg (by omega), cw_up_n (by omega)] at h2
    unfold cw_F5 at h2
    rw [if_pos (Or.inr ⟨q3, q4⟩)] at h2
    exact cw_c0_a5 (fun f k hn => hA f w k q3 hn) q4 _ _ h2
  · have h : 12 ≤ f ∧ f ≤ 29 ∧ (w = 0 ∨ (w = 1 ∧ 18 ≤ f)) ∧ k = 0 := h
    rw [cw_up_n (by omega)] at h2
    unfold cw_F7 at h2
    rw [if_pos h, st_c30 h.1 h.2.1] at h2
    exact h2
  · obtain ⟨rfl, rfl, rfl⟩ : f = 30 ∧ w = 0 ∧ k = 0 := h
    rw [cw_up_s] at h2
    exact h2
end SR
