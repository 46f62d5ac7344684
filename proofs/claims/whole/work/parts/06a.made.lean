/-! WHAT IS MADE SO FAR: cells by their names, at addresses that come one by one -/
def cw_W (E : bd_E) (P : Nat → Nat → Nat → Bool) (ad : Nat → Nat → Nat → Nat) (ce : Nat → Nat → Nat → va_E) (H : Heap) : Prop :=
  (∀ f w k, P f w k = true → bd_dm f w k) ∧ (∀ f w k, P f w k = true → bd_A E (ad f w k)) ∧ (∀ f w k f' w' k', P f w k = true → P f' w' k' = true → ad f w k = ad f' w' k' → f = f' ∧ w = w' ∧ k = k') ∧ ∀ f w k, P f w k = true → va_at (bd_eD E) vwCl (ad f w k, ce f w k) H
def cw_in (P : Nat → Nat → Nat → Bool) (f w k : Nat) : Nat → Nat → Nat → Bool := fun f' w' k' => P f' w' k' || decide (f' = f ∧ w' = w ∧ k' = k)
def cw_ua (ad : Nat → Nat → Nat → Nat) (f w k q : Nat) : Nat → Nat → Nat → Nat := fun f' w' k' => if f' = f ∧ w' = w ∧ k' = k then q else ad f' w' k'
def cw_up (ce : Nat → Nat → Nat → va_E) (f w k : Nat) (e : va_E) : Nat → Nat → Nat → va_E := fun f' w' k' => if f' = f ∧ w' = w ∧ k' = k then e else ce f' w' k'
def cw_ix (P : Nat → Nat → Nat → Bool) : List (Nat × Nat × Nat) := bd_idx.filter (fun q => P q.1 q.2.1 q.2.2)
def cw_ws (P : Nat → Nat → Nat → Bool) (ad : Nat → Nat → Nat → Nat) (ce : Nat → Nat → Nat → va_E) : va_W := (cw_ix P).map (fun q => (ad q.1 q.2.1 q.2.2, ce q.1 q.2.1 q.2.2))
theorem cw_up_s {ce : Nat → Nat → Nat → va_E} {f w k : Nat} {e : va_E} : cw_up ce f w k e f w k = e := if_pos ⟨rfl, rfl, rfl⟩
theorem cw_up_n {ce : Nat → Nat → Nat → va_E} {f w k f' w' k' : Nat} {e : va_E} (h : ¬ (f' = f ∧ w' = w ∧ k' = k)) : cw_up ce f w k e f' w' k' = ce f' w' k' := if_neg h
theorem cw_ua_s {ad : Nat → Nat → Nat → Nat} {f w k q : Nat} : cw_ua ad f w k q f w k = q := if_pos ⟨rfl, rfl, rfl⟩
theorem cw_ua_n {ad : Nat → Nat → Nat → Nat} {f w k q f' w' k' : Nat} (h : ¬ (f' = f ∧ w' = w ∧ k' = k)) : cw_ua ad f w k q f' w' k' = ad f' w' k' := if_neg h
theorem cw_in_o {P : Nat → Nat → Nat → Bool} {f w k f' w' k' : Nat} (h : P f' w' k' = true) : cw_in P f w k f' w' k' = true := by simp [cw_in, h]
theorem cw_in_s {P : Nat → Nat → Nat → Bool} {f w k : Nat} : cw_in P f w k f w k = true := by simp [cw_in]
theorem cw_in_of {P : Nat → Nat → Nat → Bool} {f w k f' w' k' : Nat} (h : cw_in P f w k f' w' k' = true) : P f' w' k' = true ∨ (f' = f ∧ w' = w ∧ k' = k) := by
  simp only [cw_in, Bool.or_eq_true, decide_eq_true_eq] at h
  exact h
section CW
variable {E : bd_E} {P : Nat → Nat → Nat → Bool} {ad ad' : Nat → Nat → Nat → Nat} {ce ce' : Nat → Nat → Nat → va_E} {H H1 : Heap} {f w k : Nat}
theorem cw_mem (h : cw_W E P ad ce H) {q : Nat × Nat × Nat} : q ∈ cw_ix P ↔ P q.1 q.2.1 q.2.2 = true := by
  rw [cw_ix, List.mem_filter]
  exact ⟨fun a => a.2, fun a => ⟨bd_mem.mpr (h.1 _ _ _ a), a⟩⟩
theorem cw_ws_of (h : cw_W E P ad ce H) {i : Nat} {x : Nat × va_E} (hx : (cw_ws P ad ce)[i]? = some x) : ∃ f w k, (cw_ix P)[i]? = some (f, w, k) ∧ P f w k = true ∧ x = (ad f w k, ce f w k) := by
  simp only [cw_ws, List.getElem?_map, Option.map_eq_some_iff] at hx
  obtain ⟨⟨f, w, k⟩, h1, h2⟩ := hx
  exact ⟨f, w, k, h1, (cw_mem h).mp (List.mem_of_getElem? h1), h2.symm⟩
theorem cw_pos (h : cw_W E P ad ce H) (hp : P f w k = true) : ∃ i : Nat, (cw_ix P)[i]? = some (f, w, k) ∧ (cw_ws P ad ce)[i]? = some (ad f w k, ce f w k) := by
  obtain ⟨i, hi⟩ := List.getElem?_of_mem ((cw_mem h (q := (f, w, k))).mpr hp)
  exact ⟨i, hi, by simp [cw_ws, hi]⟩
theorem cw_W.toP (h : cw_W E P ad ce H) : va_P (bd_eD E) vwCl (cw_ws P ad ce) H := by
  intro i x hx
  obtain ⟨f, w, k, -, h2, rfl⟩ := cw_ws_of h hx
  exact h.2.2.2 f w k h2
theorem cw_W.toD (h : cw_W E P ad ce H) : va_D (bd_A E) (cw_ws P ad ce) := by
  refine ⟨fun i j x y hx hy hxy => ?_, fun i x hx => ?_⟩
  · obtain ⟨f, w, k, a1, a2, rfl⟩ := cw_ws_of h hx
    obtain ⟨f', w', k', b1, b2, rfl⟩ := cw_ws_of h hy
    obtain ⟨rfl, rfl, rfl⟩ := h.2.2.1 f w k f' w' k' a2 b2 hxy
    exact (List.getElem?_inj (List.getElem?_eq_some_iff.mp a1).1 (bd_nodup.filter _)).mp (a1.trans b1.symm)
  · obtain ⟨f, w, k, -, h2, rfl⟩ := cw_ws_of h hx
    exact h.2.1 f w k h2
theorem cw_W.eq (h : cw_W E P ad ce H) (he : ∀ f w k, P f w k = true → ce f w k = ce' f w k) : cw_W E P ad ce' H := ⟨h.1, h.2.1, h.2.2.1, fun f w k hp => by rw [← he f w k hp]; exact h.2.2.2 f w k hp⟩
theorem cw_W.lt (h : cw_W E P ad ce H) (hp : P f w k = true) : ad f w k < H.size := (h.2.2.2 f w k hp).lt
theorem cw_back {i : Nat} {e : va_E} (h : cw_W E P ad ce H) (hp : P f w k = true) (hi : (cw_ix P)[i]? = some (f, w, k)) (hP : va_P (bd_eD E) vwCl ((cw_ws P ad ce).set i (ad f w k, e)) H1) : cw_W E P ad (cw_up ce f w k e) H1 := by
  refine ⟨h.1, h.2.1, h.2.2.1, fun f' w' k' hq => ?_⟩
  have hl : i < (cw_ws P ad ce).length := by rw [cw_ws, List.length_map]; exact (List.getElem?_eq_some_iff.mp hi).1
  by_cases hc : f' = f ∧ w' = w ∧ k' = k
  · obtain ⟨rfl, rfl, rfl⟩ := hc
    rw [cw_up_s]
    exact hP i _ (List.getElem?_set_self hl)
  · rw [cw_up_n hc]
    obtain ⟨j, hj, hj2⟩ := cw_pos h hq
    refine hP j _ ?_
    rw [List.getElem?_set_ne, hj2]
    intro e1
    subst e1
    rw [hi] at hj
    cases hj
    exact hc ⟨rfl, rfl, rfl⟩
theorem cw_push {q : Nat} {e : va_E} (h : cw_W E P ad ce H) (hn : ¬ P f w k = true) (hd : bd_dm f w k) (hP : va_P (bd_eD E) vwCl (cw_ws P ad ce ++ [(q, e)]) H1) (hD : va_D (bd_A E) (cw_ws P ad ce ++ [(q, e)])) : cw_W E (cw_in P f w k) (cw_ua ad f w k q) (cw_up ce f w k e) H1 := by
  have hlast : (cw_ws P ad ce ++ [(q, e)])[(cw_ws P ad ce).length]? = some (q, e) := by rw [List.getElem?_append_right (Nat.le_refl _), Nat.sub_self]; rfl
  have hold : ∀ f' w' k', P f' w' k' = true → ¬ (f' = f ∧ w' = w ∧ k' = k) := fun f' w' k' hp hc => by
    obtain ⟨rfl, rfl, rfl⟩ := hc
    exact hn hp
  have hpos : ∀ f' w' k', P f' w' k' = true → ∃ j, j < (cw_ws P ad ce).length ∧ (cw_ws P ad ce ++ [(q, e)])[j]? = some (ad f' w' k', ce f' w' k') := fun f' w' k' hp => by
    obtain ⟨j, -, hj2⟩ := cw_pos h hp
    have hl := (List.getElem?_eq_some_iff.mp hj2).1
    exact ⟨j, hl, by rw [List.getElem?_append_left hl]; exact hj2⟩
  have hne : ∀ f' w' k', P f' w' k' = true → ad f' w' k' ≠ q := fun f' w' k' hp he => by
    obtain ⟨j, hl, hj⟩ := hpos f' w' k' hp
    have := hD.1 j _ _ _ hj hlast he
    omega
  refine ⟨fun f' w' k' hp => ?_, fun f' w' k' hp => ?_, fun f' w' k' f2 w2 k2 hp hp2 he => ?_, fun f' w' k' hp => ?_⟩
  · rcases cw_in_of hp with h1 | ⟨rfl, rfl, rfl⟩
    · exact h.1 _ _ _ h1
    · exact hd
  · rcases cw_in_of hp with h1 | ⟨rfl, rfl, rfl⟩
    · rw [cw_ua_n (hold _ _ _ h1)]; exact h.2.1 _ _ _ h1
    · rw [cw_ua_s]; exact hD.2 _ _ hlast
  · rcases cw_in_of hp with h1 | h1
    · rcases cw_in_of hp2 with h2 | h2
      · rw [cw_ua_n (hold _ _ _ h1), cw_ua_n (hold _ _ _ h2)] at he
        exact h.2.2.1 _ _ _ _ _ _ h1 h2 he
      · obtain ⟨rfl, rfl, rfl⟩ := h2
        rw [cw_ua_n (hold _ _ _ h1), cw_ua_s] at he
        exact absurd he (hne _ _ _ h1)
    · rcases cw_in_of hp2 with h2 | h2
      · obtain ⟨rfl, rfl, rfl⟩ := h1
        rw [cw_ua_s, cw_ua_n (hold _ _ _ h2)] at he
        exact absurd he.symm (hne _ _ _ h2)
      · exact ⟨h1.1.trans h2.1.symm, h1.2.1.trans h2.2.1.symm, h1.2.2.trans h2.2.2.symm⟩
  · rcases cw_in_of hp with h1 | ⟨rfl, rfl, rfl⟩
    · rw [cw_ua_n (hold _ _ _ h1), cw_up_n (hold _ _ _ h1)]
      obtain ⟨j, -, hj⟩ := hpos _ _ _ h1
      exact hP j _ hj
    · rw [cw_ua_s, cw_up_s]
      exact hP _ _ hlast
end CW
