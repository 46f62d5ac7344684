/-! THE START: what the tables' words and the premise give -/
section ST
variable {args : Array Value} {s : State}
theorem st_cls (hts : ∀ w ∈ wsL_law, w.before args s = true) : ∃ D : va_G, ∀ (c : Nat) (q : vw_C), vwCl[c]? = some q → u_Kn s q.1 q.2.1 q.2.2 (D.1 c) (D.2 c) := by
  obtain ⟨c0, i0, h0⟩ := u_known hts inlX0 (hts _ qa_X0)
  obtain ⟨c1, i1, h1⟩ := u_known hts inlX1 (hts _ qa_X1)
  obtain ⟨c2, i2, h2⟩ := u_known hts inlX2 (hts _ qa_X2)
  obtain ⟨c3, i3, h3⟩ := u_known hts inlX3 (hts _ qa_X3)
  obtain ⟨c4, i4, h4⟩ := u_known hts inlX4 (hts _ qa_X4)
  obtain ⟨c5, i5, h5⟩ := u_known hts inlX5 (hts _ qa_X5)
  obtain ⟨c6, i6, h6⟩ := u_known hts inlX6 (hts _ qa_X6)
  obtain ⟨c7, i7, h7⟩ := u_known hts inlX7 (hts _ qa_X7)
  refine ⟨(fun c => match c with | 0 => c0 | 1 => c1 | 2 => c2 | 3 => c3 | 4 => c4 | 5 => c5 | 6 => c6 | _ => c7, fun c => match c with | 0 => i0 | 1 => i1 | 2 => i2 | 3 => i3 | 4 => i4 | 5 => i5 | 6 => i6 | _ => i7), fun c q hq => ?_⟩
  match c, hq with
  | 0, hq => cases hq; exact h0
  | 1, hq => cases hq; exact h1
  | 2, hq => cases hq; exact h2
  | 3, hq => cases hq; exact h3
  | 4, hq => cases hq; exact h4
  | 5, hq => cases hq; exact h5
  | 6, hq => cases hq; exact h6
  | 7, hq => cases hq; exact h7
  | c + 8, hq => cases hq
theorem st_a1 {ty : FieldType} (h : (Cond.arrayClass ty).before args s = true) (ht : ty = .int ∨ ty = .long) : ∃ cA : ClassId, ArrOfT s cA ty ∧ va_RA s cA ty := by
  obtain ⟨cA, kA, comp, h1, h2, h3⟩ := Cond.arrayClass_spec h
  refine ⟨cA, fun n z => ⟨fun k h => (by cases h), kA, h2, comp, h3⟩, ?_⟩
  rcases ht with rfl | rfl <;> exact h1
theorem st_a2 {C : String} (h : (Cond.arrayOver (.object C)).before args s = true) : ∃ cA : ClassId, ArrOfT s cA (.object C) ∧ va_RA s cA (.object C) := by
  obtain ⟨comp, cA, kA, h1, -, h3, h4, h5⟩ := Cond.arrayOver_spec h
  exact ⟨cA, fun n z => ⟨fun k h => (by cases h), kA, h3, comp, h4⟩, kA, comp, h3, h4, h1, h5⟩
theorem st_N_t : ∀ w ∈ bd_N, w.onTables = true := by decide
theorem st_NM_t : ∀ w ∈ bd_NM, w.onTables = true := by decide
theorem st_E (hts : ∀ w ∈ lw_tbl, w.before args s = true) : ∃ E : bd_E, E.2.2.2.2 = s.heap.size ∧ bd_KK E s ∧ bd_AO s := by
  obtain ⟨D, hD⟩ := st_cls (fun w hw => hts w (la_wsL w hw))
  have o3 := hts _ (la_wAO _ List.mem_cons_self)
  have o0 := hts _ (la_wAO _ (List.mem_cons_of_mem _ List.mem_cons_self))
  have o1 := hts _ (la_wAO _ (List.mem_cons_of_mem _ (List.mem_cons_of_mem _ List.mem_cons_self)))
  obtain ⟨k0, a0⟩ := st_a1 (hts _ (la_wsL _ qy_int)) (Or.inl rfl)
  obtain ⟨k1, a1⟩ := st_a2 o3
  obtain ⟨k2, a2⟩ := st_a2 o0
  obtain ⟨k3, a3⟩ := st_a2 o1
  obtain ⟨k4, a4⟩ := st_a1 (hts _ (la_wsL _ qy_long)) (Or.inr rfl)
  refine ⟨(D.1, D.2, fun c => match c with | 0 => k0 | 1 => k1 | 2 => k2 | 3 => k3 | _ => k4, fun _ _ _ => 0, s.heap.size), rfl, ⟨⟨hD, fun k q hq => ?_⟩, fun w hw => va_Nw.of (st_N_t w hw) (hts w (la_wN w hw)), fun w hw => va_Nw.of (st_NM_t w hw) (hts w (la_wNM w hw))⟩, va_AO.of o3, va_AO.of o0, va_AO.of o1⟩
  match k, hq with
  | 0, hq => cases hq; exact a0
  | 1, hq => cases hq; exact a1
  | 2, hq => cases hq; exact a2
  | 3, hq => cases hq; exact a3
  | 4, hq => cases hq; exact a4
  | k + 5, hq => cases hq
theorem st_ZZ {A : Nat → Prop} (hts : ∀ w ∈ lw_tbl, w.before args s = true) (hA : ∀ a : Nat, a < s.heap.size → ¬ A a) (hgv : (Jvm.Cond.and given_1 narrow_1).before args s = true) : bd_ZZ A s s.heap := by
  have hs := flat_of_before _ hgv
  have r1 : (Cond.isRef (.static Bundle.tN "UNASSIGNED_STACK" Bundle.steD)).before args s = true := hs _ (by decide +kernel)
  have r2 : (Cond.isRef (.static Bundle.tN "SUPPRESSED_SENTINEL" Bundle.listD)).before args s = true := hs _ (by decide +kernel)
  have w1 := hts _ (la_wS _ List.mem_cons_self)
  have w2 := hts _ (la_wS _ (List.mem_cons_of_mem _ List.mem_cons_self))
  have w3 := hts _ (la_wS _ (List.mem_cons_of_mem _ (List.mem_cons_of_mem _ List.mem_cons_self)))
  refine ⟨vx_Zqof w1 w3 r1 hA, vx_Zqof w2 w3 r2 hA, fun w hw => va_Nw.of (bd_BX_t w hw) (hts w (la_wBX w hw)), fun q hq => ?_⟩
  have hm : ∀ q ∈ bd_strs, Cond.exactly (.string RX5 q.1) "java/lang/String" ∈ flatC (Jvm.Cond.and given_1 narrow_1) := by decide +kernel
  obtain ⟨a, c, cell, k, h1, -⟩ := Cond.exactly_spec (hs _ (hm q hq))
  have h2 := hts _ (la_wR q hq)
  exact ⟨a, vk_R.of (A := args) h2 h1⟩
theorem st_NC (hgv : (Jvm.Cond.and given_1 narrow_1).before args s = true) : bd_NC s := by
  have hs := flat_of_before _ hgv
  exact ⟨va_Nc.of (hs _ (by decide +kernel)), va_Nc.of (hs _ (by decide +kernel)), va_Nc.of (hs _ (by decide +kernel))⟩
theorem st_fl {l : Launch} (h : l.flags = flags0) : l.stackTraces = false := by
  unfold Launch.stackTraces
  rw [h]
  decide +kernel
end ST
