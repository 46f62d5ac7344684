/-! THE WORLD: the class's objects and the reference's, at addresses that never change, over two memories of ints.
xm: the class's memory (field, season, place), ym: the reference's, om: the law's row of one long. -/
abbrev bd_M : Type := Nat → Nat → Nat → Int32
def bd_up (x : bd_M) (f w k : Nat) (v : Int32) : bd_M := fun f' w' k' => if f' = f ∧ w' = w ∧ k' = k then v else x f' w' k'
/-- classes' numbers, places of the fields, classes of the arrays, addresses, the heap's size at the law's start -/
abbrev bd_E : Type := (Nat → ClassId) × (Nat → Nat → Nat) × (Nat → ClassId) × (Nat → Nat → Nat → Nat) × Nat
abbrev bd_eD (E : bd_E) : va_G := (E.1, E.2.1)
abbrev bd_eK (E : bd_E) : Nat → ClassId := E.2.2.1
abbrev bd_ea (E : bd_E) : Nat → Nat → Nat → Nat := E.2.2.2.1
abbrev bd_A (E : bd_E) : Nat → Prop := fun q => E.2.2.2.2 ≤ q
abbrev bd_ty (E : bd_E) : List (ClassId × FieldType) := [(bd_eK E 0, .int), (bd_eK E 1, .object "BandDay$Player"), (bd_eK E 2, .object "BandDay$Band"), (bd_eK E 3, .object "BandDay$Chair"), (bd_eK E 4, .long)]
abbrev bd_iA (E : bd_E) (n : Nat) (f : Nat → Int32) : va_E := .inl (bd_eK E 0, n, .inl f)
abbrev bd_rA (E : bd_E) (t n : Nat) (f : Nat → Option Nat) : va_E := .inl (bd_eK E t, n, .inr (.inr (.inr (.inr f))))
/-- what stands in the cell k of the family f of the season w -/
def bd_ce (E : bd_E) (xm ym : bd_M) (om : Nat → Int64) : Nat → Nat → Nat → va_E
  | 0, _, _ => .inr (5, [.ref (bd_ea E 2 0 0), .ref (bd_ea E 1 0 0), .ref (bd_ea E 2 1 0), .ref (bd_ea E 1 1 0)])
  | 1, w, _ => .inr (4, [.ref (bd_ea E 3 w 0), .ref (bd_ea E 4 w 0), .ref (bd_ea E 5 w 0), .ref (bd_ea E 6 w 0), .int (xm 30 w 0), .int (xm 31 w 0), .int (xm 32 w 0), .int (xm 33 w 0), .int (xm 34 w 0)])
  | 2, w, _ => .inr (2, [.ref (bd_ea E 1 w 0)])
  | 3, w, _ => bd_rA E 1 24 (fun j => some (bd_ea E 7 w j))
  | 4, w, _ => bd_rA E 2 6 (fun j => some (bd_ea E 9 w j))
  | 5, w, _ => bd_iA E 4 (fun j => xm 35 w j)
  | 6, w, _ => bd_iA E 4 (fun j => xm 36 w j)
  | 7, w, k => .inr (3, [.ref (bd_ea E 8 w k), .int (xm 0 w k), .int (xm 1 w k), .int (xm 2 w k), .int (xm 3 w k), .int (xm 4 w k), .int (xm 5 w k), .int (xm 6 w k), .int (xm 7 w k)])
  | 8, w, k => bd_iA E 4 (fun j => xm (j + 1000) w k)
  | 9, w, k => .inr (0, [.ref (bd_ea E 10 w k), .int (xm 20 w k), .int (xm 21 w k), .int (xm 22 w k), .int (xm 23 w k), .int (xm 24 w k), .int (xm 25 w k), .int (xm 26 w k), .int (xm 27 w k)])
  | 10, w, k => bd_rA E 3 8 (fun j => some (bd_ea E 11 w (8 * k + j)))
  | 11, w, k => .inr (1, [.int (xm 10 w k), .int (xm 11 w k), .int (xm 12 w k)])
  | 12, _, _ => .inr (7, [.int (ym 0 0 0), .int (ym 1 0 0), .ref (bd_ea E 13 0 0), .int (ym 2 0 0), .ref (bd_ea E 14 0 0), .ref (bd_ea E 15 0 0), .ref (bd_ea E 16 0 0), .ref (bd_ea E 17 0 0), .ref (bd_ea E 18 0 0), .ref (bd_ea E 18 1 0)])
  | 13, w, _ => bd_iA E 96 (fun j => ym 13 w j)
  | 14, w, _ => bd_iA E 6 (fun j => ym 14 w j)
  | 15, w, _ => bd_iA E 48 (fun j => ym 15 w j)
  | 16, w, _ => bd_iA E 4 (fun j => ym 16 w j)
  | 17, w, _ => bd_iA E 4 (fun j => ym 17 w j)
  | 18, w, _ => .inr (6, [.int (ym 10 w 0), .int (ym 11 w 0), .int (ym 12 w 0), .ref (bd_ea E 19 w 0), .ref (bd_ea E 20 w 0), .ref (bd_ea E 21 w 0), .ref (bd_ea E 22 w 0), .ref (bd_ea E 23 w 0), .ref (bd_ea E 24 w 0), .ref (bd_ea E 25 w 0), .ref (bd_ea E 26 w 0), .ref (bd_ea E 27 w 0), .ref (bd_ea E 28 w 0), .ref (bd_ea E 29 w 0), .ref (bd_ea E 12 0 0)])
  | 19, w, _ => bd_iA E 24 (fun j => ym 19 w j)
  | 20, w, _ => bd_iA E 24 (fun j => ym 20 w j)
  | 21, w, _ => bd_iA E 24 (fun j => ym 21 w j)
  | 22, w, _ => bd_iA E 24 (fun j => ym 22 w j)
  | 23, w, _ => bd_iA E 48 (fun j => ym 23 w j)
  | 24, w, _ => bd_iA E 48 (fun j => ym 24 w j)
  | 25, w, _ => bd_iA E 6 (fun j => ym 25 w j)
  | 26, w, _ => bd_iA E 6 (fun j => ym 26 w j)
  | 27, w, _ => bd_iA E 6 (fun j => ym 27 w j)
  | 28, w, _ => bd_iA E 24 (fun j => ym 28 w j)
  | 29, w, _ => bd_iA E 24 (fun j => ym 29 w j)
  | _, _, _ => .inl (bd_eK E 4, 1, .inr (.inl om))
/-- how many seasons a family has, and how many cells in each -/
def bd_wN : Nat → Nat
  | 0 | 12 | 13 | 14 | 15 | 16 | 17 | 30 => 1
  | _ => 2
def bd_kN : Nat → Nat
  | 7 | 8 => 24
  | 9 | 10 => 6
  | 11 => 48
  | _ => 1
def bd_dm (f w k : Nat) : Prop := f < 31 ∧ w < bd_wN f ∧ k < bd_kN f
def bd_idx : List (Nat × Nat × Nat) := (List.range 31).flatMap (fun f => (List.range (bd_wN f)).flatMap (fun w => (List.range (bd_kN f)).map (fun k => (f, w, k))))
def bd_ws (E : bd_E) (xm ym : bd_M) (om : Nat → Int64) : va_W := bd_idx.map (fun q => (bd_ea E q.1 q.2.1 q.2.2, bd_ce E xm ym om q.1 q.2.1 q.2.2))
def bd_Inj (E : bd_E) : Prop := ∀ f w k f' w' k', bd_dm f w k → bd_dm f' w' k' → bd_ea E f w k = bd_ea E f' w' k' → f = f' ∧ w = w' ∧ k = k'
def bd_Rep (E : bd_E) (xm ym : bd_M) (om : Nat → Int64) (H : Heap) : Prop := bd_Inj E ∧ (∀ f w k, bd_dm f w k → bd_A E (bd_ea E f w k)) ∧ ∀ f w k, bd_dm f w k → va_at (bd_eD E) vwCl (bd_ea E f w k, bd_ce E xm ym om f w k) H
theorem bd_mem {f w k : Nat} : (f, w, k) ∈ bd_idx ↔ bd_dm f w k := by
  simp only [bd_idx, bd_dm, List.mem_flatMap, List.mem_map, List.mem_range, Prod.mk.injEq]
  refine ⟨fun ⟨a, h1, b, h2, d, h3, e1, e2, e3⟩ => ?_, fun ⟨h1, h2, h3⟩ => ⟨f, h1, w, h2, k, h3, rfl, rfl, rfl⟩⟩
  subst e1; subst e2; subst e3
  exact ⟨h1, h2, h3⟩
theorem bd_pos {f w k : Nat} (h : bd_dm f w k) : ∃ q : Nat, bd_idx[q]? = some (f, w, k) := List.getElem?_of_mem (bd_mem.mpr h)
theorem bd_ws_at {E : bd_E} {xm ym : bd_M} {om : Nat → Int64} {q f w k : Nat} (h : bd_idx[q]? = some (f, w, k)) : (bd_ws E xm ym om)[q]? = some (bd_ea E f w k, bd_ce E xm ym om f w k) := by
  simp [bd_ws, h]
theorem bd_ws_of {E : bd_E} {xm ym : bd_M} {om : Nat → Int64} {q : Nat} {z : Nat × va_E} (h : (bd_ws E xm ym om)[q]? = some z) : ∃ f w k, bd_idx[q]? = some (f, w, k) ∧ bd_dm f w k ∧ z = (bd_ea E f w k, bd_ce E xm ym om f w k) := by
  simp only [bd_ws, List.getElem?_map, Option.map_eq_some_iff] at h
  obtain ⟨⟨f, w, k⟩, h1, h2⟩ := h
  exact ⟨f, w, k, h1, bd_mem.mp (List.mem_of_getElem? h1), h2.symm⟩
theorem bd_nodup : bd_idx.Nodup := by decide +kernel
theorem bd_Rep.P {E : bd_E} {xm ym : bd_M} {om : Nat → Int64} {H : Heap} (h : bd_Rep E xm ym om H) : va_P (bd_eD E) vwCl (bd_ws E xm ym om) H := by
  intro q z hz
  obtain ⟨f, w, k, -, h2, rfl⟩ := bd_ws_of hz
  exact h.2.2 f w k h2
theorem bd_Rep.D {E : bd_E} {xm ym : bd_M} {om : Nat → Int64} {H : Heap} (h : bd_Rep E xm ym om H) : va_D (bd_A E) (bd_ws E xm ym om) := by
  refine ⟨fun i j p q hp hq hpq => ?_, fun k q hk => ?_⟩
  · obtain ⟨f, w, k, a1, a2, rfl⟩ := bd_ws_of hp
    obtain ⟨f', w', k', b1, b2, rfl⟩ := bd_ws_of hq
    obtain ⟨rfl, rfl, rfl⟩ := h.1 f w k f' w' k' a2 b2 hpq
    exact (List.getElem?_inj (List.getElem?_eq_some_iff.mp a1).1 bd_nodup).mp (a1.trans b1.symm)
  · obtain ⟨f, w, k', -, h2, rfl⟩ := bd_ws_of hk
    exact h.2.1 f w k' h2
/-- one cell of the world becomes another one, and the others stay -/
def bd_Up (E : bd_E) (xm ym : bd_M) (om : Nat → Int64) (xm' ym' : bd_M) (om' : Nat → Int64) (f w k : Nat) (e : va_E) : Prop := bd_ce E xm' ym' om' f w k = e ∧ ∀ f' w' k', bd_dm f' w' k' → ¬ (f' = f ∧ w' = w ∧ k' = k) → bd_ce E xm' ym' om' f' w' k' = bd_ce E xm ym om f' w' k'
theorem bd_back {E : bd_E} {xm ym xm' ym' : bd_M} {om om' : Nat → Int64} {H H1 : Heap} {f w k q : Nat} {e : va_E} (h : bd_Rep E xm ym om H) (hq : bd_idx[q]? = some (f, w, k)) (hU : bd_Up E xm ym om xm' ym' om' f w k e)
    (hP : va_P (bd_eD E) vwCl ((bd_ws E xm ym om).set q (bd_ea E f w k, e)) H1) : bd_Rep E xm' ym' om' H1 := by
  refine ⟨h.1, h.2.1, fun f' w' k' hd => ?_⟩
  have hl : q < (bd_ws E xm ym om).length := by rw [bd_ws, List.length_map]; exact (List.getElem?_eq_some_iff.mp hq).1
  by_cases hc : f' = f ∧ w' = w ∧ k' = k
  · obtain ⟨rfl, rfl, rfl⟩ := hc
    rw [hU.1]
    exact hP q _ (List.getElem?_set_self hl)
  · rw [hU.2 f' w' k' hd hc]
    obtain ⟨q', hq'⟩ := bd_pos hd
    refine hP q' _ ?_
    rw [List.getElem?_set_ne, bd_ws_at hq']
    intro e1
    subst e1
    rw [hq] at hq'
    cases hq'
    exact hc ⟨rfl, rfl, rfl⟩
theorem bd_Rep.kept {E : bd_E} {xm ym : bd_M} {om : Nat → Int64} {H H1 : Heap} (h : bd_Rep E xm ym om H) (hk : ∀ q : Nat, q < H.size → H1[q]? = H[q]?) : bd_Rep E xm ym om H1 := ⟨h.1, h.2.1, fun f w k hd => (h.2.2 f w k hd).kept (hk _ (h.2.2 f w k hd).lt)⟩
theorem bd_Rep.lt {E : bd_E} {xm ym : bd_M} {om : Nat → Int64} {H : Heap} (h : bd_Rep E xm ym om H) {f w k : Nat} (hd : bd_dm f w k) : bd_ea E f w k < H.size := (h.2.2 f w k hd).lt
theorem bd_Rep.sz {E : bd_E} {xm ym : bd_M} {om : Nat → Int64} {H : Heap} (h : bd_Rep E xm ym om H) : E.2.2.2.2 ≤ H.size := Nat.le_of_lt (Nat.lt_of_le_of_lt (h.2.1 0 0 0 ⟨by decide, by decide, by decide⟩) (h.lt (f := 0) (w := 0) (k := 0) ⟨by decide, by decide, by decide⟩))
/-- the links among nest mates -/
def bd_N : List Cond := [.fieldLinkNest RX7 101 RX6 "tired" "[I" RX7, .fieldLinkNest RX7 104 RX6 "sat" "[I" RX7, .fieldLinkNest RX7 107 RX6 "deputy" "[I" RX7, .fieldLinkNest RX7 116 RX6 "points" "[I" RX7, .fieldLinkNest RX7 119 RX6 "outs" "[I" RX7, .fieldLinkNest RX7 132 RX6 "contests" "I" RX7, .fieldLinkNest RX7 135 RX6 "deputies" "I" RX7, .fieldLinkNest RX7 138 RX6 "empties" "I" RX7, .fieldLinkNest RX7 66 RX6 "member" "[I" RX7, .fieldLinkNest RX7 69 RX6 "who" "[I" RX7, .fieldLinkNest RX7 72 RX6 "latest" "[I" RX7, .fieldLinkNest RX7 89 RX6 "absent" "[I" RX7, .fieldLinkNest RX7 92 RX6 "spirit" "[I" RX7, .fieldLinkNest RX6 103 RX7 "bands" "I" RX7, .fieldLinkNest RX6 69 RX7 "seats" "[I" RX7, .fieldLinkNest RX6 72 RX7 "instrument" "[I" RX7, .fieldLinkNest RX6 75 RX7 "skill" "[I" RX7, .fieldLinkNest RX6 78 RX7 "players" "I" RX7, .fieldLinkNest RX6 89 RX7 "weight" "[I" RX7, .fieldLinkNest RX6 92 RX7 "hard" "[I" RX7]
def bd_NM : List Cond := [.methodLinkNest RX0 30 yX1_init "BandDay", .methodLinkNest RX4 30 yX3_init "BandDay", .methodLinkNest RX7 27 yX6_init "BandDayModel", .methodLinkNest RX5 9 yX2_init "BandDay"]
def bd_KK (E : bd_E) (U : State) : Prop := va_K (bd_eD E) vwCl (bd_ty E) U ∧ (∀ w ∈ bd_N, va_Nw w U) ∧ (∀ w ∈ bd_NM, va_Nw w U)
theorem bd_KK.warm {E : bd_E} {s U : State} (hW : s.WarmedH U.vm) (h : bd_KK E s) : bd_KK E U := by
  refine ⟨va_K.moved hW.alike h.1, fun w hw => ?_, fun w hw => ?_⟩
  · have h2 := h.2.1 w hw
    simp only [bd_N, List.mem_cons, List.not_mem_nil, or_false] at hw
    rcases hw with rfl | rfl | rfl | rfl | rfl | rfl | rfl | rfl | rfl | rfl | rfl | rfl | rfl | rfl | rfl | rfl | rfl | rfl | rfl | rfl <;> exact va_Nw.warmF hW h2
  · have h2 := h.2.2 w hw
    simp only [bd_NM, List.mem_cons, List.not_mem_nil, or_false] at hw
    rcases hw with rfl | rfl | rfl | rfl <;> exact va_Nw.warmM hW h2
theorem bd_KK.same {E : bd_E} {s U : State} (hv : s.vm = U.vm) (h : bd_KK E s) : bd_KK E U := by
  refine ⟨va_K.moved (by rw [← hv]; exact Vm.Alike.refl _) h.1, fun w hw => ?_, fun w hw => ?_⟩
  · have h2 := h.2.1 w hw
    simp only [bd_N, List.mem_cons, List.not_mem_nil, or_false] at hw
    rcases hw with rfl | rfl | rfl | rfl | rfl | rfl | rfl | rfl | rfl | rfl | rfl | rfl | rfl | rfl | rfl | rfl | rfl | rfl | rfl | rfl <;> exact va_Nw.same rfl hv h2
  · have h2 := h.2.2 w hw
    simp only [bd_NM, List.mem_cons, List.not_mem_nil, or_false] at hw
    rcases hw with rfl | rfl | rfl | rfl <;> exact va_Nw.same rfl hv h2
