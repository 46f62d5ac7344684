/-! THE LAW FROM ITS ENTRY TO ITS LOOP'S END -/
section SW
variable {p : Program} {l : Launch} {e : Env} {R : Room} {s : State} {m : MethodId} {args : Array Value} {below : List Frame} {meth : Method} {c : Code} {H H0 : Heap} {locs : List Loc} {cells slots : Nat} {Q : State → Prop}
variable {cc : ByteArray} {pc nL : Nat} {ls : Array Slot} {rest : List Value} {E : bd_E} {own : String} {P : Nat → Nat → Nat → Bool} {ad : Nat → Nat → Nat → Nat} {ce : Nat → Nat → Nat → va_E} {f w q : Nat}
theorem cw_newl (C : bd_Cx E p m c cc nL s args own) (hW : cw_W E P ad ce H) (hS : va_S (bd_A E) H0 H locs) (h0 : E.2.2.2.2 ≤ H0.size) (hn : ¬ P f w q = true) (hd : bd_dm f w q) (hf : cells + 1 ≤ R.cells ∧ slots + 1 ≤ R.slots) (hdg : decode cc pc = .ok (.newarray .long, 2))
    (kk : ∀ (a : Nat) (H1 : Heap), cw_W E (cw_in P f w q) (cw_ua ad f w q a) (cw_up ce f w q (.inl (bd_eK E 4, 1, .inr (.inl (fun _ => 0))))) H1 → va_S (bd_A E) H0 H1 locs → W p l e R s m args below meth c H1 locs (cells + 1) (slots + 1) Q (F0 m (pc + 2) ls (.ref a :: rest))) : W p l e R s m args below meth c H locs cells slots Q (F0 m pc ls (.int 1 :: rest)) :=
  va_newa (D := bd_eD E) (atype := .long) (ty := .long) (a0 := (1, .inr (.inl (fun _ => 0)))) C.1.1 C.1.2.1 (C.1.2.2.2.2 _ qy_long) rfl C.2.1 hW.toP hW.toD hS (fun x hx => Nat.le_trans h0 hx) (fun cA => rfl) (by decide) rfl (by show 1 * 8 ≤ _; omega) hf.1 hf.2 hdg (fun a cA H1 hK1 hP1 hD1 hS1 => by
    have e1 : cA = bd_eK E 4 := Option.some.inj (((hK1.2 5 (cA, .long) rfl).2).symm.trans (C.2.1.2 4 (bd_eK E 4, .long) rfl).2)
    subst e1
    exact kk a H1 (cw_push hW hn hd hP1 hD1) hS1)
theorem st_no5 : ∀ f w k, w < 2 → cw_n5 f k → ¬ cw_in (fun _ _ _ => false) 0 0 0 f w k = true := fun f w k _ hn h => by
  rcases cw_in_of h with h | h
  · cases h
  · omega
theorem st_no12 {k : Nat} : ∀ f w, 12 ≤ f → ¬ st_P1 f w k = true := fun f w hf h => by
  rcases cw_P5_of.mp h with h | h
  · rcases cw_in_of h with h | h
    · cases h
    · omega
  · omega
theorem st_no13 : ∀ f w, 13 ≤ f → f ≤ 29 → ¬ cw_in st_P1 12 0 0 f w 0 = true := fun f w h1 _ h => by
  rcases cw_in_of h with h | h
  · exact st_no12 f w (by omega) h
  · omega
theorem st_no30 : ¬ st_P2 30 0 0 = true := by decide +kernel
set_option maxHeartbeats 8000000 in
set_option maxRecDepth 100000 in
theorem st_walk {b L : Nat} {xs : Nat → Int32} (hlf : l.stackTraces = false) (hE : E.2.2.2.2 = s.heap.size) (C : bd_Cx E p m c cL_law 9 s #[Value.ref b] RL) (hao : bd_AO s) (Z : bd_ZZ (bd_A E) s s.heap) (N : bd_NC s) (hX : va_X b L xs s s.heap) (hbs : b < s.heap.size) (hL : L ≤ 2560) (hR0 : 12 ≤ R.frames ∧ 440 ≤ R.locals) (hf : 260 + 400 * 512 ≤ R.cells ∧ 1931 + 1600 * 512 ≤ R.slots)
    (hl : lv_has ls 9 [(0, .ref b)])
    (fin : ∀ (H : Heap) (locs : List Loc) (ls : Array Slot), va_S (bd_A E) s.heap H locs → W p l e R s m #[Value.ref b] below meth c H locs (260 + 400 * 512) (1931 + 1600 * 512) Q (F0 m 1321 ls [])) : W p l e R s m #[Value.ref b] below meth c s.heap [] 0 0 Q (F0 m 0 ls []) := by
  have hx := C.1.1
  have hb := C.1.2.1
  obtain ⟨hf1, hf2⟩ := hf
  obtain ⟨hr1, hr2⟩ := hR0
  have h0 : E.2.2.2.2 ≤ s.heap.size := Nat.le_of_eq hE
  have hW : cw_W E (fun _ _ _ => false) (fun _ _ _ => 0) (fun _ _ _ => bd_iA E 0 (fun _ => 0)) s.heap := ⟨fun _ _ _ h => absurd h Bool.false_ne_true, fun _ _ _ h => absurd h Bool.false_ne_true, fun _ _ _ _ _ _ h => absurd h Bool.false_ne_true, fun _ _ _ h => absurd h Bool.false_ne_true⟩
  have hS : va_S (bd_A E) s.heap s.heap [] := va_S.rf
  refine cw_new (ci := 5) (f := 0) (w := 0) (q := 0) (fs := [.null, .null, .null, .null]) C hW hS h0 (by decide) ⟨by decide, by decide, by decide⟩ inlX5 tyX5 tyX5_ok rfl qk_L_8 qa_X5 qz_X5 (fun i hi => by match i, hi with | 0, _ => rfl | 1, _ => rfl | 2, _ => rfl | 3, _ => rfl) ⟨by omega, by omega⟩ dL_law_0 (fun a0 H hW hS => ?_)
  refine lv_dup hx hb dL_law_3 rfl ?_
  refine cw_cI [] [.ref a0] C hao (Nat.le_trans h0 hS.1) (k_X5_init l E _ _ _ a0 cw_ua_s cw_in_s cw_up_s st_no5) hW hS qm_L_71 qi_X5_init qz_X5 qc_X5_init rfl qp_X5_init.2 ⟨by omega, by omega⟩ hl.1 (Nat.le_of_ble_eq_true rfl) dL_law_4 ⟨by omega, by omega⟩ (fun H locs ad1 hag1 hW hS hz1 => ?_)
  have hA0 : ad1 0 0 0 = a0 := (hag1 0 0 0 cw_in_s).trans cw_ua_s
  refine lv_astore_n (lv' := [(1, .ref a0), (0, .ref b)]) hx hb dL_law_7 rfl hl (by decide) rfl (fun ls hl => ?_)
  refine cw_new (ci := 7) (f := 12) (w := 0) (q := 0) (fs := [.int 0, .int 0, .null, .int 0, .null, .null, .null, .null, .null, .null]) C hW hS h0 (st_no12 12 0 (by decide)) ⟨by decide, by decide, by decide⟩ inlX7 tyX7 tyX7_ok rfl qk_L_72 qa_X7 qz_X7 (fun i hi => by match i, hi with | 0, _ => rfl | 1, _ => rfl | 2, _ => rfl | 3, _ => rfl | 4, _ => rfl | 5, _ => rfl | 6, _ => rfl | 7, _ => rfl | 8, _ => rfl | 9, _ => rfl) ⟨by omega, by omega⟩ dL_law_8 (fun a12 H hW hS => ?_)
  refine lv_dup hx hb dL_law_11 rfl ?_
  refine cw_cI [] [.ref a12] C hao (Nat.le_trans h0 hS.1) (k_X7_init l E _ _ _ a12 cw_ua_s cw_in_s cw_up_s st_no13) hW hS qm_L_74 qi_X7_init qz_X7 qc_X7_init rfl qp_X7_init.2 ⟨by omega, by omega⟩ hl.1 (Nat.le_of_ble_eq_true rfl) dL_law_12 ⟨by omega, by omega⟩ (fun H locs ad2 hag2 hW hS hz2 => ?_)
  have hA12 : ad2 12 0 0 = a12 := (hag2 12 0 0 cw_in_s).trans cw_ua_s
  have hA02 : ad2 0 0 0 = a0 := (hag2 0 0 0 (cw_in_o (cw_P5_of.mpr (Or.inl cw_in_s)))).trans ((cw_ua_n (by omega)).trans hA0)
  refine lv_astore_n (lv' := [(2, .ref a12), (1, .ref a0), (0, .ref b)]) hx hb dL_law_15 rfl hl (by decide) rfl (fun ls hl => ?_)
  refine lv_iconst (v := 1) hx hb dL_law_16 (by decide) ?_
  refine cw_newl (f := 30) (w := 0) (q := 0) C hW hS h0 st_no30 ⟨by decide, by decide, by decide⟩ ⟨by omega, by omega⟩ dL_law_17 (fun a30 H hW hS => ?_)
  refine lv_astore_n (lv' := [(3, .ref a30), (2, .ref a12), (1, .ref a0), (0, .ref b)]) hx hb dL_law_19 rfl hl (by decide) rfl (fun ls hl => ?_)
  refine lv_iconst (v := 0) hx hb dL_law_20 (by decide) ?_
  refine lv_istore (lv' := [(4, .int 0), (3, .ref a30), (2, .ref a12), (1, .ref a0), (0, .ref b)]) hx hb dL_law_21 hl (by decide) rfl (fun ls hl => ?_)
  have hR := st_rep hag2 hW
  have hl2 : lv_has ls 9 (la_lv (cw_E E (cw_ua ad2 30 0 0 a30)) b (5 * 0)) := by
    have e := lv_sub hl [4, 3, 2, 1, 0] rfl
    show lv_has ls 9 [(0, .ref b), (1, .ref (cw_ua ad2 30 0 0 a30 0 0 0)), (2, .ref (cw_ua ad2 30 0 0 a30 12 0 0)), (3, .ref (cw_ua ad2 30 0 0 a30 30 0 0)), (4, .int (nI 0))]
    rw [cw_ua_s, cw_ua_n (by omega), cw_ua_n (by omega), hA02, hA12, nI_0]
    exact e
  have A : la_At (cw_E E (cw_ua ad2 30 0 0 a30)) p s m c b L xs := ⟨C, Z, N, hX, hbs, fun q => absurd (show E.2.2.2.2 ≤ b from q) (by omega), hL⟩
  have K := la_loop (l := l) (e := e) (R := R) (below := below) (meth := meth) (Q := Q) A ⟨hr1, hr2⟩ rl_Jn (fun i xm ym hi hJ => rl_all hlf i xm ym hi hJ) 260 1931 ⟨hf1, hf2⟩ fin 513 0 (by decide) (by decide) kx_0 ry_0 (fun _ => 0) H locs ls rl_start hR hS hl2
  exact K
end SW
