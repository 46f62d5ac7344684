/-! ROWS COPIED: System.arraycopy between rows of the world -/
section BDY
variable {p : Program} {l : Launch} {e : Env} {R : Room} {s : State} {m : MethodId} {args : Array Value} {below : List Frame} {meth : Method} {c : Code} {H H0 : Heap} {locs : List Loc} {cells slots : Nat} {Q : State → Prop}
variable {cc : ByteArray} {pc nL : Nat} {ls : Array Slot} {rest : List Value} {E : bd_E} {xm ym xm' ym' : bd_M} {om : Nat → Int64} {own : String} {w k w2 k2 i : Nat}
theorem bd_cpG {i : Nat} (C : bd_Cx E p m c cc nL s args own) (hR : bd_Rep E xm ym om H) (hS : va_S (bd_A E) H0 H locs) (hsz : ls.size = nL) (q1 : Cond.methodLink own i arraycopyName ∈ wsL_law)
    {f1 w1 k1 f2 w2 k2 n1 n2 : Nat} {g1 g2 : Nat → Int32} (hd1 : bd_dm f1 w1 k1) (hd2 : bd_dm f2 w2 k2) (hc1 : bd_ce E xm ym om f1 w1 k1 = bd_iA E n1 g1) (hc2 : bd_ce E xm ym om f2 w2 k2 = bd_iA E n2 g2)
    {sp dp n : Nat} (h1 : sp < 2 ^ 31) (h2 : dp < 2 ^ 31) (h3 : n < 2 ^ 31) (h4 : sp + n ≤ n1) (h5 : dp + n ≤ n2) (hU : bd_Up E xm ym om xm' ym' om f2 w2 k2 (bd_iA E n2 (va_cpy g1 g2 sp dp n)))
    (hfr : 1 ≤ R.frames ∧ (rest.map fun v => v.category).sum + (nativeFrameWords "java/lang/System" "arraycopy" 5 + 11) ≤ R.locals) (hdg : decode cc pc = .ok (.invokestatic i, 3))
    (kk : ∀ (H1 : Heap) (locs1 : List Loc), bd_Rep E xm' ym' om H1 → va_S (bd_A E) H0 H1 locs1 → W p l e R s m args below meth c H1 locs1 cells slots Q (F0 m (pc + 3) ls rest)) : W p l e R s m args below meth c H locs cells slots Q (F0 m pc ls (.int (nI n) :: .int (nI dp) :: .ref (bd_ea E f2 w2 k2) :: .int (nI sp) :: .ref (bd_ea E f1 w1 k1) :: rest)) := by
  obtain ⟨p1, hp1⟩ := bd_pos hd1
  obtain ⟨p2, hp2⟩ := bd_pos hd2
  have a1 := bd_ws_at (E := E) (xm := xm) (ym := ym) (om := om) hp1
  have a2 := bd_ws_at (E := E) (xm := xm) (ym := ym) (om := om) hp2
  rw [hc1] at a1
  rw [hc2] at a2
  refine va_copyi (D := bd_eD E) C.1.1 C.1.2.1 (C.1.2.2.1.trans hsz.symm) C.1.2.2.2.1 (C.1.2.2.2.2 _ q1) (C.1.2.2.2.2 _ qn_arraycopyName) (C.1.2.2.2.2 _ qt_arraycopyName) (C.1.2.2.2.2 _ qz_System) C.2.1 hR.P hR.D hS p1 p2 0 0 a1 a2 rfl rfl rfl (nI_pos h1) (nI_pos h2) (nI_pos h3)
    (by rw [nI_clamp h1, nI_clamp h3]; exact h4) (by rw [nI_clamp h2, nI_clamp h3]; exact h5) (fun _ _ => rfl) hfr.1 hfr.2 hdg (fun H1 locs1 hP _ hS1 => kk H1 locs1 (bd_back hR hp2 hU ?_) hS1)
  rw [nI_clamp h1, nI_clamp h2, nI_clamp h3] at hP
  exact hP
end BDY
theorem bd_ro5 {E : bd_E} {xm ym : bd_M} {om : Nat → Int64} {w : Nat} {g : Nat → Int32} : bd_Up E xm ym om (bd_ro xm 35 w g) ym om 5 w 0 (bd_iA E 4 g) := bd_roX (F := 35) (by simp [bd_ce, bd_fam, bd_ro]) rfl
theorem bd_ro6 {E : bd_E} {xm ym : bd_M} {om : Nat → Int64} {w : Nat} {g : Nat → Int32} : bd_Up E xm ym om (bd_ro xm 36 w g) ym om 6 w 0 (bd_iA E 4 g) := bd_roX (F := 36) (by simp [bd_ce, bd_fam, bd_ro]) rfl
theorem bd_ro13 {E : bd_E} {xm ym : bd_M} {om : Nat → Int64} {w : Nat} {g : Nat → Int32} : bd_Up E xm ym om xm (bd_ro ym 13 w g) om 13 w 0 (bd_iA E 96 g) := bd_roY (F := 13) (by simp [bd_ce, bd_fmY, bd_ro]) rfl
theorem bd_ro14 {E : bd_E} {xm ym : bd_M} {om : Nat → Int64} {w : Nat} {g : Nat → Int32} : bd_Up E xm ym om xm (bd_ro ym 14 w g) om 14 w 0 (bd_iA E 6 g) := bd_roY (F := 14) (by simp [bd_ce, bd_fmY, bd_ro]) rfl
theorem bd_ro15 {E : bd_E} {xm ym : bd_M} {om : Nat → Int64} {w : Nat} {g : Nat → Int32} : bd_Up E xm ym om xm (bd_ro ym 15 w g) om 15 w 0 (bd_iA E 48 g) := bd_roY (F := 15) (by simp [bd_ce, bd_fmY, bd_ro]) rfl
theorem bd_ro16 {E : bd_E} {xm ym : bd_M} {om : Nat → Int64} {w : Nat} {g : Nat → Int32} : bd_Up E xm ym om xm (bd_ro ym 16 w g) om 16 w 0 (bd_iA E 4 g) := bd_roY (F := 16) (by simp [bd_ce, bd_fmY, bd_ro]) rfl
theorem bd_ro17 {E : bd_E} {xm ym : bd_M} {om : Nat → Int64} {w : Nat} {g : Nat → Int32} : bd_Up E xm ym om xm (bd_ro ym 17 w g) om 17 w 0 (bd_iA E 4 g) := bd_roY (F := 17) (by simp [bd_ce, bd_fmY, bd_ro]) rfl
theorem bd_ro19 {E : bd_E} {xm ym : bd_M} {om : Nat → Int64} {w : Nat} {g : Nat → Int32} : bd_Up E xm ym om xm (bd_ro ym 19 w g) om 19 w 0 (bd_iA E 24 g) := bd_roY (F := 19) (by simp [bd_ce, bd_fmY, bd_ro]) rfl
theorem bd_ro20 {E : bd_E} {xm ym : bd_M} {om : Nat → Int64} {w : Nat} {g : Nat → Int32} : bd_Up E xm ym om xm (bd_ro ym 20 w g) om 20 w 0 (bd_iA E 24 g) := bd_roY (F := 20) (by simp [bd_ce, bd_fmY, bd_ro]) rfl
theorem bd_ro21 {E : bd_E} {xm ym : bd_M} {om : Nat → Int64} {w : Nat} {g : Nat → Int32} : bd_Up E xm ym om xm (bd_ro ym 21 w g) om 21 w 0 (bd_iA E 24 g) := bd_roY (F := 21) (by simp [bd_ce, bd_fmY, bd_ro]) rfl
theorem bd_ro22 {E : bd_E} {xm ym : bd_M} {om : Nat → Int64} {w : Nat} {g : Nat → Int32} : bd_Up E xm ym om xm (bd_ro ym 22 w g) om 22 w 0 (bd_iA E 24 g) := bd_roY (F := 22) (by simp [bd_ce, bd_fmY, bd_ro]) rfl
theorem bd_ro23 {E : bd_E} {xm ym : bd_M} {om : Nat → Int64} {w : Nat} {g : Nat → Int32} : bd_Up E xm ym om xm (bd_ro ym 23 w g) om 23 w 0 (bd_iA E 48 g) := bd_roY (F := 23) (by simp [bd_ce, bd_fmY, bd_ro]) rfl
theorem bd_ro24 {E : bd_E} {xm ym : bd_M} {om : Nat → Int64} {w : Nat} {g : Nat → Int32} : bd_Up E xm ym om xm (bd_ro ym 24 w g) om 24 w 0 (bd_iA E 48 g) := bd_roY (F := 24) (by simp [bd_ce, bd_fmY, bd_ro]) rfl
theorem bd_ro25 {E : bd_E} {xm ym : bd_M} {om : Nat → Int64} {w : Nat} {g : Nat → Int32} : bd_Up E xm ym om xm (bd_ro ym 25 w g) om 25 w 0 (bd_iA E 6 g) := bd_roY (F := 25) (by simp [bd_ce, bd_fmY, bd_ro]) rfl
theorem bd_ro26 {E : bd_E} {xm ym : bd_M} {om : Nat → Int64} {w : Nat} {g : Nat → Int32} : bd_Up E xm ym om xm (bd_ro ym 26 w g) om 26 w 0 (bd_iA E 6 g) := bd_roY (F := 26) (by simp [bd_ce, bd_fmY, bd_ro]) rfl
theorem bd_ro27 {E : bd_E} {xm ym : bd_M} {om : Nat → Int64} {w : Nat} {g : Nat → Int32} : bd_Up E xm ym om xm (bd_ro ym 27 w g) om 27 w 0 (bd_iA E 6 g) := bd_roY (F := 27) (by simp [bd_ce, bd_fmY, bd_ro]) rfl
theorem bd_ro28 {E : bd_E} {xm ym : bd_M} {om : Nat → Int64} {w : Nat} {g : Nat → Int32} : bd_Up E xm ym om xm (bd_ro ym 28 w g) om 28 w 0 (bd_iA E 24 g) := bd_roY (F := 28) (by simp [bd_ce, bd_fmY, bd_ro]) rfl
theorem bd_ro29 {E : bd_E} {xm ym : bd_M} {om : Nat → Int64} {w : Nat} {g : Nat → Int32} : bd_Up E xm ym om xm (bd_ro ym 29 w g) om 29 w 0 (bd_iA E 24 g) := bd_roY (F := 29) (by simp [bd_ce, bd_fmY, bd_ro]) rfl
