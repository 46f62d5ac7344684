/-! ROWS over what is made so far -/
def bd_AO (s : State) : Prop := va_AO RX3 s ∧ va_AO RX0 s ∧ va_AO RX1 s
theorem bd_AO.moved {s U : State} (h : s.vm.Alike U.vm) (a : bd_AO s) : bd_AO U := ⟨va_AO.moved h a.1, va_AO.moved h a.2.1, va_AO.moved h a.2.2⟩
section CWR
variable {p : Program} {l : Launch} {e : Env} {R : Room} {s : State} {m : MethodId} {args : Array Value} {below : List Frame} {meth : Method} {c : Code} {H H0 : Heap} {locs : List Loc} {cells slots : Nat} {Q : State → Prop}
variable {cc : ByteArray} {pc nL : Nat} {ls : Array Slot} {rest : List Value} {E : bd_E} {own : String} {P : Nat → Nat → Nat → Bool} {ad : Nat → Nat → Nat → Nat} {ce : Nat → Nat → Nat → va_E} {f w q i ci N : Nat} {CN ref : String} {T : u_T} {fs : List Value} {v : Value}
theorem cw_get (C : bd_Cx E p m c cc nL s args own) (hW : cw_W E P ad ce H) {b : Nat} (ha : ad f w q = b) (hP : P f w q = true) (he : ce f w q = .inr (ci, fs)) (hin : ∀ w ∈ u_ws CN T N, w ∈ wsL_law) (hc : vwCl[ci]? = some (CN, T, N)) (k : Nat) (hk : k < N) (hl : Cond.fieldLink own i ref (T k).2.1 (T k).2.2.1 ∈ wsL_law) (hsame : ∀ x, s.fieldFound? (T k).1 (T k).2.1 (T k).2.2.1 = some x → s.fieldFound? ref (T k).2.1 (T k).2.2.1 = some x) (hv : fs[k]? = some v) (hdg : decode cc pc = .ok (.getfield i, 3))
    (kk : W p l e R s m args below meth c H locs cells slots Q (F0 m (pc + 3) ls (v :: rest))) : W p l e R s m args below meth c H locs cells slots Q (F0 m pc ls (.ref b :: rest)) := by
  subst ha
  obtain ⟨j, hj1, hj⟩ := cw_pos hW hP
  rw [he] at hj
  exact va_get (D := bd_eD E) (ci := ci) (C := CN) (T := T) (N := N) C.1.1 C.1.2.1 C.1.2.2.2.2 hin C.1.2.2.2.1 C.2.1 hW.toP j hj hc k hk (C.1.2.2.2.2 _ hl) hsame hv hdg kk
theorem cw_put (C : bd_Cx E p m c cc nL s args own) (hW : cw_W E P ad ce H) (hS : va_S (bd_A E) H0 H locs) {b : Nat} (ha : ad f w q = b) (hP : P f w q = true) (he : ce f w q = .inr (ci, fs)) (hin : ∀ w ∈ u_ws CN T N, w ∈ wsL_law) (ty0 : Nat → FieldType) (hty : ∀ k, k < N → parseFieldDescriptor (T k).2.2.1 = some (ty0 k)) (hnm : ∀ a, a < N → ∀ b, b < N → a ≠ b → (T a).2.1 ≠ (T b).2.1) (hc : vwCl[ci]? = some (CN, T, N)) (k : Nat) (hk : k < N) (hl : Cond.fieldLink own i ref (T k).2.1 (T k).2.2.1 ∈ wsL_law) (hsame : ∀ x, s.fieldFound? (T k).1 (T k).2.1 (T k).2.2.1 = some x → s.fieldFound? ref (T k).2.1 (T k).2.2.1 = some x) (hfin : (T k).2.2.2 = false) (hn : narrow (ty0 k) v = v) (hfit : fits (ty0 k) v = true) (hlen : k < fs.length) (hdg : decode cc pc = .ok (.putfield i, 3))
    (kk : ∀ (H1 : Heap) (locs1 : List Loc), cw_W E P ad (cw_up ce f w q (.inr (ci, fs.set k v))) H1 → va_S (bd_A E) H0 H1 locs1 → W p l e R s m args below meth c H1 locs1 cells slots Q (F0 m (pc + 3) ls rest)) : W p l e R s m args below meth c H locs cells slots Q (F0 m pc ls (v :: .ref b :: rest)) := by
  subst ha
  obtain ⟨j, hj1, hj⟩ := cw_pos hW hP
  rw [he] at hj
  exact va_put (D := bd_eD E) (ci := ci) (C := CN) (T := T) (N := N) C.1.1 C.1.2.1 C.1.2.2.2.2 hin ty0 hty hnm C.1.2.2.2.1 C.2.1 hW.toP hW.toD hS j hj hc k hk (C.1.2.2.2.2 _ hl) hsame hfin (hty k hk) hn hfit hlen hdg (fun H1 locs1 hP1 _ hS1 => kk H1 locs1 (cw_back hW hP hj1 hP1) hS1)
theorem cw_putF (C : bd_Cx E p m c cc nL s args own) (hW : cw_W E P ad ce H) (hS : va_S (bd_A E) H0 H locs) {b : Nat} (ha : ad f w q = b) (hP : P f w q = true) (he : ce f w q = .inr (ci, fs)) (hin : ∀ w ∈ u_ws CN T N, w ∈ wsL_law) (ty0 : Nat → FieldType) (hty : ∀ k, k < N → parseFieldDescriptor (T k).2.2.1 = some (ty0 k)) (hnm : ∀ a, a < N → ∀ b, b < N → a ≠ b → (T a).2.1 ≠ (T b).2.1) (hc : vwCl[ci]? = some (CN, T, N)) (k : Nat) (hk : k < N) (hl : Cond.fieldLink own i ref (T k).2.1 (T k).2.2.1 ∈ wsL_law) (hsame : ∀ x, s.fieldFound? (T k).1 (T k).2.1 (T k).2.2.1 = some x → s.fieldFound? ref (T k).2.1 (T k).2.2.1 = some x) (hfin : (T k).2.2.2 = true) (hin2 : meth.name = "<init>") (hdecl : (T k).1 = own) (hn : narrow (ty0 k) v = v) (hfit : fits (ty0 k) v = true) (hlen : k < fs.length) (hdg : decode cc pc = .ok (.putfield i, 3))
    (kk : ∀ (H1 : Heap) (locs1 : List Loc), cw_W E P ad (cw_up ce f w q (.inr (ci, fs.set k v))) H1 → va_S (bd_A E) H0 H1 locs1 → W p l e R s m args below meth c H1 locs1 cells slots Q (F0 m (pc + 3) ls rest)) : W p l e R s m args below meth c H locs cells slots Q (F0 m pc ls (v :: .ref b :: rest)) := by
  subst ha
  obtain ⟨j, hj1, hj⟩ := cw_pos hW hP
  rw [he] at hj
  exact va_putF (D := bd_eD E) (ci := ci) (C := CN) (T := T) (N := N) C.1.1 C.1.2.1 C.1.2.2.2.2 hin ty0 hty hnm C.1.2.2.2.1 C.2.1 hW.toP hW.toD hS j hj hc k hk (C.1.2.2.2.2 _ hl) hsame hfin hin2 hdecl (hty k hk) hn hfit hlen hdg (fun H1 locs1 hP1 _ hS1 => kk H1 locs1 (cw_back hW hP hj1 hP1) hS1)
theorem cw_new (C : bd_Cx E p m c cc nL s args own) (hW : cw_W E P ad ce H) (hS : va_S (bd_A E) H0 H locs) (h0 : E.2.2.2.2 ≤ H0.size) (hn : ¬ P f w q = true) (hd : bd_dm f w q) (hin : ∀ w ∈ u_ws CN T N, w ∈ wsL_law) (ty0 : Nat → FieldType) (hty : ∀ k, k < N → parseFieldDescriptor (T k).2.2.1 = some (ty0 k)) (hc : vwCl[ci]? = some (CN, T, N)) (qk : Cond.classLink own i CN ∈ wsL_law) (qa : Cond.instantiable CN N ∈ wsL_law) (qz : Cond.initialized CN ∈ wsL_law) (hfs : ∀ j, j < N → defaultValue (ty0 j) = vp_V fs j) (hf : cells + 1 ≤ R.cells ∧ slots + N ≤ R.slots) (hdg : decode cc pc = .ok (.new i, 3))
    (kk : ∀ (a : Nat) (H1 : Heap), cw_W E (cw_in P f w q) (cw_ua ad f w q a) (cw_up ce f w q (.inr (ci, fs))) H1 → va_S (bd_A E) H0 H1 locs → W p l e R s m args below meth c H1 locs (cells + 1) (slots + N) Q (F0 m (pc + 3) ls (.ref a :: rest))) : W p l e R s m args below meth c H locs cells slots Q (F0 m pc ls rest) :=
  va_new (D := bd_eD E) (ci := ci) (C := CN) (T := T) (N := N) C.1.1 C.1.2.1 C.1.2.2.2.2 hin ty0 hty C.1.2.2.2.1 (C.1.2.2.2.2 _ qk) (C.1.2.2.2.2 _ qa) (C.1.2.2.2.2 _ qz) C.2.1 hW.toP hW.toD hS (fun x hx => Nat.le_trans h0 hx) hc hfs hf.1 hf.2 hdg (fun a H1 hP1 hD1 hS1 => kk a H1 (cw_push hW hn hd hP1 hD1) hS1)
theorem cw_newi {n : Nat} (C : bd_Cx E p m c cc nL s args own) (hW : cw_W E P ad ce H) (hS : va_S (bd_A E) H0 H locs) (h0 : E.2.2.2.2 ≤ H0.size) (hn : ¬ P f w q = true) (hd : bd_dm f w q) (hn2 : n < 100) (hf : cells + 1 ≤ R.cells ∧ slots + n ≤ R.slots) (hdg : decode cc pc = .ok (.newarray .int, 2))
    (kk : ∀ (a : Nat) (H1 : Heap), cw_W E (cw_in P f w q) (cw_ua ad f w q a) (cw_up ce f w q (bd_iA E n (fun _ => 0))) H1 → va_S (bd_A E) H0 H1 locs → W p l e R s m args below meth c H1 locs (cells + 1) (slots + n) Q (F0 m (pc + 2) ls (.ref a :: rest))) : W p l e R s m args below meth c H locs cells slots Q (F0 m pc ls (.int (nI n) :: rest)) :=
  va_newa (D := bd_eD E) (atype := .int) (ty := .int) (a0 := (n, .inl (fun _ => 0))) C.1.1 C.1.2.1 (C.1.2.2.2.2 _ qy_int) rfl C.2.1 hW.toP hW.toD hS (fun x hx => Nat.le_trans h0 hx) (fun cA => rfl) (nI_pos (by omega)) (nI_clamp (by omega)) (by show n * 4 ≤ _; omega) hf.1 hf.2 hdg (fun a cA H1 hK1 hP1 hD1 hS1 => by
    have e1 : cA = bd_eK E 0 := Option.some.inj (((hK1.2 5 (cA, .int) rfl).2).symm.trans (C.2.1.2 0 (bd_eK E 0, .int) rfl).2)
    subst e1
    exact kk a H1 (cw_push hW hn hd hP1 hD1) hS1)
theorem cw_newq {n t : Nat} {X : String} (C : bd_Cx E p m c cc nL s args own) (hao : va_AO X s) (ht : (bd_ty E)[t]? = some (bd_eK E t, .object X)) (hW : cw_W E P ad ce H) (hS : va_S (bd_A E) H0 H locs) (h0 : E.2.2.2.2 ≤ H0.size) (hn : ¬ P f w q = true) (hd : bd_dm f w q) (qk : Cond.classLink own i X ∈ wsL_law) (hn2 : n < 100) (hf : cells + 1 ≤ R.cells ∧ slots + n ≤ R.slots) (hdg : decode cc pc = .ok (.anewarray i, 3))
    (kk : ∀ (a : Nat) (H1 : Heap), cw_W E (cw_in P f w q) (cw_ua ad f w q a) (cw_up ce f w q (bd_rA E t n (fun _ => none))) H1 → va_S (bd_A E) H0 H1 locs → W p l e R s m args below meth c H1 locs (cells + 1) (slots + n) Q (F0 m (pc + 3) ls (.ref a :: rest))) : W p l e R s m args below meth c H locs cells slots Q (F0 m pc ls (.int (nI n) :: rest)) :=
  va_newq (D := bd_eD E) C.1.1 C.1.2.1 C.1.2.2.2.1 (C.1.2.2.2.2 _ qk) hao C.2.1 hW.toP hW.toD hS (fun x hx => Nat.le_trans h0 hx) (nI_pos (by omega)) (nI_clamp (by omega)) (by omega) hf.1 hf.2 hdg (fun a cA H1 hK1 hP1 hD1 hS1 => by
    obtain ⟨-, -, -, -, -, b1⟩ := (hK1.2 5 (cA, .object X) rfl).2
    obtain ⟨-, -, -, -, -, b2⟩ := (C.2.1.2 t (bd_eK E t, .object X) ht).2
    have e1 : cA = bd_eK E t := Option.some.inj (b1.symm.trans b2)
    subst e1
    exact kk a H1 (cw_push hW hn hd hP1 hD1) hS1)
theorem cw_sti {n j : Nat} {g : Nat → Int32} {x : Int32} (C : bd_Cx E p m c cc nL s args own) (hW : cw_W E P ad ce H) (hS : va_S (bd_A E) H0 H locs) {b : Nat} (ha : ad f w q = b) (hP : P f w q = true) (he : ce f w q = bd_iA E n g) (hj : j < n) (hn : n < 100) (hdg : decode cc pc = .ok (.iastore, 1))
    (kk : ∀ (H1 : Heap) (locs1 : List Loc), cw_W E P ad (cw_up ce f w q (bd_iA E n (upd g j x))) H1 → va_S (bd_A E) H0 H1 locs1 → W p l e R s m args below meth c H1 locs1 cells slots Q (F0 m (pc + 1) ls rest)) : W p l e R s m args below meth c H locs cells slots Q (F0 m pc ls (.int x :: .int (nI j) :: .ref b :: rest)) := by
  subst ha
  obtain ⟨i, hj1, hj2⟩ := cw_pos hW hP
  rw [he] at hj2
  refine va_iast (D := bd_eD E) C.1.1 C.1.2.1 C.2.1 hW.toP hW.toD hS i 0 hj2 rfl (vp_in_nI hj (by omega)) hdg (fun H1 locs1 hP1 _ hS1 => kk H1 locs1 (cw_back hW hP hj1 ?_) hS1)
  rw [nI_clamp (by omega)] at hP1
  exact hP1
theorem cw_stq {n j t f2 w2 q2 : Nat} {g : Nat → Option Nat} {X : String} (C : bd_Cx E p m c cc nL s args own) (hW : cw_W E P ad ce H) (hS : va_S (bd_A E) H0 H locs) {b b2 : Nat} (ha : ad f w q = b) (ha2 : ad f2 w2 q2 = b2) (hP : P f w q = true) (he : ce f w q = bd_rA E t n g) (ht : (bd_ty E)[t]? = some (bd_eK E t, .object X)) (hP2 : P f2 w2 q2 = true) (he2 : ce f2 w2 q2 = .inr (ci, fs)) (hc : vwCl[ci]? = some (X, T, N)) (hj : j < n) (hn : n < 100) (hdg : decode cc pc = .ok (.aastore, 1))
    (kk : ∀ (H1 : Heap) (locs1 : List Loc), cw_W E P ad (cw_up ce f w q (bd_rA E t n (va_up g j (some b2)))) H1 → va_S (bd_A E) H0 H1 locs1 → W p l e R s m args below meth c H1 locs1 cells slots Q (F0 m (pc + 1) ls rest)) : W p l e R s m args below meth c H locs cells slots Q (F0 m pc ls (.ref b2 :: .int (nI j) :: .ref b :: rest)) := by
  subst ha
  subst ha2
  obtain ⟨i, hj1, hj2⟩ := cw_pos hW hP
  obtain ⟨i2, -, hk2⟩ := cw_pos hW hP2
  rw [he] at hj2
  rw [he2] at hk2
  refine va_astq (D := bd_eD E) C.1.1 C.1.2.1 C.2.1 hW.toP hW.toD hS i t i2 ci hj2 ht hk2 hc (vp_in_nI hj (by omega)) hdg (fun H1 locs1 hP1 _ hS1 => kk H1 locs1 (cw_back hW hP hj1 ?_) hS1)
  rw [nI_clamp (by omega)] at hP1
  exact hP1
end CWR
