/-! AN ARRAY OF A METHOD'S OWN, beside the world; a call that only reads -/
def bd_Tp (E : bd_E) (q n : Nat) (f : Nat → Int32) (H : Heap) : Prop := va_at (bd_eD E) vwCl (q, bd_iA E n f) H ∧ bd_A E q ∧ ∀ g w k, bd_dm g w k → bd_ea E g w k ≠ q
section BDT
variable {p : Program} {l : Launch} {e : Env} {R : Room} {s : State} {m : MethodId} {args : Array Value} {below : List Frame} {meth : Method} {c : Code} {H H0 : Heap} {locs : List Loc} {cells slots mc ms : Nat} {Q : State → Prop}
variable {cc : ByteArray} {pc nL : Nat} {ls : Array Slot} {rest : List Value} {E : bd_E} {xm ym xm' ym' : bd_M} {om : Nat → Int64} {own : String}
theorem bd_tnew {n : Nat} (C : bd_Cx E p m c cc nL s args own) (hR : bd_Rep E xm ym om H) (hS : va_S (bd_A E) H0 H locs) (hn : n < 100) (hf : cells + 1 ≤ R.cells ∧ slots + n ≤ R.slots) (hdg : decode cc pc = .ok (.newarray .int, 2))
    (kk : ∀ (q : Nat) (H1 : Heap), bd_Rep E xm ym om H1 → bd_Tp E q n (fun _ => 0) H1 → va_S (bd_A E) H0 H1 locs → W p l e R s m args below meth c H1 locs (cells + 1) (slots + n) Q (F0 m (pc + 2) ls (.ref q :: rest))) : W p l e R s m args below meth c H locs cells slots Q (F0 m pc ls (.int (nI n) :: rest)) := by
  refine va_newaK C.1.1 C.1.2.1 (atype := .int) (C.1.2.2.2.2 _ qy_int) rfl hdg rfl (nI_pos (by omega)) (nI_clamp (by omega)) (by show n * 4 ≤ _; omega) hf.1 hf.2 rfl (fun H1 cA e1 z1 o1 hAr hNm => ?_)
  have hc : cA = bd_eK E 0 := by
    have h0 := (C.2.1.2 0 (bd_eK E 0, .int) rfl).2
    exact (Option.some.inj (hNm.symm.trans h0))
  subst hc
  refine kk H.size H1 (hR.kept o1) ⟨?_, Nat.le_trans hR.sz (Nat.le_refl _), fun g w k hd q => ?_⟩ ⟨Nat.le_trans hS.1 (by omega), fun x h1 h2 => (o1 x (Nat.lt_of_lt_of_le h1 hS.1)).trans (hS.2.1 x h1 h2), hS.2.2⟩
  · show H1[H.size]? = some (vp_cell _ _)
    rw [e1, vp_cell_i]
    rfl
  · have := hR.lt hd
    omega
theorem bd_tst {q n j : Nat} {f : Nat → Int32} {v : Int32} (C : bd_Cx E p m c cc nL s args own) (hR : bd_Rep E xm ym om H) (hT : bd_Tp E q n f H) (hS : va_S (bd_A E) H0 H locs) (hj : j < n) (hn : n < 100) (hdg : decode cc pc = .ok (.iastore, 1))
    (kk : ∀ (H1 : Heap) (locs1 : List Loc), bd_Rep E xm ym om H1 → bd_Tp E q n (upd f j v) H1 → va_S (bd_A E) H0 H1 locs1 → W p l e R s m args below meth c H1 locs1 cells slots Q (F0 m (pc + 1) ls rest)) : W p l e R s m args below meth c H locs cells slots Q (F0 m pc ls (.int v :: .int (nI j) :: .ref q :: rest)) := by
  have hP : va_P (bd_eD E) vwCl (bd_ws E xm ym om ++ [(q, bd_iA E n f)]) H := hR.P.app (fun k x hx => by
    have hz : k < 1 := (List.getElem?_eq_some_iff.mp hx).1
    rw [show k = 0 by omega] at hx
    cases hx
    exact hT.1)
  have hD : va_D (bd_A E) (bd_ws E xm ym om ++ [(q, bd_iA E n f)]) := va_D.app hR.D ⟨fun i j x y hx hy _ => by
      have h1 : i < 1 := (List.getElem?_eq_some_iff.mp hx).1
      have h2 : j < 1 := (List.getElem?_eq_some_iff.mp hy).1
      omega, fun k x hx => by
      have hz : k < 1 := (List.getElem?_eq_some_iff.mp hx).1
      rw [show k = 0 by omega] at hx
      cases hx
      exact hT.2.1⟩ (fun i j x y hx hy => by
      obtain ⟨g, w, k, -, h2, rfl⟩ := bd_ws_of hx
      have hz : j < 1 := (List.getElem?_eq_some_iff.mp hy).1
      rw [show j = 0 by omega] at hy
      cases hy
      exact hT.2.2 g w k h2)
  have hl : (bd_ws E xm ym om).length ≤ (bd_ws E xm ym om).length := Nat.le_refl _
  have hq : (bd_ws E xm ym om ++ [(q, bd_iA E n f)])[(bd_ws E xm ym om).length]? = some (q, bd_iA E n f) := by
    rw [List.getElem?_append_right hl, Nat.sub_self]
    rfl
  refine va_iast (D := bd_eD E) C.1.1 C.1.2.1 C.2.1 hP hD hS (bd_ws E xm ym om).length 0 hq rfl (vp_in_nI hj (by omega)) hdg (fun H1 locs1 hP1 _ hS1 => ?_)
  rw [nI_clamp (by omega)] at hP1
  rw [List.set_append_right _ _ hl, Nat.sub_self] at hP1
  refine kk H1 locs1 ⟨hR.1, hR.2.1, fun g w k hd => ?_⟩ ⟨?_, hT.2.1, hT.2.2⟩ hS1
  · obtain ⟨i, hi⟩ := bd_pos hd
    have h9 := bd_ws_at (E := E) (xm := xm) (ym := ym) (om := om) hi
    refine hP1 i _ ?_
    rw [List.getElem?_append_left (List.getElem?_eq_some_iff.mp h9).1]
    exact h9
  · refine hP1 (bd_ws E xm ym om).length _ ?_
    rw [List.getElem?_append_right hl, Nat.sub_self]
    rfl
theorem bd_tld {q n j : Nat} {f : Nat → Int32} (C : bd_Cx E p m c cc nL s args own) (hT : bd_Tp E q n f H) (hj : j < n) (hn : n < 100) (hdg : decode cc pc = .ok (.iaload, 1))
    (kk : W p l e R s m args below meth c H locs cells slots Q (F0 m (pc + 1) ls (.int (f j) :: rest))) : W p l e R s m args below meth c H locs cells slots Q (F0 m pc ls (.int (nI j) :: .ref q :: rest)) := by
  refine va_iald (D := bd_eD E) (ws := [(q, bd_iA E n f)]) C.1.1 C.1.2.1 C.2.1 (fun k x hx => by
    have hz : k < 1 := (List.getElem?_eq_some_iff.mp hx).1
    rw [show k = 0 by omega] at hx
    cases hx
    exact hT.1) 0 0 rfl rfl (vp_in_nI hj (by omega)) hdg ?_
  rw [nI_clamp (by omega)]
  exact kk
/-- out of the own array into a row of the world -/
theorem bd_tcp {q n1 i : Nat} {g1 : Nat → Int32} (C : bd_Cx E p m c cc nL s args own) (hR : bd_Rep E xm ym om H) (hT : bd_Tp E q n1 g1 H) (hS : va_S (bd_A E) H0 H locs) (hsz : ls.size = nL) (q1 : Cond.methodLink own i arraycopyName ∈ wsL_law)
    {f2 w2 k2 n2 : Nat} {g2 : Nat → Int32} (hd2 : bd_dm f2 w2 k2) (hc2 : bd_ce E xm ym om f2 w2 k2 = bd_iA E n2 g2)
    {dp n : Nat} (h2 : dp < 2 ^ 31) (h3 : n < 2 ^ 31) (h4 : n ≤ n1) (h5 : dp + n ≤ n2) (hU : bd_Up E xm ym om xm' ym' om f2 w2 k2 (bd_iA E n2 (va_cpy g1 g2 0 dp n)))
    (hfr : 1 ≤ R.frames ∧ (rest.map fun v => v.category).sum + (nativeFrameWords "java/lang/System" "arraycopy" 5 + 11) ≤ R.locals) (hdg : decode cc pc = .ok (.invokestatic i, 3))
    (kk : ∀ (H1 : Heap) (locs1 : List Loc), bd_Rep E xm' ym' om H1 → va_S (bd_A E) H0 H1 locs1 → W p l e R s m args below meth c H1 locs1 cells slots Q (F0 m (pc + 3) ls rest)) : W p l e R s m args below meth c H locs cells slots Q (F0 m pc ls (.int (nI n) :: .int (nI dp) :: .ref (bd_ea E f2 w2 k2) :: .int 0 :: .ref q :: rest)) := by
  have hP : va_P (bd_eD E) vwCl (bd_ws E xm ym om ++ [(q, bd_iA E n1 g1)]) H := hR.P.app (fun k x hx => by
    have hz : k < 1 := (List.getElem?_eq_some_iff.mp hx).1
    rw [show k = 0 by omega] at hx
    cases hx
    exact hT.1)
  have hD : va_D (bd_A E) (bd_ws E xm ym om ++ [(q, bd_iA E n1 g1)]) := va_D.app hR.D ⟨fun i j x y hx hy _ => by
      have h1 : i < 1 := (List.getElem?_eq_some_iff.mp hx).1
      have h2 : j < 1 := (List.getElem?_eq_some_iff.mp hy).1
      omega, fun k x hx => by
      have hz : k < 1 := (List.getElem?_eq_some_iff.mp hx).1
      rw [show k = 0 by omega] at hx
      cases hx
      exact hT.2.1⟩ (fun i j x y hx hy => by
      obtain ⟨g, w, k, -, h2, rfl⟩ := bd_ws_of hx
      have hz : j < 1 := (List.getElem?_eq_some_iff.mp hy).1
      rw [show j = 0 by omega] at hy
      cases hy
      exact hT.2.2 g w k h2)
  have hl : (bd_ws E xm ym om).length ≤ (bd_ws E xm ym om).length := Nat.le_refl _
  have hq : (bd_ws E xm ym om ++ [(q, bd_iA E n1 g1)])[(bd_ws E xm ym om).length]? = some (q, bd_iA E n1 g1) := by
    rw [List.getElem?_append_right hl, Nat.sub_self]
    rfl
  obtain ⟨p2, hp2⟩ := bd_pos hd2
  have a2 := bd_ws_at (E := E) (xm := xm) (ym := ym) (om := om) hp2
  have l2 := (List.getElem?_eq_some_iff.mp a2).1
  rw [hc2] at a2
  refine va_copyi (D := bd_eD E) C.1.1 C.1.2.1 (C.1.2.2.1.trans hsz.symm) C.1.2.2.2.1 (C.1.2.2.2.2 _ q1) (C.1.2.2.2.2 _ qn_arraycopyName) (C.1.2.2.2.2 _ qt_arraycopyName) (C.1.2.2.2.2 _ qz_System) C.2.1 hP hD hS (bd_ws E xm ym om).length p2 0 0 hq (by rw [List.getElem?_append_left l2]; exact a2) rfl rfl rfl (by decide) (nI_pos h2) (nI_pos h3)
    (by rw [nI_clamp h3]; show 0 + n ≤ n1; omega) (by rw [nI_clamp h2, nI_clamp h3]; exact h5) (fun _ _ => rfl) hfr.1 hfr.2 hdg (fun H1 locs1 hP1 _ hS1 => kk H1 locs1 (bd_back hR hp2 hU ?_) hS1)
  rw [nI_clamp h2, nI_clamp h3, List.set_append_left _ _ l2, show (0 : Int32).toNatClampNeg = 0 by decide] at hP1
  intro k x hx
  refine hP1 k x ?_
  rw [List.getElem?_append_left (List.getElem?_eq_some_iff.mp hx).1]
  exact hx
end BDT
-- a method that writes nothing
def bd_QR (E : bd_E) (xm' ym' : bd_M) (om' : Nat → Int64) (res : Option Value) : Array Value → State → Outcome → State → Prop := fun _ st oc t => (oc = .returned res ∧ bd_Rep E xm' ym' om' t.heap) ∧ va_F (fun _ => False) st t
def bd_CtR (l : Launch) (y : MethodName) (cc : ByteArray) (n : Nat) (ret : Option FieldType) (fr lo : Nat) (E : bd_E) (avs : List Value) (xm ym : bd_M) (om : Nat → Int64) (res : Option Value) : Prop :=
  Met l y (.code y cc n ret :: wsL_law) { frames := fr, cells := 0, slots := 0, locals := lo } (bd_Pc E avs xm ym om) (bd_QR E xm ym om res) 0 0 (fun _ => False)
theorem bd_openR {l : Launch} {y : MethodName} {cc : ByteArray} {n : Nat} {ret : Option FieldType} {fr lo : Nat} {E : bd_E} {avs : List Value} {xm ym : bd_M} {om : Nat → Int64} {res : Option Value} (own : String) (hown : y.cls = own) (hy : plainName y.cls = true) (hlen : (lg_sl avs).length ≤ n)
    (body : ∀ (p : Program) (e : Env) (s : State) (m : MethodId) (args : Array Value) (below : List Frame) (meth : Method) (c : Code) (ls : Array Slot), bd_Cx E p m c cc n s args own → meth.sig.returnType = ret → meth.locks = false → va_S (fun _ => False) s.heap s.heap [] → bd_Rep E xm ym om s.heap → lv_has ls n (lv_args 0 avs) →
      W p l e { frames := fr, cells := 0, slots := 0, locals := lo } s m args below meth c s.heap [] 0 0 (MQ below (bd_QR E xm ym om res) args s 0 0 (fun _ => False)) (F0 m 0 ls [])) : bd_CtR l y cc n ret fr lo E avs xm ym om res := by
  refine Met.ofW (cc := cc) (maxL := n) (ret := ret) hy rfl ?_
  intro p e s m args below meth c s₁ B hml hv
  obtain ⟨rfl, hR, hK⟩ := hv
  have hts := atoms_spec (ws := .code y cc n ret :: wsL_law) B.pre
  have hl := lv_entry avs (n := n) hlen
  have ho : s.vm.findClass own = some m.cls := by rw [← hown]; exact findClass_of_methodNamed B.named
  rw [lg_entry_eq]
  exact body p e s m _ below meth c _ ⟨⟨B.exec, B.bytes, hml, ho, fun w h => hts w (List.mem_cons_of_mem _ h)⟩, hK⟩ B.returns B.notSynchronized va_S.rf hR hl
section BDR2
variable {p : Program} {l : Launch} {e : Env} {R : Room} {s : State} {m : MethodId} {args : Array Value} {below : List Frame} {meth : Method} {c : Code} {H H0 : Heap} {locs : List Loc} {cells slots mc ms : Nat} {Q : State → Prop}
variable {cc : ByteArray} {pc nL : Nat} {ls : Array Slot} {E : bd_E} {xm ym : bd_M} {om : Nat → Int64} {own : String}
theorem bd_riR (C : bd_Cx E p m c cc nL s args own) (hr : meth.sig.returnType = some .int) (hlk : meth.locks = false) (hR : bd_Rep E xm ym om H) (hS : va_S (fun _ => False) s.heap H locs) (hc : cells ≤ mc) (hs : slots ≤ ms) (hdg : decode cc pc = .ok (.ireturn, 1)) {v v' : Int32} (hv : v' = v) : W p l e R s m args below meth c H locs cells slots (MQ below (bd_QR E xm ym om (some (.int v))) args s mc ms (fun _ => False)) (F0 m pc ls [.int v']) := by
  subst hv
  refine W.widen hc hs ?_
  exact W.iret C.1.1 C.1.2.1 hr (fun t ht _ => ⟨⟨rfl, by rw [ht]; exact hR⟩, hS.F ht⟩) hS.2.2 hdg hlk
/-- a contract that writes nothing is one that may write -/
theorem bd_Ct_ofR {y : MethodName} {n fr lo : Nat} {ret : Option FieldType} {avs : List Value} {res : Option Value} (h : bd_CtR l y cc n ret fr lo E avs xm ym om res) (hA : True) : bd_CtR l y cc n ret fr lo E avs xm ym om res := h
theorem bd_cVR {y : MethodName} {bytes : ByteArray} {n idx fr lo : Nat} {ret : Option FieldType} (As rest : List Value) {v : Value} {b : Addr} {CN : String} {A0 : Nat → Prop} (C : bd_Cx E p m c cc nL s args own) (hM : bd_CtR l y bytes n ret fr lo E (.ref b :: As) xm ym om (some v)) (hR : bd_Rep E xm ym om H) (hS : va_S A0 H0 H locs)
    (hcell : ∃ cell : Cell, H[b]? = some cell ∧ cell.vm.isStatics = false ∧ s.vm.findClass CN = some cell.cls)
    (q1 : Cond.methodLink own idx y ∈ wsL_law) (q2 : Cond.instanceMethod y ∈ wsL_law) (q3 : Cond.selects CN y y ∈ wsL_law) (q4 : Cond.initialized CN ∈ wsL_law) (q5 : Cond.code y bytes n ret ∈ wsL_law)
    (hd : y.cls = CN ∧ y.cls ≠ "java/lang/invoke/MethodHandle" ∧ y.cls ≠ "java/lang/invoke/VarHandle" ∧ (parseMethodDescriptor y.desc).map (fun d => d.parameters.length) = some As.length) (hR2 : fr + 1 ≤ R.frames ∧ 8 + (n + 11) + lo ≤ R.locals)
    (hsz : ls.size = nL) (hcat : (rest.map fun v => v.category).sum ≤ 8) (hdg : decode cc pc = .ok (.invokevirtual idx, 3)) (hf : cells + 0 ≤ R.cells ∧ slots + 0 ≤ R.slots)
    (kk : ∀ (H1 : Heap) (locs1 : List Loc), bd_Rep E xm ym om H1 → va_S A0 H0 H1 locs1 → H.size ≤ H1.size → (∀ q : Nat, q < H.size → H1[q]? = H[q]?) → W p l e R s m args below meth c H1 locs1 cells slots Q (F0 m (pc + 3) ls (v :: rest))) : W p l e R s m args below meth c H locs cells slots Q (F0 m pc ls (As.reverse ++ .ref b :: rest)) := by
  intro T hT X
  obtain ⟨v', st₀, t, T', L, h0, X', hL, e1, e2, ⟨⟨hv, hb⟩, hz, hk⟩, st⟩ := va_runV (As := As) (rest := rest) (g := F0 m pc ls (As.reverse ++ .ref b :: rest)) C.1 hM (cwV As.length C.1.2.2.2.2 (bd_inV q1 q2 q3 q4 q5) rfl rfl rfl hd hR2) ⟨bd_blind, hcell, fun U hU hW => ⟨rfl, by rw [hU]; exact hR, bd_KK.warm hW C.2⟩⟩ rfl rfl hsz rfl (lv_room hcat) hdg hf T hT X
  cases hv
  rw [h0] at hz hk
  obtain ⟨t2, a1, b1⟩ := kk T'.heap (locs ++ L) (by rw [e1]; exact hb)
    ⟨Nat.le_trans hS.1 (by rw [e1]; exact hz), fun q h1 h2 => by rw [e1, hk q (Nat.lt_of_lt_of_le h1 hS.1) id]; exact hS.2.1 q h1 h2, fun q hq => by
      rcases List.mem_append.mp hq with h | h
      · exact hS.2.2 q h
      · exact absurd (hL q h) id⟩ (by rw [e1]; exact hz) (fun q h1 => by rw [e1]; exact hk q h1 id) T' rfl X'
  exact ⟨t2, st t2 a1, b1⟩
theorem bd_Tp.kept {E : bd_E} {q n : Nat} {f : Nat → Int32} {H H1 : Heap} (h : bd_Tp E q n f H) (hk : ∀ q : Nat, q < H.size → H1[q]? = H[q]?) : bd_Tp E q n f H1 := ⟨h.1.kept (hk _ h.1.lt), h.2⟩
end BDR2
