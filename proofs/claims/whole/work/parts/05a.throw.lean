/-! WHAT THE CLASS THROWS: contracts of a call that throws and leaves the world as it was -/
abbrev bd_NS : List String := ["java/lang/RuntimeException", "java/lang/Exception"]
def bd_BX : List Cond := [.declares (Bundle.initS "java/lang/RuntimeException"), .declares (Bundle.initS "java/lang/Exception"), .declares (Bundle.initS Bundle.tN), .castable "java/lang/IllegalArgumentException" "java/lang/IllegalArgumentException", .castable "java/lang/IllegalStateException" "java/lang/IllegalStateException", .castable "java/lang/IndexOutOfBoundsException" "java/lang/IndexOutOfBoundsException"]
theorem bd_BX_t : ∀ w ∈ bd_BX, w.onTables = true := by decide
theorem bd_BX_warm {s U : State} (hW : s.WarmedH U.vm) (h : ∀ w ∈ bd_BX, va_Nw w s) : ∀ w ∈ bd_BX, va_Nw w U := by
  intro w hw
  have h1 := h w hw
  simp only [bd_BX, List.mem_cons, List.not_mem_nil, or_false] at hw
  rcases hw with rfl | rfl | rfl | rfl | rfl | rfl
  · exact va_Nw.warmD hW h1
  · exact va_Nw.warmD hW h1
  · exact va_Nw.warmD hW h1
  · exact va_Nw.warmC hW h1
  · exact va_Nw.warmC hW h1
  · exact va_Nw.warmC hW h1
/-- the texts of the class, by their places -/
def bd_strs : List (Nat × String) := [(33, "a skill is 0 to 9"), (46, "there are 24 players"), (57, "seats are 1 to 8 digits from 1 to 4"), (62, "there are 6 bands"), (81, "another member is on the seat"), (94, "contests are 0 to 20"), (120, "a piece is 0 to 9 hard"), (126, "a weight is 1 to 5"), (140, "there are no bands"), (148, "no such place"), (155, "contests are 1 to 20"), (184, "no such instrument"), (186, "nothing is told by this number"), (191, "no such player"), (193, "no such band"), (199, "no such seat")]
def bd_ZZ (A : Nat → Prop) (U : State) (H : Heap) : Prop := vx_Zq Bundle.tN "UNASSIGNED_STACK" Bundle.steD A U H ∧ vx_Zq Bundle.tN "SUPPRESSED_SENTINEL" Bundle.listD A U H ∧ (∀ w ∈ bd_BX, va_Nw w U) ∧ ∀ q ∈ bd_strs, ∃ a, vk_R RX5 q.1 q.2 a U
theorem bd_ZZ.warm {A : Nat → Prop} {s U : State} {H : Heap} (hW : s.WarmedH U.vm) (h : bd_ZZ A s H) : bd_ZZ A U H :=
  ⟨vx_Zq.moved hW.alike h.1, vx_Zq.moved hW.alike h.2.1, bd_BX_warm hW h.2.2.1, fun q hq => (h.2.2.2 q hq).elim fun a ha => ⟨a, vk_R.warm hW ha⟩⟩
theorem bd_ZZ.same {A : Nat → Prop} {s U : State} {H : Heap} (hv : s.vm = U.vm) (h : bd_ZZ A s H) : bd_ZZ A U H :=
  ⟨vx_Zq.moved (by rw [hv]; exact (State.WarmedH.refl U).alike) h.1, vx_Zq.moved (by rw [hv]; exact (State.WarmedH.refl U).alike) h.2.1, fun w hw => va_Nw.same (bd_BX_t w hw) hv (h.2.2.1 w hw), fun q hq => (h.2.2.2 q hq).elim fun a ha => ⟨a, vk_R.same hv.symm ha⟩⟩
theorem bd_ZZ.kept {A : Nat → Prop} {s : State} {H H1 : Heap} (hq : ∀ a : Nat, a < H.size → ¬ A a → H1[a]? = H[a]?) (h : bd_ZZ A s H) : bd_ZZ A s H1 := ⟨h.1.kept hq, h.2.1.kept hq, h.2.2⟩
theorem bd_at_IllegalArgumentException : ∀ w ∈ (vx_atS RX5 35 "java/lang/IllegalArgumentException" bd_NS).filter goodWord, w ∈ wsL_law := fun w h => List.mem_append_left _ (List.mem_append_left _ (List.mem_append_right _ h))
theorem bd_ng_IllegalArgumentException : ∀ w ∈ (vx_atS RX5 35 "java/lang/IllegalArgumentException" bd_NS).filter (fun w => !goodWord w), w ∈ bd_BX := by decide +kernel
theorem bd_ot_IllegalArgumentException : ∀ w ∈ vx_atS RX5 35 "java/lang/IllegalArgumentException" bd_NS, vx_ot w = true := by decide +kernel
theorem bd_at_IllegalStateException : ∀ w ∈ (vx_atS RX5 48 "java/lang/IllegalStateException" bd_NS).filter goodWord, w ∈ wsL_law := fun w h => List.mem_append_left _ (List.mem_append_right _ h)
theorem bd_ng_IllegalStateException : ∀ w ∈ (vx_atS RX5 48 "java/lang/IllegalStateException" bd_NS).filter (fun w => !goodWord w), w ∈ bd_BX := by decide +kernel
theorem bd_ot_IllegalStateException : ∀ w ∈ vx_atS RX5 48 "java/lang/IllegalStateException" bd_NS, vx_ot w = true := by decide +kernel
theorem bd_at_IndexOutOfBoundsException : ∀ w ∈ (vx_atS RX5 150 "java/lang/IndexOutOfBoundsException" bd_NS).filter goodWord, w ∈ wsL_law := fun w h => List.mem_append_right _ h
theorem bd_ng_IndexOutOfBoundsException : ∀ w ∈ (vx_atS RX5 150 "java/lang/IndexOutOfBoundsException" bd_NS).filter (fun w => !goodWord w), w ∈ bd_BX := by decide +kernel
theorem bd_ot_IndexOutOfBoundsException : ∀ w ∈ vx_atS RX5 150 "java/lang/IndexOutOfBoundsException" bd_NS, vx_ot w = true := by decide +kernel
def bd_XC (E : bd_E) (En : String) (xm ym : bd_M) (om : Nat → Int64) : String → State → State → Prop := fun E' st t => E' = En ∧ bd_Rep E xm ym om t.heap ∧ va_F (bd_A E) st t
abbrev bd_No : Array Value → State → Outcome → State → Prop := fun _ _ _ _ => False
abbrev bd_PcX (E : bd_E) (avs : List Value) (xm ym : bd_M) (om : Nat → Int64) : Array Value → State → Prop := va_Pc avs (fun U => bd_Rep E xm ym om U.heap ∧ bd_KK E U ∧ bd_ZZ (bd_A E) U U.heap)
def bd_Xt (l : Launch) (y : MethodName) (cc : ByteArray) (n : Nat) (ret : Option FieldType) (fr lo mc ms : Nat) (E : bd_E) (avs : List Value) (xm ym : bd_M) (om : Nat → Int64) (En : String) : Prop :=
  vx_Met l y (.code y cc n ret :: wsL_law) { frames := fr, cells := mc, slots := ms, locals := lo } (bd_PcX E avs xm ym om) bd_No (bd_XC E En xm ym om) mc ms (bd_A E)
theorem bd_blindX {E : bd_E} {avs : List Value} {xm ym : bd_M} {om : Nat → Int64} : FrameBlind (bd_PcX E avs xm ym om) := fun a U g mk q => ⟨q.1, q.2.1, bd_KK.same (s := U) (U := U.calling g mk a) rfl q.2.2.1, bd_ZZ.same (s := U) (U := U.calling g mk a) rfl q.2.2.2⟩
theorem bd_openX {l : Launch} {y : MethodName} {cc : ByteArray} {n : Nat} {ret : Option FieldType} {fr lo mc ms : Nat} {E : bd_E} {avs : List Value} {xm ym : bd_M} {om : Nat → Int64} {En : String} (own : String) (hown : y.cls = own) (hy : plainName y.cls = true) (hlen : (lg_sl avs).length ≤ n)
    (body : ∀ (p : Program) (e : Env) (s : State) (m : MethodId) (args : Array Value) (below : List Frame) (meth : Method) (c : Code) (ls : Array Slot), bd_Cx E p m c cc n s args own → bd_ZZ (bd_A E) s s.heap → (∀ x ∈ c.exceptionTable.toList, False) → meth.sig.returnType = ret → meth.locks = false → va_S (bd_A E) s.heap s.heap [] → bd_Rep E xm ym om s.heap → lv_has ls n (lv_args 0 avs) →
      W p l e { frames := fr, cells := mc, slots := ms, locals := lo } s m args below meth c s.heap [] 0 0 (vx_MQ below bd_No (bd_XC E En xm ym om) args s mc ms (bd_A E)) (F0 m 0 ls [])) : bd_Xt l y cc n ret fr lo mc ms E avs xm ym om En := by
  refine vx_ofW (cc := cc) (maxL := n) (ret := ret) hy rfl ?_
  intro p e s m args below meth c s₁ B hml ht hv
  obtain ⟨rfl, hR, hK, hZ⟩ := hv
  have hts := atoms_spec (ws := .code y cc n ret :: wsL_law) B.pre
  have hl := lv_entry avs (n := n) hlen
  have ho : s.vm.findClass own = some m.cls := by rw [← hown]; exact findClass_of_methodNamed B.named
  rw [lg_entry_eq]
  exact body p e s m _ below meth c _ ⟨⟨B.exec, B.bytes, hml, ho, fun w h => hts w (List.mem_cons_of_mem _ h)⟩, hK⟩ hZ ht B.returns B.notSynchronized va_S.rf hR hl
section BDX
variable {p : Program} {l : Launch} {e : Env} {R : Room} {s : State} {m : MethodId} {args : Array Value} {below : List Frame} {meth : Method} {c : Code} {H : Heap} {locs : List Loc} {cells slots mc ms : Nat}
variable {cc : ByteArray} {pc nL : Nat} {ls : Array Slot} {rest : List Value} {E : bd_E} {xm ym : bd_M} {om : Nat → Int64} {own : String}
/-- throw new cls(text) -/
theorem bd_thr {ik is ic : Nat} {cls text : String} (C : bd_Cx E p m c cc nL s args RX5) (Z : bd_ZZ (bd_A E) s s.heap) (hlf : l.stackTraces = false) (hlk : meth.locks = false) (hne : ∀ x ∈ c.exceptionTable.toList, False) (hR : bd_Rep E xm ym om H) (hS : va_S (bd_A E) s.heap H locs) (hsz : ls.size = nL)
    (hcls : Bundle.fit cls = true) (qk : Cond.classLink RX5 ik cls ∈ wsL_law) (qz : Cond.initialized cls ∈ wsL_law) (hq : (is, text) ∈ bd_strs) (hat : ∀ w ∈ (vx_atS RX5 ic cls bd_NS).filter goodWord, w ∈ wsL_law) (hng : ∀ w ∈ (vx_atS RX5 ic cls bd_NS).filter (fun w => !goodWord w), w ∈ bd_BX) (hot : ∀ w ∈ vx_atS RX5 ic cls bd_NS, vx_ot w = true)
    (d0 : decode cc pc = .ok (.new ik, 3)) (d3 : decode cc (pc + 3) = .ok (.dup, 1)) (d4 : decode cc (pc + 4) = .ok (.ldc is, 2)) (d6 : decode cc (pc + 6) = .ok (.invokespecial ic, 3)) (d9 : decode cc (pc + 9) = .ok (.athrow, 1))
    (hRf : 5 < R.frames) (hRl : (rest.map fun v => v.category).sum + 82 ≤ R.locals) (hRc : cells + 1 ≤ R.cells) (hRs : slots + 6 ≤ R.slots) (hc : cells + 1 ≤ mc) (hs : slots + 6 ≤ ms) :
    W p l e R s m args below meth c H locs cells slots (vx_MQ below bd_No (bd_XC E cls xm ym om) args s mc ms (bd_A E)) (F0 m pc ls rest) := by
  obtain ⟨sa, hstr⟩ := Z.2.2.2 _ hq
  have hw := C.1.2.2.2.2
  refine vx_throwS (names := bd_NS) (A := bd_A E) (sa := sa) C.1.1 C.1.2.1 hlf C.1.2.2.2.1 hcls (by decide) (hw _ qk) (hw _ qz) hstr (vx_hat (fun w h => hw w (hat w h)) hng (fun w h => va_Nw.use (bd_BX_t w h) (Z.2.2.1 w h))) ?_ Z.1 Z.2.1 hS (hsz.trans C.1.2.2.1.symm) d0 d3 d4 d6 d9 (fun x hx => (hne x hx).elim) hRf hRl hRc hRs hlk ?_ hS.2.2 hc hs
  · intro w hw2
    rcases List.mem_cons.mp hw2 with rfl | hw2
    · rfl
    · rcases List.mem_cons.mp hw2 with rfl | hw2
      · rfl
      · exact hot w hw2
  · intro t _ h1 h2
    exact ⟨rfl, hR.kept h2, Nat.le_trans hS.1 h1, fun q a1 a2 => (h2 q (Nat.lt_of_lt_of_le a1 hS.1)).trans (hS.2.1 q a1 a2)⟩
/-- behind a call that throws: it goes on to the caller -/
theorem bd_goes {a : Array Value} {st0 : List Value} {mc1 ms1 : Nat} {En : String} (hr : vx_Run p l e R s m args below meth c H locs cells slots mc1 ms1 (F0 m pc ls st0) rest (bd_No a) (bd_XC E En xm ym om) (bd_A E)) (hlk : meth.locks = false) (hne : ∀ x ∈ c.exceptionTable.toList, False) (hS : va_S (bd_A E) s.heap H locs) (hc : cells + mc1 ≤ mc) (hs : slots + ms1 ≤ ms) :
    W p l e R s m args below meth c H locs cells slots (vx_MQ below bd_No (bd_XC E En xm ym om) args s mc ms (bd_A E)) (F0 m pc ls st0) := by
  intro T hT X
  rcases hr T hT X with ⟨v, st₀, t, T', L, h0, X', hL, e1, e2, hf, st⟩ | ⟨q, st₀, t, T', L, E', ce, h0, X', hL, e1, e2, ⟨rfl, hRt, hz, hk⟩, hce, hcv, hcl, st⟩
  · exact hf.elim
  · rw [h0] at hz hk
    obtain ⟨t2, a1, b1⟩ := vx_out (pc := pc) (ls := ls) (rest := rest) (Qc := bd_No) (XC := bd_XC E E' xm ym om) (args := args) (below := below) (free := bd_A E) (H := T'.heap) (q := q) (ce := ce) (E := E') (fun x hx => (hne x hx).elim) hlk (by rw [e1]; exact hce) hcv hcl
      (fun t9 ht9 _ => ⟨rfl, by rw [ht9, e1]; exact hRt, by rw [ht9, e1]; exact Nat.le_trans hS.1 hz, fun q9 h1 h2 => by rw [ht9, e1, hk q9 (Nat.lt_of_lt_of_le h1 hS.1) h2]; exact hS.2.1 q9 h1 h2⟩)
      (fun z hz9 => (List.mem_append.mp hz9).elim (hS.2.2 z) (hL z)) hc hs T' rfl X'
    exact ⟨t2, st.trans a1, b1⟩
theorem bd_xV {y : MethodName} {bytes : ByteArray} {n idx fr lo mc1 ms1 : Nat} {ret : Option FieldType} (As rest : List Value) {b : Addr} {CN En : String} (C : bd_Cx E p m c cc nL s args own) (Z : bd_ZZ (bd_A E) s s.heap) (hlk : meth.locks = false) (hne : ∀ x ∈ c.exceptionTable.toList, False) (hM : bd_Xt l y bytes n ret fr lo mc1 ms1 E (.ref b :: As) xm ym om En) (hR : bd_Rep E xm ym om H) (hS : va_S (bd_A E) s.heap H locs)
    (hcell : ∃ cell : Cell, H[b]? = some cell ∧ cell.vm.isStatics = false ∧ s.vm.findClass CN = some cell.cls)
    (q1 : Cond.methodLink own idx y ∈ wsL_law) (q2 : Cond.instanceMethod y ∈ wsL_law) (q3 : Cond.selects CN y y ∈ wsL_law) (q4 : Cond.initialized CN ∈ wsL_law) (q5 : Cond.code y bytes n ret ∈ wsL_law)
    (hd : y.cls = CN ∧ y.cls ≠ "java/lang/invoke/MethodHandle" ∧ y.cls ≠ "java/lang/invoke/VarHandle" ∧ (parseMethodDescriptor y.desc).map (fun d => d.parameters.length) = some As.length) (hR2 : fr + 1 ≤ R.frames ∧ 8 + (n + 11) + lo ≤ R.locals)
    (hsz : ls.size = nL) (hcat : (rest.map fun v => v.category).sum ≤ 8) (hdg : decode cc pc = .ok (.invokevirtual idx, 3)) (hf : cells + mc1 ≤ R.cells ∧ slots + ms1 ≤ R.slots) (hc : cells + mc1 ≤ mc) (hs : slots + ms1 ≤ ms) :
    W p l e R s m args below meth c H locs cells slots (vx_MQ below bd_No (bd_XC E En xm ym om) args s mc ms (bd_A E)) (F0 m pc ls (As.reverse ++ .ref b :: rest)) :=
  bd_goes (vx_runV (As := As) (rest := rest) C.1 hM (cwV As.length C.1.2.2.2.2 (bd_inV q1 q2 q3 q4 q5) rfl rfl rfl hd hR2) ⟨bd_blindX, hcell, fun U hU hW => ⟨rfl, by rw [hU]; exact hR, bd_KK.warm hW C.2, by rw [hU]; exact (Z.warm hW).kept hS.2.1⟩⟩ rfl rfl hsz rfl (lv_room hcat) hdg hf) hlk hne hS hc hs
theorem bd_xS {y : MethodName} {bytes : ByteArray} {n idx fr lo mc1 ms1 : Nat} {ret : Option FieldType} (As rest : List Value) {En : String} (C : bd_Cx E p m c cc nL s args own) (Z : bd_ZZ (bd_A E) s s.heap) (hlk : meth.locks = false) (hne : ∀ x ∈ c.exceptionTable.toList, False) (hM : bd_Xt l y bytes n ret fr lo mc1 ms1 E As xm ym om En) (hR : bd_Rep E xm ym om H) (hS : va_S (bd_A E) s.heap H locs)
    (q1 : Cond.methodLink own idx y ∈ wsL_law) (q2 : Cond.static y ∈ wsL_law) (q4 : Cond.initialized y.cls ∈ wsL_law) (q5 : Cond.code y bytes n ret ∈ wsL_law)
    (hd : y.cls ≠ "java/lang/invoke/MethodHandle" ∧ y.cls ≠ "java/lang/invoke/VarHandle" ∧ (parseMethodDescriptor y.desc).map (fun d => d.parameters.length) = some As.length) (hR2 : fr + 1 ≤ R.frames ∧ 8 + (n + 11) + lo ≤ R.locals)
    (hsz : ls.size = nL) (hcat : (rest.map fun v => v.category).sum ≤ 8) (hdg : decode cc pc = .ok (.invokestatic idx, 3)) (hf : cells + mc1 ≤ R.cells ∧ slots + ms1 ≤ R.slots) (hc : cells + mc1 ≤ mc) (hs : slots + ms1 ≤ ms) :
    W p l e R s m args below meth c H locs cells slots (vx_MQ below bd_No (bd_XC E En xm ym om) args s mc ms (bd_A E)) (F0 m pc ls (As.reverse ++ rest)) :=
  bd_goes (vx_runS (As := As) (rest := rest) C.1 hM (va_cwS As.length C.1.2.2.2.2 (bd_inS q1 q2 q4 q5) rfl rfl rfl hd hR2) ⟨bd_blindX, fun U hU hW => ⟨rfl, by rw [hU]; exact hR, bd_KK.warm hW C.2, by rw [hU]; exact (Z.warm hW).kept hS.2.1⟩⟩ rfl rfl hsz rfl (lv_room hcat) hdg hf) hlk hne hS hc hs
end BDX
