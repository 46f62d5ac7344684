/-! THE LAW'S HELPERS: methods with a table of their own that call the class, and catch what it throws -/
def bd_NC (U : State) : Prop := va_Nc "java/lang/IllegalStateException" "java/lang/IllegalArgumentException" U ∧ va_Nc "java/lang/IllegalStateException" "java/lang/IndexOutOfBoundsException" U ∧ va_Nc "java/lang/IllegalArgumentException" "java/lang/IndexOutOfBoundsException" U
theorem bd_NC.moved {s U : State} (h : s.vm.Alike U.vm) (a : bd_NC s) : bd_NC U := ⟨va_Nc.moved h a.1, va_Nc.moved h a.2.1, va_Nc.moved h a.2.2⟩
abbrev bd_PcL (E : bd_E) (avs : List Value) (xm ym : bd_M) (om : Nat → Int64) : Array Value → State → Prop := va_Pc avs (fun U => bd_Rep E xm ym om U.heap ∧ bd_KK E U ∧ bd_ZZ (bd_A E) U U.heap ∧ bd_NC U)
def bd_CL (l : Launch) (y : MethodName) (cc : ByteArray) (n : Nat) (hh : List (Nat × Nat × Nat × Nat)) (fr lo mc ms : Nat) (E : bd_E) (avs : List Value) (xm ym : bd_M) (om : Nat → Int64) (xm' ym' : bd_M) (om' : Nat → Int64) (res : Int32) : Prop :=
  Met l y (.codeWith y cc n (some .int) hh :: wsL_law) { frames := fr, cells := mc, slots := ms, locals := lo } (bd_PcL E avs xm ym om) (bd_Q E xm' ym' om' (some (.int res))) mc ms (bd_A E)
theorem bd_blindL {E : bd_E} {avs : List Value} {xm ym : bd_M} {om : Nat → Int64} : FrameBlind (bd_PcL E avs xm ym om) := fun a U g mk q => ⟨q.1, q.2.1, bd_KK.same (s := U) (U := U.calling g mk a) rfl q.2.2.1, bd_ZZ.same (s := U) (U := U.calling g mk a) rfl q.2.2.2.1, bd_NC.moved (s := U) (U := U.calling g mk a) (Vm.Alike.refl U.vm) q.2.2.2.2⟩
theorem bd_metH {l : Launch} {y : MethodName} {ws ws' : List Cond} {rm : Room} {Pc : Array Value → State → Prop} {Qc : Array Value → State → Outcome → State → Prop} {mc ms : Nat} {free : Addr → Prop} {cc : ByteArray} {maxL : Nat} {ret : Option FieldType} {hh : List (Nat × Nat × Nat × Nat)}
    (hy : plainName y.cls = true) (hw : ws = Cond.codeWith y cc maxL ret hh :: ws')
    (body : ∀ p e s m args below meth c s₁, BodyLoose p l y (headSpec ws rm) cc maxL ret e s m args below meth c s₁ → c.maxLocals = maxL → Pc args s →
      W p l e (headSpec ws rm).room s m args below meth c s.heap [] 0 0 (MQ below Qc args s mc ms free) (entryFrame m args maxL)) : Met l y ws rm Pc Qc mc ms free := by
  refine MetFree.of_bodyS (code := cc) (maxLocals := maxL) (ret := ret) hy ?_ ?_
  · intro args s m h hn
    obtain ⟨m9, meth, c, hn9, h1, h2, h3, h4, -, h5, h6, -⟩ := Cond.codeWith_spec (atoms_spec (ws := ws) h _ (by rw [hw]; exact List.mem_cons_self))
    cases hn.symm.trans hn9
    exact ⟨meth, c, h1, h2, h3, h4, h5, h6⟩
  · intro p e s m args below meth c s₁ B hml hP _
    have hh0 : s₁.heap = s.heap := by rw [B.state]; rfl
    obtain ⟨t, a1, o, b1, b2, b3⟩ := body p e s m args below meth c s₁ B hml hP s₁ hh0 (Stand.of_body B)
    exact ⟨t, o, a1, b1, b2, ⟨b3.1, b3.2⟩⟩
theorem bd_openL {l : Launch} {y : MethodName} {cc : ByteArray} {n : Nat} {hh : List (Nat × Nat × Nat × Nat)} {fr lo mc ms : Nat} {E : bd_E} {avs : List Value} {xm ym xm' ym' : bd_M} {om om' : Nat → Int64} {res : Int32} (own : String) (hown : y.cls = own) (hy : plainName y.cls = true) (hlen : (lg_sl avs).length ≤ n)
    (body : ∀ (p : Program) (e : Env) (s : State) (m : MethodId) (args : Array Value) (below : List Frame) (meth : Method) (c : Code) (ls : Array Slot), bd_Cx E p m c cc n s args own → bd_ZZ (bd_A E) s s.heap → bd_NC s → c.exceptionTable.toList = tableOf hh → meth.sig.returnType = some .int → meth.locks = false → va_S (bd_A E) s.heap s.heap [] → bd_Rep E xm ym om s.heap → lv_has ls n (lv_args 0 avs) →
      W p l e { frames := fr, cells := mc, slots := ms, locals := lo } s m args below meth c s.heap [] 0 0 (MQ below (bd_Q E xm' ym' om' (some (.int res))) args s mc ms (bd_A E)) (F0 m 0 ls [])) : bd_CL l y cc n hh fr lo mc ms E avs xm ym om xm' ym' om' res := by
  refine bd_metH (cc := cc) (maxL := n) (ret := some .int) (hh := hh) hy rfl ?_
  intro p e s m args below meth c s₁ B hml hv
  obtain ⟨rfl, hR, hK, hZ, hN⟩ := hv
  have hts := atoms_spec (ws := .codeWith y cc n (some .int) hh :: wsL_law) B.pre
  have hl := lv_entry avs (n := n) hlen
  have ho : s.vm.findClass own = some m.cls := by rw [← hown]; exact findClass_of_methodNamed B.named
  have htb := vx_table (x := y) B (hts _ List.mem_cons_self)
  rw [lg_entry_eq]
  exact body p e s m _ below meth c _ ⟨⟨B.exec, B.bytes, hml, ho, fun w h => hts w (List.mem_cons_of_mem _ h)⟩, hK⟩ hZ hN htb B.returns B.notSynchronized va_S.rf hR hl
section BDL
variable {p : Program} {l : Launch} {e : Env} {R : Room} {s : State} {m : MethodId} {args : Array Value} {below : List Frame} {meth : Method} {c : Code} {H H0 : Heap} {locs : List Loc} {cells slots mc ms : Nat} {Q : State → Prop}
variable {cc : ByteArray} {pc nL : Nat} {ls : Array Slot} {rest : List Value} {E : bd_E} {xm ym : bd_M} {om : Nat → Int64} {own : String}
theorem bd_stO (C : bd_Cx E p m c cc nL s args own) (hR : bd_Rep E xm ym om H) (hS : va_S (bd_A E) H0 H locs) {x : Int64} (hdg : decode cc pc = .ok (.lastore, 1)) (kk : ∀ (H1 : Heap) (locs1 : List Loc), bd_Rep E xm ym (vp_updL om 0 x) H1 → va_S (bd_A E) H0 H1 locs1 → W p l e R s m args below meth c H1 locs1 cells slots Q (F0 m (pc + 1) ls rest)) : W p l e R s m args below meth c H locs cells slots Q (F0 m pc ls (.long x :: .int 0 :: .ref (bd_ea E 30 0 0) :: rest)) := by
  obtain ⟨q, hq⟩ := bd_pos (f := 30) (w := 0) (k := 0) ⟨by decide, by decide, by decide⟩
  exact va_last (D := bd_eD E) C.1.1 C.1.2.1 C.2.1 hR.P hR.D hS q 4 (bd_ws_at hq) rfl (vp_in_nI (n := 0) (N := 1) (by decide) (by decide)) hdg (fun H1 locs1 hP _ hS1 => kk H1 locs1 (bd_back hR hq bd_upO hP) hS1)
theorem bd_ldO (C : bd_Cx E p m c cc nL s args own) (hR : bd_Rep E xm ym om H) (hdg : decode cc pc = .ok (.laload, 1)) (kk : W p l e R s m args below meth c H locs cells slots Q (F0 m (pc + 1) ls (.long (om 0) :: rest))) : W p l e R s m args below meth c H locs cells slots Q (F0 m pc ls (.int 0 :: .ref (bd_ea E 30 0 0) :: rest)) := by
  obtain ⟨q, hq⟩ := bd_pos (f := 30) (w := 0) (k := 0) ⟨by decide, by decide, by decide⟩
  exact va_lald (D := bd_eD E) C.1.1 C.1.2.1 C.2.1 hR.P q 4 (bd_ws_at hq) rfl (vp_in_nI (n := 0) (N := 1) (by decide) (by decide)) hdg kk
/-- a call of the class that throws, with the exception at hand -/
theorem bd_xC {y : MethodName} {bytes : ByteArray} {n idx fr lo mc1 ms1 : Nat} {ret : Option FieldType} (As rest : List Value) {b : Addr} {CN En : String} (C : bd_Cx E p m c cc nL s args own) (Z : bd_ZZ (bd_A E) s s.heap) (hM : bd_Xt l y bytes n ret fr lo mc1 ms1 E (.ref b :: As) xm ym om En) (hR : bd_Rep E xm ym om H) (hS : va_S (bd_A E) s.heap H locs)
    (hcell : ∃ cell : Cell, H[b]? = some cell ∧ cell.vm.isStatics = false ∧ s.vm.findClass CN = some cell.cls)
    (q1 : Cond.methodLink own idx y ∈ wsL_law) (q2 : Cond.instanceMethod y ∈ wsL_law) (q3 : Cond.selects CN y y ∈ wsL_law) (q4 : Cond.initialized CN ∈ wsL_law) (q5 : Cond.code y bytes n ret ∈ wsL_law)
    (hd : y.cls = CN ∧ y.cls ≠ "java/lang/invoke/MethodHandle" ∧ y.cls ≠ "java/lang/invoke/VarHandle" ∧ (parseMethodDescriptor y.desc).map (fun d => d.parameters.length) = some As.length) (hR2 : fr + 1 ≤ R.frames ∧ 8 + (n + 11) + lo ≤ R.locals)
    (hsz : ls.size = nL) (hcat : (rest.map fun v => v.category).sum ≤ 8) (hdg : decode cc pc = .ok (.invokevirtual idx, 3)) (hf : cells + mc1 ≤ R.cells ∧ slots + ms1 ≤ R.slots)
    (kk : ∀ (H1 : Heap) (locs1 : List Loc) (q9 : Addr) (ce : Cell), bd_Rep E xm ym om H1 → va_S (bd_A E) s.heap H1 locs1 → H1[q9]? = some ce → ce.vm = .none → s.vm.findClass En = some ce.cls → vx_W p l e R s m args below meth c H1 locs1 (cells + mc1) (slots + ms1) Q (F0 m pc ls rest) q9) : W p l e R s m args below meth c H locs cells slots Q (F0 m pc ls (As.reverse ++ .ref b :: rest)) := by
  have hr := vx_runV (e := e) (below := below) (meth := meth) (As := As) (rest := rest) (locs := locs) (cells := cells) (slots := slots) C.1 hM (cwV As.length C.1.2.2.2.2 (bd_inV q1 q2 q3 q4 q5) rfl rfl rfl hd hR2) ⟨bd_blindX, hcell, fun U hU hW => ⟨rfl, by rw [hU]; exact hR, bd_KK.warm hW C.2, by rw [hU]; exact (Z.warm hW).kept hS.2.1⟩⟩ (g := F0 m pc ls (As.reverse ++ .ref b :: rest)) rfl rfl hsz rfl (lv_room hcat) hdg hf
  intro T hT X
  rcases hr T hT X with ⟨v, st₀, t, T', L, h0, X', hL, e1, e2, hf, st⟩ | ⟨q, st₀, t, T', L, E', ce, h0, X', hL, e1, e2, ⟨rfl, hRt, hz, hk⟩, hce, hcv, hcl, st⟩
  · exact hf.elim
  · rw [h0] at hz hk
    obtain ⟨t2, a1, b1⟩ := kk T'.heap (locs ++ L) q ce (by rw [e1]; exact hRt)
      ⟨by rw [e1]; exact Nat.le_trans hS.1 hz, fun q9 h1 h2 => by rw [e1, hk q9 (Nat.lt_of_lt_of_le h1 hS.1) h2]; exact hS.2.1 q9 h1 h2, fun z hz9 => (List.mem_append.mp hz9).elim (hS.2.2 z) (hL z)⟩ (by rw [e1]; exact hce) hcv hcl T' rfl X'
    exact ⟨t2, st.trans a1, b1⟩
/-- a static call of a helper -/
theorem bd_cL {y : MethodName} {bytes : ByteArray} {n idx fr lo : Nat} {hh : List (Nat × Nat × Nat × Nat)} {xm' ym' : bd_M} {om' : Nat → Int64} (As rest : List Value) {v : Int32} (C : bd_Cx E p m c cc nL s args own) (Z : bd_ZZ (bd_A E) s s.heap) (N : bd_NC s) (hM : bd_CL l y bytes n hh fr lo mc ms E As xm ym om xm' ym' om' v) (hR : bd_Rep E xm ym om H) (hS : va_S (bd_A E) s.heap H locs)
    (q1 : Cond.methodLink own idx y ∈ wsL_law) (q2 : Cond.static y ∈ wsL_law) (q4 : Cond.initialized y.cls ∈ wsL_law) (q5 : Cond.codeWith y bytes n (some .int) hh ∈ wsL_law)
    (hd : y.cls ≠ "java/lang/invoke/MethodHandle" ∧ y.cls ≠ "java/lang/invoke/VarHandle" ∧ (parseMethodDescriptor y.desc).map (fun d => d.parameters.length) = some As.length) (hR2 : fr + 1 ≤ R.frames ∧ 8 + (n + 11) + lo ≤ R.locals)
    (hsz : ls.size = nL) (hcat : (rest.map fun v => v.category).sum ≤ 8) (hdg : decode cc pc = .ok (.invokestatic idx, 3)) (hf : cells + mc ≤ R.cells ∧ slots + ms ≤ R.slots)
    (kk : ∀ (H1 : Heap) (locs1 : List Loc), bd_Rep E xm' ym' om' H1 → va_S (bd_A E) s.heap H1 locs1 → H.size ≤ H1.size → W p l e R s m args below meth c H1 locs1 (cells + mc) (slots + ms) Q (F0 m (pc + 3) ls (.int v :: rest))) : W p l e R s m args below meth c H locs cells slots Q (F0 m pc ls (As.reverse ++ rest)) := by
  have hin : GoodIn wsL_law (va_wsS own idx y (.codeWith y bytes n (some .int) hh :: wsL_law)) := by
    intro w hw
    have hm : w ∈ wsL_law := by
      unfold va_wsS at hw
      simp only [List.mem_cons, List.mem_append, List.not_mem_nil, or_false] at hw
      rcases hw with (rfl | rfl | rfl) | rfl | hw <;> assumption
    exact ⟨hm, bd_goodW _ hm⟩
  exact bd_after (vx_runSW (As := As) (rest := rest) C.1 hM (vx_cwSW As.length C.1.2.2.2.2 hin rfl rfl rfl hd hR2) ⟨bd_blindL, fun U hU hW => ⟨rfl, by rw [hU]; exact hR, bd_KK.warm hW C.2, by rw [hU]; exact (Z.warm hW).kept hS.2.1, bd_NC.moved hW.alike N⟩⟩ rfl rfl hsz rfl (lv_room hcat) hdg hf) hS kk
end BDL
