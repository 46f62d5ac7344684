/-! A CONSTRUCTOR'S CONTRACT: from what is made (P at ad, with contents ce) to P' at an ad' that agrees on P, with contents F ad' -/
def cw_Pc (E : bd_E) (avs : List Value) (P : Nat → Nat → Nat → Bool) (ad : Nat → Nat → Nat → Nat) (ce : Nat → Nat → Nat → va_E) : Array Value → State → Prop := va_Pc avs (fun U => cw_W E P ad ce U.heap ∧ bd_KK E U ∧ bd_AO U ∧ E.2.2.2.2 ≤ U.heap.size)
def cw_Q (E : bd_E) (P : Nat → Nat → Nat → Bool) (ad : Nat → Nat → Nat → Nat) (P' : Nat → Nat → Nat → Bool) (F : (Nat → Nat → Nat → Nat) → Nat → Nat → Nat → va_E) : Array Value → State → Outcome → State → Prop := fun _ st oc t => (oc = .returned none ∧ ∃ ad', (∀ f w k, P f w k = true → ad' f w k = ad f w k) ∧ cw_W E P' ad' (F ad') t.heap) ∧ va_F (bd_A E) st t
def cw_Ct (l : Launch) (y : MethodName) (cc : ByteArray) (n fr lo mc ms : Nat) (E : bd_E) (avs : List Value) (P : Nat → Nat → Nat → Bool) (ad : Nat → Nat → Nat → Nat) (ce : Nat → Nat → Nat → va_E) (P' : Nat → Nat → Nat → Bool) (F : (Nat → Nat → Nat → Nat) → Nat → Nat → Nat → va_E) : Prop :=
  Met l y (.code y cc n none :: wsL_law) { frames := fr, cells := mc, slots := ms, locals := lo } (cw_Pc E avs P ad ce) (cw_Q E P ad P' F) mc ms (bd_A E)
theorem cw_blind {E : bd_E} {avs : List Value} {P : Nat → Nat → Nat → Bool} {ad : Nat → Nat → Nat → Nat} {ce : Nat → Nat → Nat → va_E} : FrameBlind (cw_Pc E avs P ad ce) := fun a U g mk q => ⟨q.1, q.2.1, bd_KK.same (s := U) (U := U.calling g mk a) rfl q.2.2.1, bd_AO.moved (s := U) (U := U.calling g mk a) (Vm.Alike.refl U.vm) q.2.2.2.1, q.2.2.2.2⟩
theorem cw_open {l : Launch} {y : MethodName} {cc : ByteArray} {n fr lo mc ms : Nat} {E : bd_E} {avs : List Value} {P P' : Nat → Nat → Nat → Bool} {ad : Nat → Nat → Nat → Nat} {ce : Nat → Nat → Nat → va_E} {F : (Nat → Nat → Nat → Nat) → Nat → Nat → Nat → va_E} (own : String) (hown : y.cls = own) (hnm : y.name = "<init>") (hy : plainName y.cls = true) (hlen : (lg_sl avs).length ≤ n)
    (body : ∀ (p : Program) (e : Env) (s : State) (m : MethodId) (args : Array Value) (below : List Frame) (meth : Method) (c : Code) (ls : Array Slot), bd_Cx E p m c cc n s args own → bd_AO s → E.2.2.2.2 ≤ s.heap.size → meth.name = "<init>" → meth.sig.returnType = none → meth.locks = false → va_S (bd_A E) s.heap s.heap [] → cw_W E P ad ce s.heap → lv_has ls n (lv_args 0 avs) →
      W p l e { frames := fr, cells := mc, slots := ms, locals := lo } s m args below meth c s.heap [] 0 0 (MQ below (cw_Q E P ad P' F) args s mc ms (bd_A E)) (F0 m 0 ls [])) : cw_Ct l y cc n fr lo mc ms E avs P ad ce P' F := by
  refine Met.ofW (cc := cc) (maxL := n) (ret := none) hy rfl ?_
  intro p e s m args below meth c s₁ B hml hv
  obtain ⟨rfl, hW, hK, hA, h0⟩ := hv
  have hts := atoms_spec (ws := .code y cc n none :: wsL_law) B.pre
  have hl := lv_entry avs (n := n) hlen
  have ho : s.vm.findClass own = some m.cls := by rw [← hown]; exact findClass_of_methodNamed B.named
  rw [lg_entry_eq]
  exact body p e s m _ below meth c _ ⟨⟨B.exec, B.bytes, hml, ho, fun w h => hts w (List.mem_cons_of_mem _ h)⟩, hK⟩ hA h0 ((name_of_methodNamed B.named B.method).1.trans hnm) B.returns B.notSynchronized va_S.rf hW hl
section CWC
variable {p : Program} {l : Launch} {e : Env} {R : Room} {s : State} {m : MethodId} {args : Array Value} {below : List Frame} {meth : Method} {c : Code} {H H0 : Heap} {locs : List Loc} {cells slots mc ms : Nat} {Q : State → Prop}
variable {cc : ByteArray} {pc nL : Nat} {ls : Array Slot} {E : bd_E} {own : String} {P P' : Nat → Nat → Nat → Bool} {ad : Nat → Nat → Nat → Nat} {ce : Nat → Nat → Nat → va_E} {F : (Nat → Nat → Nat → Nat) → Nat → Nat → Nat → va_E}
theorem cw_obj {i : Nat} {b : Addr} {rest : List Value} (C : bd_Cx E p m c cc nL s args own) (hsz : ls.size = nL) (q1 : Cond.methodLink own i objectInit ∈ wsL_law) (hR : 1 ≤ R.frames) (hR2 : (rest.map fun v => v.category).sum + 12 ≤ R.locals) (hdg : decode cc pc = .ok (.invokespecial i, 3))
    (kk : W p l e R s m args below meth c H locs cells slots Q (F0 m (pc + 3) ls rest)) : W p l e R s m args below meth c H locs cells slots Q (F0 m pc ls (.ref b :: rest)) :=
  W.objInit C.1.1 C.1.2.1 C.1.2.2.2.1 (C.1.2.2.2.2 _ q1) (C.1.2.2.2.2 _ qi_obj) (C.1.2.2.2.2 _ qc_obj) rfl (by rw [C.1.2.2.1]; exact hsz) rfl hdg hR (by have h9 : (F0 m pc ls (Value.ref b :: rest)).monitorRoom = 0 := rfl; rw [h9]; omega) kk
theorem cw_rv {P0 : Nat → Nat → Nat → Bool} {ad0 : Nat → Nat → Nat → Nat} (C : bd_Cx E p m c cc nL s args own) (hr : meth.sig.returnType = none) (hlk : meth.locks = false) (hag : ∀ f w k, P0 f w k = true → ad f w k = ad0 f w k) (hW : cw_W E P' ad (F ad) H) (hS : va_S (bd_A E) s.heap H locs) (hc : cells ≤ mc) (hs : slots ≤ ms) (hdg : decode cc pc = .ok (.return_, 1)) : W p l e R s m args below meth c H locs cells slots (MQ below (cw_Q E P0 ad0 P' F) args s mc ms (bd_A E)) (F0 m pc ls []) := by
  refine W.widen hc hs ?_
  exact W.vret C.1.1 C.1.2.1 hr (fun t ht _ => ⟨⟨rfl, ad, hag, by rw [ht]; exact hW⟩, hS.F ht⟩) hS.2.2 hdg hlk
theorem cw_after {a : Array Value} {st0 rest : List Value} (hr : va_Run p l e R s m args below meth c H locs cells slots mc ms (F0 m pc ls st0) rest (cw_Q E P ad P' F a) (bd_A E)) (hS : va_S (bd_A E) H0 H locs)
    (kk : ∀ (H1 : Heap) (locs1 : List Loc) (ad1 : Nat → Nat → Nat → Nat), (∀ f w k, P f w k = true → ad1 f w k = ad f w k) → cw_W E P' ad1 (F ad1) H1 → va_S (bd_A E) H0 H1 locs1 → H.size ≤ H1.size → W p l e R s m args below meth c H1 locs1 (cells + mc) (slots + ms) Q (F0 m (pc + 3) ls rest)) : W p l e R s m args below meth c H locs cells slots Q (F0 m pc ls st0) := by
  intro T hT X
  obtain ⟨v, st₀, t, T', L, h0, X', hL, e1, e2, ⟨⟨hv, ad1, hag, hb⟩, hz, hk⟩, st⟩ := hr T hT X
  cases hv
  rw [h0] at hz hk
  obtain ⟨t2, a1, b1⟩ := kk T'.heap (locs ++ L) ad1 hag (by rw [e1]; exact hb)
    ⟨Nat.le_trans hS.1 (by rw [e1]; exact hz), fun q h1 h2 => by rw [e1, hk q (Nat.lt_of_lt_of_le h1 hS.1) h2]; exact hS.2.1 q h1 h2, fun q hq => by
      rcases List.mem_append.mp hq with h | h
      · exact hS.2.2 q h
      · exact hL q h⟩ (by rw [e1]; exact hz) T' rfl X'
  exact ⟨t2, st t2 a1, b1⟩
/-- a constructor called by its class's own name -/
theorem cw_cI {y : MethodName} {bytes : ByteArray} {n idx fr lo : Nat} (As rest : List Value) {b : Addr} (C : bd_Cx E p m c cc nL s args own) (hao : bd_AO s) (h0 : E.2.2.2.2 ≤ H.size) (hM : cw_Ct l y bytes n fr lo mc ms E (.ref b :: As) P ad ce P' F) (hW : cw_W E P ad ce H) (hS : va_S (bd_A E) H0 H locs)
    (q1 : Cond.methodLink own idx y ∈ wsL_law) (q2 : Cond.instanceMethod y ∈ wsL_law) (q4 : Cond.initialized y.cls ∈ wsL_law) (q5 : Cond.code y bytes n none ∈ wsL_law) (hy1 : y.name = "<init>")
    (hd : y.cls ≠ "java/lang/invoke/MethodHandle" ∧ y.cls ≠ "java/lang/invoke/VarHandle" ∧ (parseMethodDescriptor y.desc).map (fun d => d.parameters.length) = some As.length) (hR2 : fr + 1 ≤ R.frames ∧ 8 + (n + 11) + lo ≤ R.locals)
    (hsz : ls.size = nL) (hcat : (rest.map fun v => v.category).sum ≤ 8) (hdg : decode cc pc = .ok (.invokespecial idx, 3)) (hf : cells + mc ≤ R.cells ∧ slots + ms ≤ R.slots)
    (kk : ∀ (H1 : Heap) (locs1 : List Loc) (ad1 : Nat → Nat → Nat → Nat), (∀ f w k, P f w k = true → ad1 f w k = ad f w k) → cw_W E P' ad1 (F ad1) H1 → va_S (bd_A E) H0 H1 locs1 → H.size ≤ H1.size → W p l e R s m args below meth c H1 locs1 (cells + mc) (slots + ms) Q (F0 m (pc + 3) ls rest)) : W p l e R s m args below meth c H locs cells slots Q (F0 m pc ls (As.reverse ++ .ref b :: rest)) :=
  cw_after (va_runI (As := As) (rest := rest) C.1 hM (cwI As.length C.1.2.2.2.2 (bd_in q5) rfl rfl rfl (C.1.2.2.2.2 _ q4) (C.1.2.2.2.2 _ q1) (C.1.2.2.2.2 _ q2) hy1 hd hR2) ⟨cw_blind, fun U hU hW2 => ⟨rfl, by rw [hU]; exact hW, bd_KK.warm hW2 C.2, bd_AO.moved hW2.alike hao, by rw [hU]; exact h0⟩⟩ rfl rfl hsz rfl (lv_room hcat) hdg hf) hS kk
/-- .. of a nest mate -/
theorem cw_cN {y : MethodName} {bytes : ByteArray} {n idx fr lo : Nat} {host : String} (As rest : List Value) {b : Addr} (C : bd_Cx E p m c cc nL s args own) (hao : bd_AO s) (h0 : E.2.2.2.2 ≤ H.size) (hM : cw_Ct l y bytes n fr lo mc ms E (.ref b :: As) P ad ce P' F) (hW : cw_W E P ad ce H) (hS : va_S (bd_A E) H0 H locs)
    (q1 : Cond.methodLinkNest own idx y host ∈ bd_NM) (q2 : Cond.instanceMethod y ∈ wsL_law) (q4 : Cond.initialized y.cls ∈ wsL_law) (q5 : Cond.code y bytes n none ∈ wsL_law) (hy1 : y.name = "<init>")
    (hd : y.cls ≠ "java/lang/invoke/MethodHandle" ∧ y.cls ≠ "java/lang/invoke/VarHandle" ∧ (parseMethodDescriptor y.desc).map (fun d => d.parameters.length) = some As.length) (hR2 : fr + 1 ≤ R.frames ∧ 8 + (n + 11) + lo ≤ R.locals)
    (hsz : ls.size = nL) (hcat : (rest.map fun v => v.category).sum ≤ 8) (hdg : decode cc pc = .ok (.invokespecial idx, 3)) (hf : cells + mc ≤ R.cells ∧ slots + ms ≤ R.slots)
    (kk : ∀ (H1 : Heap) (locs1 : List Loc) (ad1 : Nat → Nat → Nat → Nat), (∀ f w k, P f w k = true → ad1 f w k = ad f w k) → cw_W E P' ad1 (F ad1) H1 → va_S (bd_A E) H0 H1 locs1 → H.size ≤ H1.size → W p l e R s m args below meth c H1 locs1 (cells + mc) (slots + ms) Q (F0 m (pc + 3) ls rest)) : W p l e R s m args below meth c H locs cells slots Q (F0 m pc ls (As.reverse ++ .ref b :: rest)) :=
  cw_after (va_runIN (As := As) (rest := rest) C.1 hM ⟨va_cnB As.length C.1.2.2.2.2 (bd_in q5) rfl rfl rfl (C.2.2.2 _ q1) (C.1.2.2.2.2 _ q4) hd hR2, hy1, C.1.2.2.2.2 _ q2⟩ ⟨cw_blind, fun U hU hW2 => ⟨rfl, by rw [hU]; exact hW, bd_KK.warm hW2 C.2, bd_AO.moved hW2.alike hao, by rw [hU]; exact h0⟩⟩ rfl rfl hsz rfl (lv_room hcat) hdg hf) hS kk
end CWC
