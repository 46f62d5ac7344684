/-! CONTRACTS over the world: a method takes the memories xm, ym, om to xm', ym', om' and answers res; its start, its ends, its calls -/
def bd_Q (E : bd_E) (xm' ym' : bd_M) (om' : Nat → Int64) (res : Option Value) : Array Value → State → Outcome → State → Prop := fun _ st oc t => (oc = .returned res ∧ bd_Rep E xm' ym' om' t.heap) ∧ va_F (bd_A E) st t
abbrev bd_Pc (E : bd_E) (avs : List Value) (xm ym : bd_M) (om : Nat → Int64) : Array Value → State → Prop := va_Pc avs (fun U => bd_Rep E xm ym om U.heap ∧ bd_KK E U)
def bd_Ct (l : Launch) (y : MethodName) (cc : ByteArray) (n : Nat) (ret : Option FieldType) (fr lo mc ms : Nat) (E : bd_E) (avs : List Value) (xm ym : bd_M) (om : Nat → Int64) (xm' ym' : bd_M) (om' : Nat → Int64) (res : Option Value) : Prop :=
  Met l y (.code y cc n ret :: wsL_law) { frames := fr, cells := mc, slots := ms, locals := lo } (bd_Pc E avs xm ym om) (bd_Q E xm' ym' om' res) mc ms (bd_A E)
theorem bd_open {l : Launch} {y : MethodName} {cc : ByteArray} {n : Nat} {ret : Option FieldType} {fr lo mc ms : Nat} {E : bd_E} {avs : List Value} {xm ym xm' ym' : bd_M} {om om' : Nat → Int64} {res : Option Value} (own : String) (hown : y.cls = own) (hy : plainName y.cls = true) (hlen : (lg_sl avs).length ≤ n)
    (body : ∀ (p : Program) (e : Env) (s : State) (m : MethodId) (args : Array Value) (below : List Frame) (meth : Method) (c : Code) (ls : Array Slot), bd_Cx E p m c cc n s args own → meth.sig.returnType = ret → meth.locks = false → va_S (bd_A E) s.heap s.heap [] → bd_Rep E xm ym om s.heap → lv_has ls n (lv_args 0 avs) →
      W p l e { frames := fr, cells := mc, slots := ms, locals := lo } s m args below meth c s.heap [] 0 0 (MQ below (bd_Q E xm' ym' om' res) args s mc ms (bd_A E)) (F0 m 0 ls [])) : bd_Ct l y cc n ret fr lo mc ms E avs xm ym om xm' ym' om' res := by
  refine Met.ofW (cc := cc) (maxL := n) (ret := ret) hy rfl ?_
  intro p e s m args below meth c s₁ B hml hv
  obtain ⟨rfl, hR, hK⟩ := hv
  have hts := atoms_spec (ws := .code y cc n ret :: wsL_law) B.pre
  have hl := lv_entry avs (n := n) hlen
  have ho : s.vm.findClass own = some m.cls := by rw [← hown]; exact findClass_of_methodNamed B.named
  rw [lg_entry_eq]
  exact body p e s m _ below meth c _ ⟨⟨B.exec, B.bytes, hml, ho, fun w h => hts w (List.mem_cons_of_mem _ h)⟩, hK⟩ B.returns B.notSynchronized va_S.rf hR hl
section BDC
variable {p : Program} {l : Launch} {e : Env} {R : Room} {s : State} {m : MethodId} {args : Array Value} {below : List Frame} {meth : Method} {c : Code} {H H0 : Heap} {locs : List Loc} {cells slots mc ms : Nat} {Q : State → Prop}
variable {cc : ByteArray} {pc nL : Nat} {ls : Array Slot} {rest : List Value} {E : bd_E} {xm ym xm' ym' : bd_M} {om om' : Nat → Int64} {own : String}
theorem bd_ri (C : bd_Cx E p m c cc nL s args own) (hr : meth.sig.returnType = some .int) (hlk : meth.locks = false) (hR : bd_Rep E xm ym om H) (hS : va_S (bd_A E) s.heap H locs) (hc : cells ≤ mc) (hs : slots ≤ ms) (hdg : decode cc pc = .ok (.ireturn, 1)) {v v' : Int32} (hv : v' = v) : W p l e R s m args below meth c H locs cells slots (MQ below (bd_Q E xm ym om (some (.int v))) args s mc ms (bd_A E)) (F0 m pc ls [.int v']) := by
  subst hv
  refine W.widen hc hs ?_
  exact W.iret C.1.1 C.1.2.1 hr (fun t ht _ => ⟨⟨rfl, by rw [ht]; exact hR⟩, hS.F ht⟩) hS.2.2 hdg hlk
theorem bd_rz (C : bd_Cx E p m c cc nL s args own) (hr : meth.sig.returnType = some .boolean) (hlk : meth.locks = false) (hR : bd_Rep E xm ym om H) (hS : va_S (bd_A E) s.heap H locs) (hc : cells ≤ mc) (hs : slots ≤ ms) (hdg : decode cc pc = .ok (.ireturn, 1)) {v v' : Int32} (hn : narrow .boolean (.int v') = .int v') (hv : v' = v) : W p l e R s m args below meth c H locs cells slots (MQ below (bd_Q E xm ym om (some (.int v))) args s mc ms (bd_A E)) (F0 m pc ls [.int v']) := by
  subst hv
  refine W.widen hc hs ?_
  exact W.zret C.1.1 C.1.2.1 hr hn (fun t ht _ => ⟨⟨rfl, by rw [ht]; exact hR⟩, hS.F ht⟩) hS.2.2 hdg hlk
theorem bd_rv (C : bd_Cx E p m c cc nL s args own) (hr : meth.sig.returnType = none) (hlk : meth.locks = false) (hR : bd_Rep E xm ym om H) (hS : va_S (bd_A E) s.heap H locs) (hc : cells ≤ mc) (hs : slots ≤ ms) (hdg : decode cc pc = .ok (.return_, 1)) : W p l e R s m args below meth c H locs cells slots (MQ below (bd_Q E xm ym om none) args s mc ms (bd_A E)) (F0 m pc ls []) := by
  refine W.widen hc hs ?_
  exact W.vret C.1.1 C.1.2.1 hr (fun t ht _ => ⟨⟨rfl, by rw [ht]; exact hR⟩, hS.F ht⟩) hS.2.2 hdg hlk
theorem bd_rl (C : bd_Cx E p m c cc nL s args own) (hr : meth.sig.returnType = some .long) (hlk : meth.locks = false) (hR : bd_Rep E xm ym om H) (hS : va_S (bd_A E) s.heap H locs) (hc : cells ≤ mc) (hs : slots ≤ ms) (hdg : decode cc pc = .ok (.lreturn, 1)) {v v' : Int64} (hv : v' = v) : W p l e R s m args below meth c H locs cells slots (MQ below (bd_Q E xm ym om (some (.long v))) args s mc ms (bd_A E)) (F0 m pc ls [.long v']) := by
  subst hv
  refine W.widen hc hs ?_
  exact W.lret C.1.1 C.1.2.1 hr (fun t ht _ => ⟨⟨rfl, by rw [ht]; exact hR⟩, hS.F ht⟩) hS.2.2 hdg hlk
theorem bd_ra (C : bd_Cx E p m c cc nL s args own) {rt : FieldType} (hr : meth.sig.returnType = some rt) (hrt : (∃ n, rt = .object n) ∨ ∃ t, rt = .array t) (hlk : meth.locks = false) (hR : bd_Rep E xm ym om H) (hS : va_S (bd_A E) s.heap H locs) (hc : cells ≤ mc) (hs : slots ≤ ms) (hdg : decode cc pc = .ok (.areturn, 1)) {v v' : Value} (ha : v' = .null ∨ ∃ a, v' = .ref a) (hv : v' = v) : W p l e R s m args below meth c H locs cells slots (MQ below (bd_Q E xm ym om (some v)) args s mc ms (bd_A E)) (F0 m pc ls [v']) := by
  subst hv
  refine W.widen hc hs ?_
  exact W.aret C.1.1 C.1.2.1 hr hrt ha (fun t ht _ => ⟨⟨rfl, by rw [ht]; exact hR⟩, hS.F ht⟩) hS.2.2 hdg hlk
theorem bd_blind {avs : List Value} : FrameBlind (bd_Pc E avs xm ym om) := fun a U g mk q => ⟨q.1, q.2.1, bd_KK.same (s := U) (U := U.calling g mk a) rfl q.2.2⟩
/-- the words of a callee, when all words are one list -/
theorem bd_in {y : MethodName} {bytes : ByteArray} {n : Nat} {ret : Option FieldType} (h : Cond.code y bytes n ret ∈ wsL_law) : GoodIn wsL_law (.code y bytes n ret :: wsL_law) := by
  intro w hw
  rcases List.mem_cons.mp hw with rfl | hw
  · exact ⟨h, bd_goodW _ h⟩
  · exact ⟨hw, bd_goodW _ hw⟩
theorem bd_inV {C : String} {idx : Nat} {y : MethodName} {bytes : ByteArray} {n : Nat} {ret : Option FieldType} (h1 : Cond.methodLink own idx y ∈ wsL_law) (h2 : Cond.instanceMethod y ∈ wsL_law) (h3 : Cond.selects C y y ∈ wsL_law) (h4 : Cond.initialized C ∈ wsL_law) (h5 : Cond.code y bytes n ret ∈ wsL_law) : GoodIn wsL_law (wsV own idx C y (.code y bytes n ret :: wsL_law)) := by
  intro w hw
  unfold wsV at hw
  rcases List.mem_append.mp hw with hw | hw
  · have hm : w ∈ wsL_law := by
      simp only [List.mem_cons, List.not_mem_nil, or_false] at hw
      rcases hw with rfl | rfl | rfl | rfl <;> assumption
    exact ⟨hm, bd_goodW _ hm⟩
  · exact bd_in h5 w hw
theorem bd_inS {idx : Nat} {y : MethodName} {bytes : ByteArray} {n : Nat} {ret : Option FieldType} (h1 : Cond.methodLink own idx y ∈ wsL_law) (h2 : Cond.static y ∈ wsL_law) (h4 : Cond.initialized y.cls ∈ wsL_law) (h5 : Cond.code y bytes n ret ∈ wsL_law) : GoodIn wsL_law (va_wsS own idx y (.code y bytes n ret :: wsL_law)) := by
  intro w hw
  unfold va_wsS at hw
  rcases List.mem_append.mp hw with hw | hw
  · have hm : w ∈ wsL_law := by
      simp only [List.mem_cons, List.not_mem_nil, or_false] at hw
      rcases hw with rfl | rfl | rfl <;> assumption
    exact ⟨hm, bd_goodW _ hm⟩
  · exact bd_in h5 w hw
/-- behind a call -/
theorem bd_after {xm' ym' : bd_M} {om' : Nat → Int64} {res : Option Value} {a : Array Value} {st0 : List Value} (hr : va_Run p l e R s m args below meth c H locs cells slots mc ms (F0 m pc ls st0) rest (bd_Q E xm' ym' om' res a) (bd_A E)) (hS : va_S (bd_A E) H0 H locs)
    (kk : ∀ (H1 : Heap) (locs1 : List Loc), bd_Rep E xm' ym' om' H1 → va_S (bd_A E) H0 H1 locs1 → H.size ≤ H1.size → W p l e R s m args below meth c H1 locs1 (cells + mc) (slots + ms) Q (F0 m (pc + 3) ls (res.toList ++ rest))) : W p l e R s m args below meth c H locs cells slots Q (F0 m pc ls st0) := by
  intro T hT X
  obtain ⟨v, st₀, t, T', L, h0, X', hL, e1, e2, ⟨⟨hv, hb⟩, hz, hk⟩, st⟩ := hr T hT X
  cases hv
  rw [h0] at hz hk
  obtain ⟨t2, a1, b1⟩ := kk T'.heap (locs ++ L) (by rw [e1]; exact hb)
    ⟨Nat.le_trans hS.1 (by rw [e1]; exact hz), fun q h1 h2 => by rw [e1, hk q (Nat.lt_of_lt_of_le h1 hS.1) h2]; exact hS.2.1 q h1 h2, fun q hq => by
      rcases List.mem_append.mp hq with h | h
      · exact hS.2.2 q h
      · exact hL q h⟩ (by rw [e1]; exact hz) T' rfl X'
  exact ⟨t2, st t2 a1, b1⟩
theorem bd_recv (hK : bd_KK E s) (hR : bd_Rep E xm ym om H) {f w k ci : Nat} {fs : List Value} {q : vw_C} (hd : bd_dm f w k) (he : bd_ce E xm ym om f w k = .inr (ci, fs)) (hc : vwCl[ci]? = some q) : ∃ cell : Cell, H[bd_ea E f w k]? = some cell ∧ cell.vm.isStatics = false ∧ s.vm.findClass q.1 = some cell.cls := by
  have h1 := hR.2.2 f w k hd
  rw [he] at h1
  exact va_recv (ws := [(bd_ea E f w k, .inr (ci, fs))]) (q0 := 0) hK.1 (fun k' q' h' => by
    cases k' with
    | zero => cases h'; exact h1
    | succ n => simp at h') hc rfl
theorem bd_cV {y : MethodName} {bytes : ByteArray} {n idx fr lo : Nat} {ret : Option FieldType} {As : List Value} {res : Option Value} {b : Addr} {CN : String} {st0 : List Value} (C : bd_Cx E p m c cc nL s args own) (hM : bd_Ct l y bytes n ret fr lo mc ms E (.ref b :: As) xm ym om xm' ym' om' res) (hR : bd_Rep E xm ym om H) (hS : va_S (bd_A E) H0 H locs)
    (hcell : ∃ cell : Cell, H[b]? = some cell ∧ cell.vm.isStatics = false ∧ s.vm.findClass CN = some cell.cls)
    (q1 : Cond.methodLink own idx y ∈ wsL_law) (q2 : Cond.instanceMethod y ∈ wsL_law) (q3 : Cond.selects CN y y ∈ wsL_law) (q4 : Cond.initialized CN ∈ wsL_law) (q5 : Cond.code y bytes n ret ∈ wsL_law)
    (hd : y.cls = CN ∧ y.cls ≠ "java/lang/invoke/MethodHandle" ∧ y.cls ≠ "java/lang/invoke/VarHandle" ∧ (parseMethodDescriptor y.desc).map (fun d => d.parameters.length) = some As.length) (hR2 : fr + 1 ≤ R.frames ∧ 8 + (n + 11) + lo ≤ R.locals)
    (hsz : ls.size = nL) (hst : st0 = As.reverse ++ .ref b :: rest) (hcat : (rest.map fun v => v.category).sum ≤ 8) (hdg : decode cc pc = .ok (.invokevirtual idx, 3)) (hf : cells + mc ≤ R.cells ∧ slots + ms ≤ R.slots)
    (kk : ∀ (H1 : Heap) (locs1 : List Loc), bd_Rep E xm' ym' om' H1 → va_S (bd_A E) H0 H1 locs1 → H.size ≤ H1.size → W p l e R s m args below meth c H1 locs1 (cells + mc) (slots + ms) Q (F0 m (pc + 3) ls (res.toList ++ rest))) : W p l e R s m args below meth c H locs cells slots Q (F0 m pc ls st0) :=
  bd_after (va_runV (As := As) (rest := rest) C.1 hM (cwV As.length C.1.2.2.2.2 (bd_inV q1 q2 q3 q4 q5) rfl rfl rfl hd hR2) ⟨bd_blind, hcell, fun U hU hW => ⟨rfl, by rw [hU]; exact hR, bd_KK.warm hW C.2⟩⟩ rfl rfl hsz hst (lv_room hcat) hdg hf) hS kk
theorem bd_cS {y : MethodName} {bytes : ByteArray} {n idx fr lo : Nat} {ret : Option FieldType} {As : List Value} {res : Option Value} {st0 : List Value} (C : bd_Cx E p m c cc nL s args own) (hM : bd_Ct l y bytes n ret fr lo mc ms E As xm ym om xm' ym' om' res) (hR : bd_Rep E xm ym om H) (hS : va_S (bd_A E) H0 H locs)
    (q1 : Cond.methodLink own idx y ∈ wsL_law) (q2 : Cond.static y ∈ wsL_law) (q4 : Cond.initialized y.cls ∈ wsL_law) (q5 : Cond.code y bytes n ret ∈ wsL_law)
    (hd : y.cls ≠ "java/lang/invoke/MethodHandle" ∧ y.cls ≠ "java/lang/invoke/VarHandle" ∧ (parseMethodDescriptor y.desc).map (fun d => d.parameters.length) = some As.length) (hR2 : fr + 1 ≤ R.frames ∧ 8 + (n + 11) + lo ≤ R.locals)
    (hsz : ls.size = nL) (hst : st0 = As.reverse ++ rest) (hcat : (rest.map fun v => v.category).sum ≤ 8) (hdg : decode cc pc = .ok (.invokestatic idx, 3)) (hf : cells + mc ≤ R.cells ∧ slots + ms ≤ R.slots)
    (kk : ∀ (H1 : Heap) (locs1 : List Loc), bd_Rep E xm' ym' om' H1 → va_S (bd_A E) H0 H1 locs1 → H.size ≤ H1.size → W p l e R s m args below meth c H1 locs1 (cells + mc) (slots + ms) Q (F0 m (pc + 3) ls (res.toList ++ rest))) : W p l e R s m args below meth c H locs cells slots Q (F0 m pc ls st0) :=
  bd_after (va_runS (As := As) (rest := rest) C.1 hM (va_cwS As.length C.1.2.2.2.2 (bd_inS q1 q2 q4 q5) rfl rfl rfl hd hR2) ⟨bd_blind, fun U hU hW => ⟨rfl, by rw [hU]; exact hR, bd_KK.warm hW C.2⟩⟩ rfl rfl hsz hst (lv_room hcat) hdg hf) hS kk
/-- a truth value on top -/
theorem bd_ifeq {P : Prop} [Decidable P] {off : Int} {tgt : Nat} (C : bd_Cx E p m c cc nL s args own) (hdg : decode cc pc = .ok (.ifCond .eq off, 3)) (ht : (pc : Int) + off = (tgt : Int))
    (kt : ¬ P → W p l e R s m args below meth c H locs cells slots Q (F0 m tgt ls rest)) (kf : P → W p l e R s m args below meth c H locs cells slots Q (F0 m (pc + 3) ls rest)) : W p l e R s m args below meth c H locs cells slots Q (F0 m pc ls (.int (if P then 1 else 0) :: rest)) := by
  refine lv_if_eq (tgt := tgt) C.1.1 C.1.2.1 hdg ht (fun h => kt ?_) (fun h => kf ?_)
  · intro hP
    rw [if_pos hP] at h
    exact absurd h (by decide)
  · by_cases hP : P
    · exact hP
    · rw [if_neg hP] at h
      exact absurd rfl h
theorem bd_ifne {P : Prop} [Decidable P] {off : Int} {tgt : Nat} (C : bd_Cx E p m c cc nL s args own) (hdg : decode cc pc = .ok (.ifCond .ne off, 3)) (ht : (pc : Int) + off = (tgt : Int))
    (kt : P → W p l e R s m args below meth c H locs cells slots Q (F0 m tgt ls rest)) (kf : ¬ P → W p l e R s m args below meth c H locs cells slots Q (F0 m (pc + 3) ls rest)) : W p l e R s m args below meth c H locs cells slots Q (F0 m pc ls (.int (if P then 1 else 0) :: rest)) := by
  refine lv_if_ne (tgt := tgt) C.1.1 C.1.2.1 hdg ht (fun h => kt ?_) (fun h => kf ?_)
  · by_cases hP : P
    · exact hP
    · rw [if_neg hP] at h
      exact absurd rfl h
  · intro hP
    rw [if_pos hP] at h
    exact absurd h (by decide)
end BDC
/-- Math.max, Math.min -/
def bd_mx (a b : Int32) : Int32 := if a < b then b else a
def bd_mn (a b : Int32) : Int32 := if b < a then b else a
section BDM
variable {p : Program} {l : Launch} {e : Env} {R : Room} {s : State} {m : MethodId} {args : Array Value} {below : List Frame} {meth : Method} {c : Code} {H : Heap} {locs : List Loc} {cells slots : Nat} {Q : State → Prop}
variable {cc : ByteArray} {pc nL : Nat} {ls : Array Slot} {rest : List Value} {E : bd_E} {own : String}
theorem bd_max {index : Nat} (C : bd_Cx E p m c cc nL s args own) (hsz : ls.size = nL) (q1 : Cond.methodLink own index Lib.Math.max.name ∈ wsL_law) (hfr : 1 ≤ R.frames ∧ (rest.map fun v => v.category).sum + 13 ≤ R.locals) (hc : cells ≤ R.cells ∧ slots ≤ R.slots) {x y : Int32} (hdg : decode cc pc = .ok (.invokestatic index, 3))
    (kk : W p l e R s m args below meth c H locs cells slots Q (F0 m (pc + 3) ls (.int (bd_mx x y) :: rest))) : W p l e R s m args below meth c H locs cells slots Q (F0 m pc ls (.int y :: .int x :: rest)) :=
  va_mmax C.1.1 C.1.2.1 (C.1.2.2.1.trans hsz.symm) C.1.2.2.2.1 (C.1.2.2.2.2 _ q1) (C.1.2.2.2.2 _ qt_Lib_Math_max_name) (C.1.2.2.2.2 _ qz_Math) (C.1.2.2.2.2 _ qc_Lib_Math_max_name) hfr.1 hfr.2 hc.1 hc.2 hdg kk
theorem bd_min {index : Nat} (C : bd_Cx E p m c cc nL s args own) (hsz : ls.size = nL) (q1 : Cond.methodLink own index Lib.Math.min.name ∈ wsL_law) (hfr : 1 ≤ R.frames ∧ (rest.map fun v => v.category).sum + 13 ≤ R.locals) (hc : cells ≤ R.cells ∧ slots ≤ R.slots) {x y : Int32} (hdg : decode cc pc = .ok (.invokestatic index, 3))
    (kk : W p l e R s m args below meth c H locs cells slots Q (F0 m (pc + 3) ls (.int (bd_mn x y) :: rest))) : W p l e R s m args below meth c H locs cells slots Q (F0 m pc ls (.int y :: .int x :: rest)) :=
  va_mmin C.1.1 C.1.2.1 (C.1.2.2.1.trans hsz.symm) C.1.2.2.2.1 (C.1.2.2.2.2 _ q1) (C.1.2.2.2.2 _ qt_Lib_Math_min_name) (C.1.2.2.2.2 _ qz_Math) (C.1.2.2.2.2 _ qc_Lib_Math_min_name) hfr.1 hfr.2 hc.1 hc.2 hdg kk
end BDM
section BDV
variable {p : Program} {l : Launch} {e : Env} {R : Room} {s : State} {m : MethodId} {args : Array Value} {below : List Frame} {meth : Method} {c : Code} {H H0 : Heap} {locs : List Loc} {cells slots mc ms : Nat} {Q : State → Prop}
variable {cc : ByteArray} {pc nL : Nat} {ls : Array Slot} {E : bd_E} {xm ym xm' ym' : bd_M} {om om' : Nat → Int64} {own : String}
theorem bd_Rep.eq {H : Heap} (h : bd_Rep E xm ym om H) (e1 : xm = xm') (e2 : ym = ym') : bd_Rep E xm' ym' om H := by subst e1; subst e2; exact h
theorem bd_cV1 {y : MethodName} {bytes : ByteArray} {n idx fr lo : Nat} {ret : Option FieldType} (As rest : List Value) {v : Value} {b : Addr} {CN : String} (C : bd_Cx E p m c cc nL s args own) (hM : bd_Ct l y bytes n ret fr lo mc ms E (.ref b :: As) xm ym om xm' ym' om' (some v)) (hR : bd_Rep E xm ym om H) (hS : va_S (bd_A E) H0 H locs)
    (hcell : ∃ cell : Cell, H[b]? = some cell ∧ cell.vm.isStatics = false ∧ s.vm.findClass CN = some cell.cls)
    (q1 : Cond.methodLink own idx y ∈ wsL_law) (q2 : Cond.instanceMethod y ∈ wsL_law) (q3 : Cond.selects CN y y ∈ wsL_law) (q4 : Cond.initialized CN ∈ wsL_law) (q5 : Cond.code y bytes n ret ∈ wsL_law)
    (hd : y.cls = CN ∧ y.cls ≠ "java/lang/invoke/MethodHandle" ∧ y.cls ≠ "java/lang/invoke/VarHandle" ∧ (parseMethodDescriptor y.desc).map (fun d => d.parameters.length) = some As.length) (hR2 : fr + 1 ≤ R.frames ∧ 8 + (n + 11) + lo ≤ R.locals)
    (hsz : ls.size = nL) (hcat : (rest.map fun v => v.category).sum ≤ 8) (hdg : decode cc pc = .ok (.invokevirtual idx, 3)) (hf : cells + mc ≤ R.cells ∧ slots + ms ≤ R.slots)
    (kk : ∀ (H1 : Heap) (locs1 : List Loc), bd_Rep E xm' ym' om' H1 → va_S (bd_A E) H0 H1 locs1 → H.size ≤ H1.size → W p l e R s m args below meth c H1 locs1 (cells + mc) (slots + ms) Q (F0 m (pc + 3) ls (v :: rest))) : W p l e R s m args below meth c H locs cells slots Q (F0 m pc ls (As.reverse ++ .ref b :: rest)) :=
  bd_cV C hM hR hS hcell q1 q2 q3 q4 q5 hd hR2 hsz rfl hcat hdg hf kk
theorem bd_cV0 {y : MethodName} {bytes : ByteArray} {n idx fr lo : Nat} {ret : Option FieldType} (As rest : List Value) {b : Addr} {CN : String} (C : bd_Cx E p m c cc nL s args own) (hM : bd_Ct l y bytes n ret fr lo mc ms E (.ref b :: As) xm ym om xm' ym' om' none) (hR : bd_Rep E xm ym om H) (hS : va_S (bd_A E) H0 H locs)
    (hcell : ∃ cell : Cell, H[b]? = some cell ∧ cell.vm.isStatics = false ∧ s.vm.findClass CN = some cell.cls)
    (q1 : Cond.methodLink own idx y ∈ wsL_law) (q2 : Cond.instanceMethod y ∈ wsL_law) (q3 : Cond.selects CN y y ∈ wsL_law) (q4 : Cond.initialized CN ∈ wsL_law) (q5 : Cond.code y bytes n ret ∈ wsL_law)
    (hd : y.cls = CN ∧ y.cls ≠ "java/lang/invoke/MethodHandle" ∧ y.cls ≠ "java/lang/invoke/VarHandle" ∧ (parseMethodDescriptor y.desc).map (fun d => d.parameters.length) = some As.length) (hR2 : fr + 1 ≤ R.frames ∧ 8 + (n + 11) + lo ≤ R.locals)
    (hsz : ls.size = nL) (hcat : (rest.map fun v => v.category).sum ≤ 8) (hdg : decode cc pc = .ok (.invokevirtual idx, 3)) (hf : cells + mc ≤ R.cells ∧ slots + ms ≤ R.slots)
    (kk : ∀ (H1 : Heap) (locs1 : List Loc), bd_Rep E xm' ym' om' H1 → va_S (bd_A E) H0 H1 locs1 → H.size ≤ H1.size → W p l e R s m args below meth c H1 locs1 (cells + mc) (slots + ms) Q (F0 m (pc + 3) ls rest)) : W p l e R s m args below meth c H locs cells slots Q (F0 m pc ls (As.reverse ++ .ref b :: rest)) :=
  bd_cV C hM hR hS hcell q1 q2 q3 q4 q5 hd hR2 hsz rfl hcat hdg hf kk
theorem bd_cS1 {y : MethodName} {bytes : ByteArray} {n idx fr lo : Nat} {ret : Option FieldType} (As rest : List Value) {v : Value} (C : bd_Cx E p m c cc nL s args own) (hM : bd_Ct l y bytes n ret fr lo mc ms E As xm ym om xm' ym' om' (some v)) (hR : bd_Rep E xm ym om H) (hS : va_S (bd_A E) H0 H locs)
    (q1 : Cond.methodLink own idx y ∈ wsL_law) (q2 : Cond.static y ∈ wsL_law) (q4 : Cond.initialized y.cls ∈ wsL_law) (q5 : Cond.code y bytes n ret ∈ wsL_law)
    (hd : y.cls ≠ "java/lang/invoke/MethodHandle" ∧ y.cls ≠ "java/lang/invoke/VarHandle" ∧ (parseMethodDescriptor y.desc).map (fun d => d.parameters.length) = some As.length) (hR2 : fr + 1 ≤ R.frames ∧ 8 + (n + 11) + lo ≤ R.locals)
    (hsz : ls.size = nL) (hcat : (rest.map fun v => v.category).sum ≤ 8) (hdg : decode cc pc = .ok (.invokestatic idx, 3)) (hf : cells + mc ≤ R.cells ∧ slots + ms ≤ R.slots)
    (kk : ∀ (H1 : Heap) (locs1 : List Loc), bd_Rep E xm' ym' om' H1 → va_S (bd_A E) H0 H1 locs1 → H.size ≤ H1.size → W p l e R s m args below meth c H1 locs1 (cells + mc) (slots + ms) Q (F0 m (pc + 3) ls (v :: rest))) : W p l e R s m args below meth c H locs cells slots Q (F0 m pc ls (As.reverse ++ rest)) :=
  bd_cS C hM hR hS q1 q2 q4 q5 hd hR2 hsz rfl hcat hdg hf kk
theorem bd_cS0 {y : MethodName} {bytes : ByteArray} {n idx fr lo : Nat} {ret : Option FieldType} (As rest : List Value) (C : bd_Cx E p m c cc nL s args own) (hM : bd_Ct l y bytes n ret fr lo mc ms E As xm ym om xm' ym' om' none) (hR : bd_Rep E xm ym om H) (hS : va_S (bd_A E) H0 H locs)
    (q1 : Cond.methodLink own idx y ∈ wsL_law) (q2 : Cond.static y ∈ wsL_law) (q4 : Cond.initialized y.cls ∈ wsL_law) (q5 : Cond.code y bytes n ret ∈ wsL_law)
    (hd : y.cls ≠ "java/lang/invoke/MethodHandle" ∧ y.cls ≠ "java/lang/invoke/VarHandle" ∧ (parseMethodDescriptor y.desc).map (fun d => d.parameters.length) = some As.length) (hR2 : fr + 1 ≤ R.frames ∧ 8 + (n + 11) + lo ≤ R.locals)
    (hsz : ls.size = nL) (hcat : (rest.map fun v => v.category).sum ≤ 8) (hdg : decode cc pc = .ok (.invokestatic idx, 3)) (hf : cells + mc ≤ R.cells ∧ slots + ms ≤ R.slots)
    (kk : ∀ (H1 : Heap) (locs1 : List Loc), bd_Rep E xm' ym' om' H1 → va_S (bd_A E) H0 H1 locs1 → H.size ≤ H1.size → W p l e R s m args below meth c H1 locs1 (cells + mc) (slots + ms) Q (F0 m (pc + 3) ls rest)) : W p l e R s m args below meth c H locs cells slots Q (F0 m pc ls (As.reverse ++ rest)) :=
  bd_cS C hM hR hS q1 q2 q4 q5 hd hR2 hsz rfl hcat hdg hf kk
end BDV
theorem bd_tn {x : Int32} (h : ¬ x < 0) : x = nI x.toNatClampNeg := by
  obtain ⟨j, hj, rfl⟩ := nI_of h
  rw [nI_clamp hj]
theorem bd_tnl {x : Int32} {n : Nat} (h : ¬ x < 0) (h2 : x < nI n) (hn : n < 2 ^ 31) : x.toNatClampNeg < n := by
  obtain ⟨j, hj, rfl⟩ := nI_of h
  rw [nI_clamp hj]
  exact (nI_ltI hj hn).mp h2
theorem bd_nei {x n : Int32} (h : ¬ x = n) : x.toInt ≠ n.toInt := fun q => h (Int32.toInt_inj.mp q)
theorem bd_tn4 {x : Int32} (h : ¬ x < 0) (h2 : ¬ 4 ≤ x) : x.toNatClampNeg < 4 := bd_tnl h (Int32.not_le.mp h2) (by decide)
