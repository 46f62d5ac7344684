section
-- ===== PART A: goes FIRST, ahead of the names: the tables' words, and 'selects' of the private methods out of them =====
/-- a private method of a class that the tables say can be made, by its rows of tables_1 -/
def lw_okq (q : MethodName × Nat) : Prop := (q.1.cls ≠ "java/lang/invoke/MethodHandle" ∧ q.1.cls ≠ "java/lang/invoke/VarHandle") ∧ Cond.instantiable q.1.cls q.2 ∈ tables_1 ∧ Cond.privateMethod q.1 ∈ tables_1 ∧ Cond.instanceMethod q.1 ∈ tables_1
theorem lw_p0 : lw_okq (⟨"BandDay$Season", "withBand", "(JLBandDay$Band;)J"⟩, 9) := ⟨⟨by decide +kernel, by decide +kernel⟩, List.mem_of_getElem? (i := 26) (by decide +kernel), List.mem_of_getElem? (i := 259) (by decide +kernel), List.mem_of_getElem? (i := 260) (by decide +kernel)⟩
theorem lw_p1 : lw_okq (⟨"java/lang/Throwable", "fillInStackTrace", "(I)Ljava/lang/Throwable;"⟩, 6) := ⟨⟨by decide +kernel, by decide +kernel⟩, List.mem_of_getElem? (i := 322) (by decide +kernel), List.mem_of_getElem? (i := 320) (by decide +kernel), List.mem_of_getElem? (i := 321) (by decide +kernel)⟩
theorem lw_p2 : lw_okq (⟨"BandDay", "needChair", "(II)LBandDay$Chair;"⟩, 4) := ⟨⟨by decide +kernel, by decide +kernel⟩, List.mem_of_getElem? (i := 18) (by decide +kernel), List.mem_of_getElem? (i := 403) (by decide +kernel), List.mem_of_getElem? (i := 404) (by decide +kernel)⟩
theorem lw_p3 : lw_okq (⟨"BandDay", "needBand", "(I)LBandDay$Band;"⟩, 4) := ⟨⟨by decide +kernel, by decide +kernel⟩, List.mem_of_getElem? (i := 18) (by decide +kernel), List.mem_of_getElem? (i := 407) (by decide +kernel), List.mem_of_getElem? (i := 408) (by decide +kernel)⟩
theorem lw_p4 : lw_okq (⟨"BandDay", "needPlayer", "(I)LBandDay$Player;"⟩, 4) := ⟨⟨by decide +kernel, by decide +kernel⟩, List.mem_of_getElem? (i := 18) (by decide +kernel), List.mem_of_getElem? (i := 436) (by decide +kernel), List.mem_of_getElem? (i := 437) (by decide +kernel)⟩
theorem lw_p5 : lw_okq (⟨"BandDay$Contest", "forgetDeputies", "()V"⟩, 1) := ⟨⟨by decide +kernel, by decide +kernel⟩, List.mem_of_getElem? (i := 190) (by decide +kernel), List.mem_of_getElem? (i := 564) (by decide +kernel), List.mem_of_getElem? (i := 565) (by decide +kernel)⟩
theorem lw_p6 : lw_okq (⟨"BandDay$Contest", "bandInTurn", "(I)I"⟩, 1) := ⟨⟨by decide +kernel, by decide +kernel⟩, List.mem_of_getElem? (i := 190) (by decide +kernel), List.mem_of_getElem? (i := 568) (by decide +kernel), List.mem_of_getElem? (i := 569) (by decide +kernel)⟩
theorem lw_p7 : lw_okq (⟨"BandDay$Contest", "play", "(I)V"⟩, 1) := ⟨⟨by decide +kernel, by decide +kernel⟩, List.mem_of_getElem? (i := 190) (by decide +kernel), List.mem_of_getElem? (i := 572) (by decide +kernel), List.mem_of_getElem? (i := 573) (by decide +kernel)⟩
theorem lw_p8 : lw_okq (⟨"BandDay$Contest", "marksOnceSeated", "(LBandDay$Band;)I"⟩, 1) := ⟨⟨by decide +kernel, by decide +kernel⟩, List.mem_of_getElem? (i := 190) (by decide +kernel), List.mem_of_getElem? (i := 577) (by decide +kernel), List.mem_of_getElem? (i := 578) (by decide +kernel)⟩
theorem lw_p9 : lw_okq (⟨"BandDay$Contest", "seatMembers", "(LBandDay$Band;)V"⟩, 1) := ⟨⟨by decide +kernel, by decide +kernel⟩, List.mem_of_getElem? (i := 190) (by decide +kernel), List.mem_of_getElem? (i := 581) (by decide +kernel), List.mem_of_getElem? (i := 582) (by decide +kernel)⟩
theorem lw_p10 : lw_okq (⟨"BandDay$Contest", "seatDeputies", "(LBandDay$Band;)V"⟩, 1) := ⟨⟨by decide +kernel, by decide +kernel⟩, List.mem_of_getElem? (i := 190) (by decide +kernel), List.mem_of_getElem? (i := 587) (by decide +kernel), List.mem_of_getElem? (i := 588) (by decide +kernel)⟩
theorem lw_p11 : lw_okq (⟨"BandDay$Contest", "deputyFor", "(LBandDay$Chair;)I"⟩, 1) := ⟨⟨by decide +kernel, by decide +kernel⟩, List.mem_of_getElem? (i := 190) (by decide +kernel), List.mem_of_getElem? (i := 595) (by decide +kernel), List.mem_of_getElem? (i := 596) (by decide +kernel)⟩
theorem lw_p12 : lw_okq (⟨"BandDay$Contest", "isOut", "(LBandDay$Band;)Z"⟩, 1) := ⟨⟨by decide +kernel, by decide +kernel⟩, List.mem_of_getElem? (i := 190) (by decide +kernel), List.mem_of_getElem? (i := 604) (by decide +kernel), List.mem_of_getElem? (i := 605) (by decide +kernel)⟩
theorem lw_p13 : lw_okq (⟨"BandDay$Contest", "marksAsSeated", "(LBandDay$Band;)I"⟩, 1) := ⟨⟨by decide +kernel, by decide +kernel⟩, List.mem_of_getElem? (i := 190) (by decide +kernel), List.mem_of_getElem? (i := 616) (by decide +kernel), List.mem_of_getElem? (i := 617) (by decide +kernel)⟩
theorem lw_p14 : lw_okq (⟨"BandDay$Contest", "marksFor", "(LBandDay$Player;I)I"⟩, 1) := ⟨⟨by decide +kernel, by decide +kernel⟩, List.mem_of_getElem? (i := 190) (by decide +kernel), List.mem_of_getElem? (i := 620) (by decide +kernel), List.mem_of_getElem? (i := 621) (by decide +kernel)⟩
theorem lw_p15 : lw_okq (⟨"BandDay$Contest", "noteSittings", "(LBandDay$Band;)V"⟩, 1) := ⟨⟨by decide +kernel, by decide +kernel⟩, List.mem_of_getElem? (i := 190) (by decide +kernel), List.mem_of_getElem? (i := 642) (by decide +kernel), List.mem_of_getElem? (i := 643) (by decide +kernel)⟩
def lw_privs_1 : List (MethodName × Nat) := [(⟨"BandDay$Season", "withBand", "(JLBandDay$Band;)J"⟩, 9), (⟨"java/lang/Throwable", "fillInStackTrace", "(I)Ljava/lang/Throwable;"⟩, 6), (⟨"BandDay", "needChair", "(II)LBandDay$Chair;"⟩, 4), (⟨"BandDay", "needBand", "(I)LBandDay$Band;"⟩, 4), (⟨"BandDay", "needPlayer", "(I)LBandDay$Player;"⟩, 4), (⟨"BandDay$Contest", "forgetDeputies", "()V"⟩, 1), (⟨"BandDay$Contest", "bandInTurn", "(I)I"⟩, 1), (⟨"BandDay$Contest", "play", "(I)V"⟩, 1), (⟨"BandDay$Contest", "marksOnceSeated", "(LBandDay$Band;)I"⟩, 1), (⟨"BandDay$Contest", "seatMembers", "(LBandDay$Band;)V"⟩, 1), (⟨"BandDay$Contest", "seatDeputies", "(LBandDay$Band;)V"⟩, 1), (⟨"BandDay$Contest", "deputyFor", "(LBandDay$Chair;)I"⟩, 1), (⟨"BandDay$Contest", "isOut", "(LBandDay$Band;)Z"⟩, 1), (⟨"BandDay$Contest", "marksAsSeated", "(LBandDay$Band;)I"⟩, 1), (⟨"BandDay$Contest", "marksFor", "(LBandDay$Player;I)I"⟩, 1), (⟨"BandDay$Contest", "noteSittings", "(LBandDay$Band;)V"⟩, 1)]
theorem lw_r1 : ∀ q ∈ lw_privs_1, lw_okq q := List.forall_mem_cons.mpr ⟨lw_p0, List.forall_mem_cons.mpr ⟨lw_p1, List.forall_mem_cons.mpr ⟨lw_p2, List.forall_mem_cons.mpr ⟨lw_p3, List.forall_mem_cons.mpr ⟨lw_p4, List.forall_mem_cons.mpr ⟨lw_p5, List.forall_mem_cons.mpr ⟨lw_p6, List.forall_mem_cons.mpr ⟨lw_p7, List.forall_mem_cons.mpr ⟨lw_p8, List.forall_mem_cons.mpr ⟨lw_p9, List.forall_mem_cons.mpr ⟨lw_p10, List.forall_mem_cons.mpr ⟨lw_p11, List.forall_mem_cons.mpr ⟨lw_p12, List.forall_mem_cons.mpr ⟨lw_p13, List.forall_mem_cons.mpr ⟨lw_p14, List.forall_mem_cons.mpr ⟨lw_p15, fun _ h => absurd h List.not_mem_nil⟩⟩⟩⟩⟩⟩⟩⟩⟩⟩⟩⟩⟩⟩⟩⟩
theorem lw_p16 : lw_okq (⟨"BandDay$Contest", "moveLips", "()V"⟩, 1) := ⟨⟨by decide +kernel, by decide +kernel⟩, List.mem_of_getElem? (i := 190) (by decide +kernel), List.mem_of_getElem? (i := 647) (by decide +kernel), List.mem_of_getElem? (i := 648) (by decide +kernel)⟩
theorem lw_p17 : lw_okq (⟨"BandDay$Contest", "givePlaces", "()I"⟩, 1) := ⟨⟨by decide +kernel, by decide +kernel⟩, List.mem_of_getElem? (i := 190) (by decide +kernel), List.mem_of_getElem? (i := 657) (by decide +kernel), List.mem_of_getElem? (i := 658) (by decide +kernel)⟩
theorem lw_p18 : lw_okq (⟨"BandDay$Contest", "aheadByMarks", "(I)I"⟩, 1) := ⟨⟨by decide +kernel, by decide +kernel⟩, List.mem_of_getElem? (i := 190) (by decide +kernel), List.mem_of_getElem? (i := 661) (by decide +kernel), List.mem_of_getElem? (i := 662) (by decide +kernel)⟩
theorem lw_p19 : lw_okq (⟨"BandDay$Contest", "isAhead", "(II)Z"⟩, 1) := ⟨⟨by decide +kernel, by decide +kernel⟩, List.mem_of_getElem? (i := 190) (by decide +kernel), List.mem_of_getElem? (i := 665) (by decide +kernel), List.mem_of_getElem? (i := 666) (by decide +kernel)⟩
theorem lw_p20 : lw_okq (⟨"BandDay$Season", "aheadByPoints", "(I)I"⟩, 9) := ⟨⟨by decide +kernel, by decide +kernel⟩, List.mem_of_getElem? (i := 26) (by decide +kernel), List.mem_of_getElem? (i := 690) (by decide +kernel), List.mem_of_getElem? (i := 691) (by decide +kernel)⟩
theorem lw_p21 : lw_okq (⟨"BandDayModel", "no", "(I)I"⟩, 10) := ⟨⟨by decide +kernel, by decide +kernel⟩, List.mem_of_getElem? (i := 762) (by decide +kernel), List.mem_of_getElem? (i := 882) (by decide +kernel), List.mem_of_getElem? (i := 883) (by decide +kernel)⟩
theorem lw_p22 : lw_okq (⟨"BandDayModel", "isSeat", "(II)Z"⟩, 10) := ⟨⟨by decide +kernel, by decide +kernel⟩, List.mem_of_getElem? (i := 762) (by decide +kernel), List.mem_of_getElem? (i := 896) (by decide +kernel), List.mem_of_getElem? (i := 897) (by decide +kernel)⟩
theorem lw_p23 : lw_okq (⟨"BandDayModel", "isBand", "(I)Z"⟩, 10) := ⟨⟨by decide +kernel, by decide +kernel⟩, List.mem_of_getElem? (i := 762) (by decide +kernel), List.mem_of_getElem? (i := 900) (by decide +kernel), List.mem_of_getElem? (i := 901) (by decide +kernel)⟩
theorem lw_p24 : lw_okq (⟨"BandDayModel", "isPlayer", "(I)Z"⟩, 10) := ⟨⟨by decide +kernel, by decide +kernel⟩, List.mem_of_getElem? (i := 762) (by decide +kernel), List.mem_of_getElem? (i := 904) (by decide +kernel), List.mem_of_getElem? (i := 905) (by decide +kernel)⟩
theorem lw_p25 : lw_okq (⟨"BandDayModel", "playerTold", "(II)I"⟩, 10) := ⟨⟨by decide +kernel, by decide +kernel⟩, List.mem_of_getElem? (i := 762) (by decide +kernel), List.mem_of_getElem? (i := 940) (by decide +kernel), List.mem_of_getElem? (i := 941) (by decide +kernel)⟩
theorem lw_p26 : lw_okq (⟨"BandDayModel", "bandTold", "(II)I"⟩, 10) := ⟨⟨by decide +kernel, by decide +kernel⟩, List.mem_of_getElem? (i := 762) (by decide +kernel), List.mem_of_getElem? (i := 948) (by decide +kernel), List.mem_of_getElem? (i := 949) (by decide +kernel)⟩
theorem lw_p27 : lw_okq (⟨"BandDayModel", "chairTold", "(II)I"⟩, 10) := ⟨⟨by decide +kernel, by decide +kernel⟩, List.mem_of_getElem? (i := 762) (by decide +kernel), List.mem_of_getElem? (i := 960) (by decide +kernel), List.mem_of_getElem? (i := 961) (by decide +kernel)⟩
theorem lw_p28 : lw_okq (⟨"BandDayModel$State", "play", "(I)V"⟩, 15) := ⟨⟨by decide +kernel, by decide +kernel⟩, List.mem_of_getElem? (i := 768) (by decide +kernel), List.mem_of_getElem? (i := 972) (by decide +kernel), List.mem_of_getElem? (i := 973) (by decide +kernel)⟩
theorem lw_p29 : lw_okq (⟨"BandDayModel$State", "find", "(II)I"⟩, 15) := ⟨⟨by decide +kernel, by decide +kernel⟩, List.mem_of_getElem? (i := 768) (by decide +kernel), List.mem_of_getElem? (i := 976) (by decide +kernel), List.mem_of_getElem? (i := 977) (by decide +kernel)⟩
theorem lw_p30 : lw_okq (⟨"BandDayModel$State", "sits", "(II)Z"⟩, 15) := ⟨⟨by decide +kernel, by decide +kernel⟩, List.mem_of_getElem? (i := 768) (by decide +kernel), List.mem_of_getElem? (i := 980) (by decide +kernel), List.mem_of_getElem? (i := 981) (by decide +kernel)⟩
theorem lw_p31 : lw_okq (⟨"BandDayModel$State", "isAhead", "(II)Z"⟩, 15) := ⟨⟨by decide +kernel, by decide +kernel⟩, List.mem_of_getElem? (i := 768) (by decide +kernel), List.mem_of_getElem? (i := 987) (by decide +kernel), List.mem_of_getElem? (i := 988) (by decide +kernel)⟩
def lw_privs_2 : List (MethodName × Nat) := [(⟨"BandDay$Contest", "moveLips", "()V"⟩, 1), (⟨"BandDay$Contest", "givePlaces", "()I"⟩, 1), (⟨"BandDay$Contest", "aheadByMarks", "(I)I"⟩, 1), (⟨"BandDay$Contest", "isAhead", "(II)Z"⟩, 1), (⟨"BandDay$Season", "aheadByPoints", "(I)I"⟩, 9), (⟨"BandDayModel", "no", "(I)I"⟩, 10), (⟨"BandDayModel", "isSeat", "(II)Z"⟩, 10), (⟨"BandDayModel", "isBand", "(I)Z"⟩, 10), (⟨"BandDayModel", "isPlayer", "(I)Z"⟩, 10), (⟨"BandDayModel", "playerTold", "(II)I"⟩, 10), (⟨"BandDayModel", "bandTold", "(II)I"⟩, 10), (⟨"BandDayModel", "chairTold", "(II)I"⟩, 10), (⟨"BandDayModel$State", "play", "(I)V"⟩, 15), (⟨"BandDayModel$State", "find", "(II)I"⟩, 15), (⟨"BandDayModel$State", "sits", "(II)Z"⟩, 15), (⟨"BandDayModel$State", "isAhead", "(II)Z"⟩, 15)]
theorem lw_r2 : ∀ q ∈ lw_privs_2, lw_okq q := List.forall_mem_cons.mpr ⟨lw_p16, List.forall_mem_cons.mpr ⟨lw_p17, List.forall_mem_cons.mpr ⟨lw_p18, List.forall_mem_cons.mpr ⟨lw_p19, List.forall_mem_cons.mpr ⟨lw_p20, List.forall_mem_cons.mpr ⟨lw_p21, List.forall_mem_cons.mpr ⟨lw_p22, List.forall_mem_cons.mpr ⟨lw_p23, List.forall_mem_cons.mpr ⟨lw_p24, List.forall_mem_cons.mpr ⟨lw_p25, List.forall_mem_cons.mpr ⟨lw_p26, List.forall_mem_cons.mpr ⟨lw_p27, List.forall_mem_cons.mpr ⟨lw_p28, List.forall_mem_cons.mpr ⟨lw_p29, List.forall_mem_cons.mpr ⟨lw_p30, List.forall_mem_cons.mpr ⟨lw_p31, fun _ h => absurd h List.not_mem_nil⟩⟩⟩⟩⟩⟩⟩⟩⟩⟩⟩⟩⟩⟩⟩⟩
theorem lw_p32 : lw_okq (⟨"BandDayModel", "counted", "(I)I"⟩, 10) := ⟨⟨by decide +kernel, by decide +kernel⟩, List.mem_of_getElem? (i := 762) (by decide +kernel), List.mem_of_getElem? (i := 999) (by decide +kernel), List.mem_of_getElem? (i := 1000) (by decide +kernel)⟩
theorem lw_p33 : lw_okq (⟨"BandDayModel$State", "copy", "([I[I)V"⟩, 15) := ⟨⟨by decide +kernel, by decide +kernel⟩, List.mem_of_getElem? (i := 768) (by decide +kernel), List.mem_of_getElem? (i := 1011) (by decide +kernel), List.mem_of_getElem? (i := 1012) (by decide +kernel)⟩
def lw_privs_3 : List (MethodName × Nat) := [(⟨"BandDayModel", "counted", "(I)I"⟩, 10), (⟨"BandDayModel$State", "copy", "([I[I)V"⟩, 15)]
theorem lw_r3 : ∀ q ∈ lw_privs_3, lw_okq q := List.forall_mem_cons.mpr ⟨lw_p32, List.forall_mem_cons.mpr ⟨lw_p33, fun _ h => absurd h List.not_mem_nil⟩⟩
def lw_privs : List (MethodName × Nat) := lw_privs_1 ++ (lw_privs_2 ++ (lw_privs_3))
def lw_tbl : List Cond := k2_sels lw_privs ++ tables_1
theorem lw_privs_ok : ∀ q ∈ lw_privs, lw_okq q := by
  show ∀ q ∈ lw_privs_1 ++ (lw_privs_2 ++ (lw_privs_3)), lw_okq q
  exact List.forall_mem_append.mpr ⟨lw_r1, List.forall_mem_append.mpr ⟨lw_r2, lw_r3⟩⟩
/-- the streams that the claim lets the run draw from -/
abbrev lw_cs : List Choice := [Jvm.Choice.named "NaN.bits"]
theorem lw_bits : nanBits ∈ lw_cs := by first | decide | exact List.mem_cons_self | simp [lw_cs, nanBits]
end
section
/-! ===== BEGIN words of one list among another's, by their places ===== -/
theorem goodIn_r {big : List Cond} (ws : List Cond) (ps : List Nat) (hp : ws = ps.filterMap (fun i => big[i]?)) (h : ws.all goodWord = true) : GoodIn big ws := by
  intro w hw
  have h1 := List.all_eq_true.mp h w hw
  rw [hp] at hw
  obtain ⟨i, -, hi⟩ := List.mem_filterMap.mp hw
  have hm : w ∈ big := by first | exact List.mem_of_getElem? hi | exact List.getElem?_mem hi
  exact ⟨hm, good_of_word h1⟩
theorem goodIn_app {big a b : List Cond} (ha : GoodIn big a) (hb : GoodIn big b) : GoodIn big (a ++ b) := fun w h => (List.mem_append.mp h).elim (ha w) (hb w)
theorem goodIn_ca {big a b : List Cond} {c : Cond} (ha : GoodIn big (c :: a)) (hb : GoodIn big b) : GoodIn big (c :: (a ++ b)) := fun w h => (List.mem_cons.mp h).elim (fun e => ha w (List.mem_cons.mpr (Or.inl e))) (fun h => (List.mem_append.mp h).elim (fun h => ha w (List.mem_cons.mpr (Or.inr h))) (hb w))
theorem goodIn_sub {big ws : List Cond} (hm : ∀ w ∈ ws, w ∈ big) (h : ws.all goodWord = true) : GoodIn big ws := fun w hw => ⟨hm w hw, good_of_word (List.all_eq_true.mp h w hw)⟩
/-! ===== END ===== -/

/-! ===== BEGIN exceptions that leave a method, and their catching by the caller (launches without stack traces) ===== -/
section VXA
/-! The laws vx_back, vx_callV, vx_callS, vx_callSW, vx_throw0, vx_throwS follow proofs of the library, with one case more: JvmDerived/Free/Laws.lean (Back.of_free), Shelf42/LK1.lean (callV, callS), Shelf/KitTraced.lean (throwNew0V, throwNewS). -/
/-- where a method has thrown q: the class by its name, the cell, what was written, the world -/
def vx_T (XC : String → State → State → Prop) (st : State) (q : Addr) (t : State) (mc ms : Nat) (free : Addr → Prop) : Prop :=
  ∃ (E : String) (ce : Cell) (L : List Loc), XC E st t ∧ t.heap[q]? = some ce ∧ ce.vm = .none ∧ st.vm.findClass E = some ce.cls ∧ st.WarmedH t.vm ∧ st.sameButNew ({ t with vm := st.vm } : State) L mc ms ∧ ∀ z ∈ L, free z.base
def vx_Q (Qc : Array Value → State → Outcome → State → Prop) (XC : String → State → State → Prop) (mc ms : Nat) (free : Addr → Prop) : Array Value → State → Outcome → State → Prop := fun a st o t =>
  (Qc a st o t ∧ ∃ L, FrameEnd st o t L mc ms ∧ ∀ q ∈ L, free q.base) ∨ ∃ q, o = .threw q ∧ vx_T XC st q t mc ms free
/-- a callee that returns or throws -/
def vx_Met (l : Launch) (y : MethodName) (ws : List Cond) (rm : Room) (Pc : Array Value → State → Prop) (Qc : Array Value → State → Outcome → State → Prop) (XC : String → State → State → Prop) (mc ms : Nat) (free : Addr → Prop) : Prop :=
  MetFree l y (headSpec ws rm) Pc (fun _ _ _ _ _ => True) (vx_Q Qc XC mc ms free)
def vx_Post (XC : String → State → State → Prop) (mc ms : Nat) (free : Addr → Prop) : Pt → Array Value → Addr → Pt → Prop := fun A a q B =>
  ∃ (g : JFrame) (mk : MethodId) (t : State) (L : List Loc) (E : String) (ce : Cell), B.U.heap = t.heap ∧ B.U.vm = t.vm ∧ XC E (A.U.calling g mk a) t ∧ t.heap[q]? = some ce ∧ ce.vm = .none ∧ A.U.vm.findClass E = some ce.cls ∧ B.locs = A.locs ++ L ∧ (∀ z ∈ L, free z.base) ∧ B.cells = A.cells + mc ∧ B.slots = A.slots + ms
def vx_Back (l : Launch) (R : Room) (p : Program) (e : Env) (below : List Frame) (s : State) (sargs : Array Value) (y : MethodName) (len W9 : Nat)
    (Pre : Pt → Array Value → Prop) (Post : Pt → Array Value → Option Value → Pt → Prop) (PostX : Pt → Array Value → Addr → Pt → Prop) : Prop :=
  ∀ (m : MethodId) (meth : Method) (c : Code) (A : Pt) (g : JFrame) (ig : Instr) (mk : MethodId) (a : Array Value),
    Stand p l e R s m sargs below meth c A.U A.locs A.cells A.slots → g.method = m → g.locals.size = c.maxLocals → decode c.code g.pc = .ok (ig, len) →
    2 * g.monitorRoom + (g.stack.map fun v => v.category).sum ≤ W9 → A.U.methodNamed? y = some mk → Pre A a →
    (∃ (v : Option Value) (B : Pt), Stand p l e R s m sargs below meth c B.U B.locs B.cells B.slots ∧ Post A a v B ∧
      Steps p.tables e below (doInvoke e (A.U.setTop g) [] mk a).1 (B.U.setTop { g with pc := g.pc + len, stack := v.toList ++ g.stack })) ∨
    (∃ (q : Addr) (B : Pt), Stand p l e R s m sargs below meth c B.U B.locs B.cells B.slots ∧ PostX A a q B ∧
      Steps p.tables e below (doInvoke e (A.U.setTop g) [] mk a).1 ((B.U.setTop g).pushFrame (.throwing q)))
section Payer
variable {l : Launch} {R : Room} {p : Program} {e : Env} {below : List Frame} {s : State} {sargs : Array Value} {y : MethodName} {len W9 : Nat}
theorem vx_back {ws : List Cond} {rm : Room} {Pc : Array Value → State → Prop} {Qc : Array Value → State → Outcome → State → Prop} {XC : String → State → State → Prop} {mc ms : Nat} {free : Addr → Prop} {bytes : ByteArray} {maxL : Nat} {ret : Option FieldType}
    (hM : vx_Met l y ws rm Pc Qc XC mc ms free) (hblind : FrameBlind Pc) (hrc : rm.cells = mc) (hrs : rm.slots = ms)
    (hframes : rm.frames + 1 ≤ R.frames) (hlocals : W9 + (maxL + 11) + rm.locals ≤ R.locals)
    (hws : ∀ w ∈ ws, ∀ a' U, s.WarmedH U.vm → w.before a' U = true) (hcode : Cond.code y bytes maxL ret ∈ ws) (hinit : ∀ a' U, s.WarmedH U.vm → (Cond.initialized y.cls).before a' U = true) :
    vx_Back l R p e below s sargs y len W9 (PreOf R mc ms Pc) (PostOf Qc mc ms free) (vx_Post XC mc ms free) := by
  intro m meth c A g ig mk a X hg hsize hdg hW hn hp
  have h1 : (headSpec ws rm).pre.before a A.U = true := atoms_intro fun w hw => hws w hw _ _ X.warmed
  have h2 : (Cond.code y bytes maxL ret).before a A.U = true := hws _ hcode _ _ X.warmed
  have h3 : (Cond.initialized y.cls).before a A.U = true := hinit _ _ X.warmed
  have h4 : A.cells + (headSpec ws rm).room.cells ≤ R.cells := by rw [show (headSpec ws rm).room.cells = mc from hrc]; exact hp.1
  have h5 : A.slots + (headSpec ws rm).room.slots ≤ R.slots := by rw [show (headSpec ws rm).room.slots = ms from hrs]; exact hp.2.1
  have hPc : Pc a (A.U.calling g mk a) := hblind _ _ _ _ hp.2.2
  obtain ⟨U, Ls, c0, s0⟩ := A
  dsimp only [Pt.U, Pt.locs, Pt.cells, Pt.slots] at h1 h2 h3 h4 h5 X hn hPc ⊢
  obtain ⟨methY, cY, hmY, hcY, -, hlY, -, -, -, -⟩ := Cond.code_spec hn h2
  obtain ⟨kY, hkY, -⟩ := className_of_methodNamed hn
  have hinitY : kY.init = .initialized := Cond.initialized_spec (findClass_of_methodNamed hn) hkY h3
  have h : At U g.method c below := by rw [hg]; exact X.here
  have hlocals9 : W9 + (maxL + 11) + (headSpec ws rm).room.locals ≤ R.locals := hlocals
  have happ : (headSpec ws rm).appliesLoose y e.platform (U.calling g mk a) = true :=
    Spec.appliesLoose_calling (g := g) h hdg hn hkY hinitY
      (X.room_calling (g := g) (R' := (headSpec ws rm).room) hsize hmY hcY hframes (by rw [hlY]; omega) h4 h5) h1
  obtain ⟨mid, hmid⟩ := h.above
  have hfr : (U.setTop g).frames = (.java g :: mid) ++ below := by rw [State.frames_setTop' g h.top, hmid]; rfl
  obtain ⟨o, s₂, hsteps, -, hend, hq⟩ := Steps.callFree hM p X.admits X.cas X.clock (acts := []) hfr happ hPc trivial
  have hq' : vx_Q Qc XC mc ms free a (U.calling g mk a) o s₂ := hq
  rw [State.frames_setTop' g h.top] at hend
  obtain ⟨g₀, hg0⟩ := Option.isSome_iff_exists.mp h.top
  obtain ⟨r, hr⟩ := State.topJava?_eq_some.mp hg0
  have hr' : (({ U with heap := s₂.heap, slotsUsed := s₂.slotsUsed } : State).setVm s₂.vm).frames = .java g₀ :: r := hr
  rcases hq' with ⟨hqc, L, hfe, hL⟩ | ⟨q, rfl, E, ce, L, hx, hce, hcv, hcl, hW₂, hsm, hL⟩
  · obtain ⟨⟨v, rfl⟩, hW₂, e2, q2, q3, q4, q5, q6⟩ := id hfe
    have e3 : s₂ = ({ (U.calling g mk a).setFrames s₂.frames with heap := s₂.heap, slotsUsed := s₂.slotsUsed } : State).setVm s₂.vm := by
      have : s₂ = ({ s₂ with vm := (U.calling g mk a).vm } : State).setVm s₂.vm := rfl
      rw [e2] at this
      exact this
    obtain ⟨c₂, i₂, len₂, hc₂, hd₂, hf₂⟩ := hend
    have hW' : U.WarmedH s₂.vm := hW₂
    have hcc : c₂ = c := by
      have h1 : s₂.code? g.method = U.code? g.method := by
        rw [State.code?_eq, State.code?_eq, hW'.alike.method?]
      exact Option.some.inj (hc₂.symm.trans (h1.trans h.code))
    subst hcc
    have hlen : len₂ = len := by rw [hdg] at hd₂; cases hd₂; rfl
    subst hlen
    have hs₂ : s₂ = (({ U with heap := s₂.heap, slotsUsed := s₂.slotsUsed } : State).setVm s₂.vm).setTop { g with pc := g.pc + len₂, stack := v.toList ++ g.stack } := by
      refine e3.trans ?_
      rw [hf₂, State.calling_eq h.top, State.setFrames_setFrames, State.setTop_of_frames _ hr', hr]
      rfl
    have hsame : U.sameButNew ({ U with heap := s₂.heap, slotsUsed := s₂.slotsUsed } : State) L mc ms := by
      refine ⟨?_, q2, q3, q4, q5, q6⟩
      obtain ⟨t, ht, -⟩ := State.frames_cons hr
      show ({ U with heap := s₂.heap, slotsUsed := s₂.slotsUsed } : State) = { U.setFrames U.frames with heap := s₂.heap, slotsUsed := s₂.slotsUsed }
      rw [State.setFrames_self ht]
    subst hg
    refine Or.inl ⟨v, ⟨(({ U with heap := s₂.heap, slotsUsed := s₂.slotsUsed } : State).setVm s₂.vm), Ls ++ L, c0 + mc, s0 + ms⟩,
      ⟨X.admits, X.cas, X.clock, X.frames, X.room, X.hears, X.method, X.code, (X.here.setHeapUsed s₂.heap s₂.slotsUsed).setVm hW'.alike, X.tail, State.WarmedH.trans X.warmed hW', X.limits, X.bytes, X.same.trans (hsame.setVm s.vm)⟩,
      ⟨g, mk, s₂, L, rfl, rfl, hqc, rfl, hL, rfl, rfl⟩, ?_⟩
    show Steps p.tables e below _ ((({ U with heap := s₂.heap, slotsUsed := s₂.slotsUsed } : State).setVm s₂.vm).setTop { g with pc := g.pc + len₂, stack := v.toList ++ g.stack })
    rw [← hs₂]
    exact hsteps
  · obtain ⟨e2, q2, q3, q4, q5, q6⟩ := id hsm
    have e3 : s₂ = ({ (U.calling g mk a).setFrames s₂.frames with heap := s₂.heap, slotsUsed := s₂.slotsUsed } : State).setVm s₂.vm := by
      have : s₂ = ({ s₂ with vm := (U.calling g mk a).vm } : State).setVm s₂.vm := rfl
      rw [e2] at this
      exact this
    have hf₂ : s₂.frames = .throwing q :: .java g :: U.frames.tail := hend
    have hW' : U.WarmedH s₂.vm := hW₂
    have hs₂ : s₂ = ((({ U with heap := s₂.heap, slotsUsed := s₂.slotsUsed } : State).setVm s₂.vm).setTop g).pushFrame (.throwing q) := by
      refine e3.trans ?_
      rw [hf₂, State.calling_eq h.top, State.setFrames_setFrames, State.pushFrame, State.frames_setTop _ hr', State.setTop_of_frames _ hr', State.setFrames_setFrames, hr]
      rfl
    have hsame : U.sameButNew ({ U with heap := s₂.heap, slotsUsed := s₂.slotsUsed } : State) L mc ms := by
      refine ⟨?_, q2, q3, q4, q5, q6⟩
      obtain ⟨t, ht, -⟩ := State.frames_cons hr
      show ({ U with heap := s₂.heap, slotsUsed := s₂.slotsUsed } : State) = { U.setFrames U.frames with heap := s₂.heap, slotsUsed := s₂.slotsUsed }
      rw [State.setFrames_self ht]
    subst hg
    refine Or.inr ⟨q, ⟨(({ U with heap := s₂.heap, slotsUsed := s₂.slotsUsed } : State).setVm s₂.vm), Ls ++ L, c0 + mc, s0 + ms⟩,
      ⟨X.admits, X.cas, X.clock, X.frames, X.room, X.hears, X.method, X.code, (X.here.setHeapUsed s₂.heap s₂.slotsUsed).setVm hW'.alike, X.tail, State.WarmedH.trans X.warmed hW', X.limits, X.bytes, X.same.trans (hsame.setVm s.vm)⟩,
      ⟨g, mk, s₂, L, E, ce, rfl, rfl, hx, hce, hcv, hcl, rfl, hL, rfl, rfl⟩, ?_⟩
    show Steps p.tables e below _ (((({ U with heap := s₂.heap, slotsUsed := s₂.slotsUsed } : State).setVm s₂.vm).setTop g).pushFrame (.throwing q))
    rw [← hs₂]
    exact hsteps
end Payer
section Calls
variable {p : Program} {l : Launch} {e : Env} {R : Room} {s : State} {m : MethodId} {args : Array Value} {below : List Frame} {meth : Method} {c : Code} {T : State} {locs : List Loc} {cells slots : Nat}
theorem vx_callV (X : Stand p l e R s m args below meth c T locs cells slots) (hexec : p.tables.exec = Jvm.exec) {own C : String} {index : Nat} {y : MethodName} {bytes : ByteArray} {maxL : Nat} {ret : Option FieldType}
    (hown : s.vm.findClass own = some m.cls) (hlink : (Cond.methodLink own index y).before args s = true) (hinst : (Cond.instanceMethod y).before args s = true) (hsel : (Cond.selects C y y).before args s = true)
    (hcode : (Cond.code y bytes maxL ret).before args s = true) (hy : y.cls ≠ "java/lang/invoke/MethodHandle" ∧ y.cls ≠ "java/lang/invoke/VarHandle")
    {W9 : Nat} {Pre : Pt → Array Value → Prop} {Post : Pt → Array Value → Option Value → Pt → Prop} {PostX : Pt → Array Value → Addr → Pt → Prop} (hK : vx_Back l R p e below s args y 3 W9 Pre Post PostX)
    {b : Addr} {cellB : Cell} (hcell : T.heap[b]? = some cellB) (hobj : cellB.vm.isStatics = false) (hcls : s.vm.findClass C = some cellB.cls)
    {g : JFrame} (hg : g.method = m) (hsize : g.locals.size = c.maxLocals) {argsL rest : List Value} (hlen : ∀ sig, parseMethodDescriptor y.desc = some sig → argsL.length = sig.parameters.length)
    (hstack : g.stack = argsL.reverse ++ .ref b :: rest) (hW : 2 * g.monitorRoom + (rest.map fun v => v.category).sum ≤ W9) (hdg : decode c.code g.pc = .ok (.invokevirtual index, 3))
    (hpre : ∀ vm₁, s.WarmedH vm₁ → Pre ⟨T.setVm vm₁, locs, cells, slots⟩ (Value.ref b :: argsL).toArray) :
    (∃ (v : Option Value) (vm₁ : Vm) (B : Pt), s.WarmedH vm₁ ∧ Stand p l e R s m args below meth c B.U B.locs B.cells B.slots ∧ Post ⟨T.setVm vm₁, locs, cells, slots⟩ (Value.ref b :: argsL).toArray v B ∧
      ∀ target, Steps p.tables e below (B.U.setTop { g with pc := g.pc + 3, stack := v.toList ++ rest }) target → Steps p.tables e below (T.setTop g) target) ∨
    (∃ (q : Addr) (vm₁ : Vm) (B : Pt), s.WarmedH vm₁ ∧ Stand p l e R s m args below meth c B.U B.locs B.cells B.slots ∧ PostX ⟨T.setVm vm₁, locs, cells, slots⟩ (Value.ref b :: argsL).toArray q B ∧
      Steps p.tables e below (T.setTop g) ((B.U.setTop { g with stack := rest }).pushFrame (.throwing q))) := by
  obtain ⟨mk, methM, hnamed, hmethM, hstM, habM⟩ := Cond.instanceMethod_spec hinst
  obtain ⟨methM', cM, hmethM', -, -, -, -, -, -, hsigM⟩ := Cond.code_spec hnamed hcode
  cases hmethM.symm.trans hmethM'
  obtain ⟨c2, r2, m2, q1, q2, q3, q4, kP, hkP, hkPi⟩ := Cond.selects_spec hsel
  cases hcls.symm.trans q1
  cases (State.methodFound?_of_named hnamed hy).symm.trans q2
  cases hnamed.symm.trans q3
  have hselP : selectMethod e.platform s.vm cellB.cls mk = .method mk := by rw [Launch.admits_selectMethod X.admits]; exact q4
  obtain ⟨vm₁, X₁, hstep₁⟩ := X.invokevirtual hexec hown hlink hnamed hmethM hstM hkP hkPi hy (a := b) (cell := cellB) hcell
    (fun z h => by rw [h] at hobj; cases hobj) hselP hmethM habM hkP hkPi (g := g) hg (argsL := argsL) (rest := rest) (hlen _ hsigM) hstack hdg
  rcases hK m meth c ⟨T.setVm vm₁, locs, cells, slots⟩ { g with stack := rest } (.invokevirtual index) mk (Value.ref b :: argsL).toArray X₁ hg hsize hdg hW (X₁.named hnamed) (hpre vm₁ X₁.warmed) with ⟨v, B, X', hpost, hsteps⟩ | ⟨q, B, X', hpost, hsteps⟩
  · exact Or.inl ⟨v, vm₁, B, X₁.warmed, X', hpost, fun target h => hstep₁ _ fun acts => by rw [doInvoke_state]; exact hsteps.trans h⟩
  · exact Or.inr ⟨q, vm₁, B, X₁.warmed, X', hpost, hstep₁ _ fun acts => by rw [doInvoke_state]; exact hsteps⟩
theorem vx_callS (X : Stand p l e R s m args below meth c T locs cells slots) (hexec : p.tables.exec = Jvm.exec) {own : String} {index : Nat} {y : MethodName} {bytes : ByteArray} {maxL : Nat} {ret : Option FieldType}
    (hown : s.vm.findClass own = some m.cls) (hlink : (Cond.methodLink own index y).before args s = true) (hstat : (Cond.static y).before args s = true) (hinit : (Cond.initialized y.cls).before args s = true)
    (hcode : (Cond.code y bytes maxL ret).before args s = true) (hy : y.cls ≠ "java/lang/invoke/MethodHandle" ∧ y.cls ≠ "java/lang/invoke/VarHandle")
    {W9 : Nat} {Pre : Pt → Array Value → Prop} {Post : Pt → Array Value → Option Value → Pt → Prop} {PostX : Pt → Array Value → Addr → Pt → Prop} (hK : vx_Back l R p e below s args y 3 W9 Pre Post PostX)
    {g : JFrame} (hg : g.method = m) (hsize : g.locals.size = c.maxLocals) {argsL rest : List Value} (hlen : ∀ sig, parseMethodDescriptor y.desc = some sig → argsL.length = sig.parameters.length)
    (hstack : g.stack = argsL.reverse ++ rest) (hW : 2 * g.monitorRoom + (rest.map fun v => v.category).sum ≤ W9) (hdg : decode c.code g.pc = .ok (.invokestatic index, 3))
    (hpre : ∀ vm₁, s.WarmedH vm₁ → Pre ⟨T.setVm vm₁, locs, cells, slots⟩ argsL.toArray) :
    (∃ (v : Option Value) (vm₁ : Vm) (B : Pt), s.WarmedH vm₁ ∧ Stand p l e R s m args below meth c B.U B.locs B.cells B.slots ∧ Post ⟨T.setVm vm₁, locs, cells, slots⟩ argsL.toArray v B ∧
      ∀ target, Steps p.tables e below (B.U.setTop { g with pc := g.pc + 3, stack := v.toList ++ rest }) target → Steps p.tables e below (T.setTop g) target) ∨
    (∃ (q : Addr) (vm₁ : Vm) (B : Pt), s.WarmedH vm₁ ∧ Stand p l e R s m args below meth c B.U B.locs B.cells B.slots ∧ PostX ⟨T.setVm vm₁, locs, cells, slots⟩ argsL.toArray q B ∧
      Steps p.tables e below (T.setTop g) ((B.U.setTop { g with stack := rest }).pushFrame (.throwing q))) := by
  obtain ⟨mk, hnamed⟩ := Cond.code_named hcode
  obtain ⟨methM, cM, hmethM, -, -, -, -, -, -, hsigM⟩ := Cond.code_spec hnamed hcode
  have hstatic : methM.isStatic = true := Cond.static_spec hnamed hmethM hstat
  obtain ⟨kP, hkP, -⟩ := className_of_methodNamed hnamed
  have hinitP : kP.init = .initialized := Cond.initialized_spec (findClass_of_methodNamed hnamed) hkP hinit
  obtain ⟨vm₁, X₁, hstep₁⟩ := X.invokestatic hexec hown hlink hnamed hmethM hstatic hkP hinitP hy (g := g) hg (argsL := argsL) (rest := rest) (hlen _ hsigM) hstack hdg
  rcases hK m meth c ⟨T.setVm vm₁, locs, cells, slots⟩ { g with stack := rest } (.invokestatic index) mk argsL.toArray X₁ hg hsize hdg hW (X₁.named hnamed) (hpre vm₁ X₁.warmed) with ⟨v, B, X', hpost, hsteps⟩ | ⟨q, B, X', hpost, hsteps⟩
  · exact Or.inl ⟨v, vm₁, B, X₁.warmed, X', hpost, fun target h => hstep₁ _ fun acts => by rw [doInvoke_state]; exact hsteps.trans h⟩
  · exact Or.inr ⟨q, vm₁, B, X₁.warmed, X', hpost, hstep₁ _ fun acts => by rw [doInvoke_state]; exact hsteps⟩
end Calls
theorem vx_cls {s : State} {T : State} {vm₁ : Vm} {E : String} {k : ClassId} (hW : s.WarmedH vm₁) (h : (T.setVm vm₁).vm.findClass E = some k) : s.vm.findClass E = some k := by
  have h1 : vm₁.findClass E = some k := h
  rw [hW.alike.findClass] at h1
  exact h1
/-- the method's frame g, with q thrown over it -/
def vx_W (p : Program) (l : Launch) (e : Env) (R : Room) (s : State) (m : MethodId) (args : Array Value) (below : List Frame) (meth : Method) (c : Code) (H : Heap) (locs : List Loc) (cells slots : Nat) (Q : State → Prop) (g : JFrame) (q : Addr) : Prop :=
  ∀ T : State, T.heap = H → Stand p l e R s m args below meth c T locs cells slots → ∃ t, Steps p.tables e below ((T.setTop g).pushFrame (.throwing q)) t ∧ Q t
def vx_Run (p : Program) (l : Launch) (e : Env) (R : Room) (s : State) (m : MethodId) (args : Array Value) (below : List Frame) (meth : Method) (c : Code) (H : Heap) (locs : List Loc) (cells slots mc ms : Nat) (g : JFrame) (rest : List Value) (Qa : State → Outcome → State → Prop) (XC : String → State → State → Prop) (free : Addr → Prop) : Prop :=
  ∀ T : State, T.heap = H → Stand p l e R s m args below meth c T locs cells slots →
    (∃ (v : Option Value) (st₀ t T' : State) (L : List Loc), st₀.heap = H ∧ Stand p l e R s m args below meth c T' (locs ++ L) (cells + mc) (slots + ms) ∧ (∀ q ∈ L, free q.base) ∧ T'.heap = t.heap ∧ T'.vm = t.vm ∧ Qa st₀ (.returned v) t ∧
      Goes p e below T g T' { g with pc := g.pc + 3, stack := v.toList ++ rest }) ∨
    (∃ (q : Addr) (st₀ t T' : State) (L : List Loc) (E : String) (ce : Cell), st₀.heap = H ∧ Stand p l e R s m args below meth c T' (locs ++ L) (cells + mc) (slots + ms) ∧ (∀ z ∈ L, free z.base) ∧ T'.heap = t.heap ∧ T'.vm = t.vm ∧ XC E st₀ t ∧ t.heap[q]? = some ce ∧ ce.vm = .none ∧ s.vm.findClass E = some ce.cls ∧
      Steps p.tables e below (T.setTop g) ((T'.setTop { g with stack := rest }).pushFrame (.throwing q)))
def vx_X {S : Type} (px : S → Prop) (B : String → S → State → Prop) (A : Nat → Prop) : String → State → State → Prop := fun E st t => ∃ u : S, px u ∧ B E u t ∧ va_F A st t
section Runs
variable {p : Program} {l : Launch} {e : Env} {R : Room} {s : State} {m : MethodId} {args : Array Value} {below : List Frame} {meth : Method} {c : Code} {H : Heap} {locs : List Loc} {cells slots : Nat}
variable {y : MethodName} {bytes cc : ByteArray} {maxL nL mc ms n index : Nat} {ret : Option FieldType} {ws : List Cond} {rm : Room} {Pc : Array Value → State → Prop} {Qc : Array Value → State → Outcome → State → Prop} {XC : String → State → State → Prop} {free : Addr → Prop} {Ts : List Cond} {own C : String} {b : Addr} {As rest : List Value} {g : JFrame}
theorem vx_callBack (cb : CallB R s args own index y bytes maxL ret ws rm mc ms n) (hM : vx_Met l y ws rm Pc Qc XC mc ms free) (hbl : FrameBlind Pc) : vx_Back l R p e below s args y 3 8 (PreOf R mc ms Pc) (PostOf Qc mc ms free) (vx_Post XC mc ms free) := by
  obtain ⟨hrc, hrs, hfr, hlo, hws, hcw, -, hini, -⟩ := cb
  exact vx_back (bytes := bytes) (maxL := maxL) (ret := ret) hM hbl hrc hrs hfr hlo hws hcw (fun a' U hW => word_at hW (Or.inl (by first | rfl | simp [Cond.onTables, Cond.keeps, Cond.steady])) hini)
theorem vx_runV (S : CallFix p m c cc nL s args Ts own) (hM : vx_Met l y ws rm Pc Qc XC mc ms free) (cw : CallW R s args own C index y bytes maxL ret ws rm mc ms n) (hp : PreV s H C b Pc As)
    (hg : g.method = m) (hn : As.length = n) (hsize : g.locals.size = nL) (hstack : g.stack = As.reverse ++ .ref b :: rest) (hW : 2 * g.monitorRoom + (rest.map fun v => v.category).sum ≤ 8) (hdg : decode cc g.pc = .ok (.invokevirtual index, 3)) (hf : cells + mc ≤ R.cells ∧ slots + ms ≤ R.slots) :
    vx_Run p l e R s m args below meth c H locs cells slots mc ms g rest (Qc (Value.ref b :: As).toArray) XC free := by
  have hK : vx_Back l R p e below s args y 3 8 (PreOf R mc ms Pc) (PostOf Qc mc ms free) (vx_Post XC mc ms free) := vx_callBack cw.1 hM hp.1
  obtain ⟨⟨-, -, -, -, -, -, hcode, -, hy, hlen, hl⟩, hin, hse⟩ := cw
  obtain ⟨hx, hb, hml, ho, -⟩ := S
  obtain ⟨-, ⟨cellB, hcB, hoB, hclB⟩, hPc⟩ := hp
  intro T hT X
  rcases vx_callV X hx (C := C) (bytes := bytes) (maxL := maxL) (ret := ret) ho hl hin hse hcode hy hK (by rw [hT]; exact hcB) hoB hclB hg (hsize.trans hml.symm) (argsL := As) (rest := rest) (fun sig h => hn.trans (hlen sig h)) hstack hW (by rw [hb]; exact hdg)
    (fun vm₁ hW₁ => ⟨hf.1, hf.2, hPc (T.setVm vm₁) hT hW₁⟩) with ⟨v, vm₁, ⟨U', l2, c2, s2⟩, hW₁, X', ⟨g', mk, t, L, e1, e2, hq, h1, hL, h2, h3⟩, st⟩ | ⟨q, vm₁, ⟨U', l2, c2, s2⟩, hW₁, X', ⟨g', mk, t, L, E, ce, e1, e2, hq, hce, hcv, hcl, h1, hL, h2, h3⟩, st⟩
  · dsimp only [Pt.U, Pt.locs, Pt.cells, Pt.slots] at X' e1 e2 h1 h2 h3 st
    subst h1; subst h2; subst h3
    exact Or.inl ⟨v, (T.setVm vm₁).calling g' mk (Value.ref b :: As).toArray, t, U', L, hT, X', hL, e1, e2, hq, st⟩
  · dsimp only [Pt.U, Pt.locs, Pt.cells, Pt.slots] at X' e1 e2 h1 h2 h3 st hcl
    subst h1; subst h2; subst h3
    exact Or.inr ⟨q, (T.setVm vm₁).calling g' mk (Value.ref b :: As).toArray, t, U', L, E, ce, hT, X', hL, e1, e2, hq, hce, hcv, vx_cls hW₁ hcl, st⟩
theorem vx_runS (S : CallFix p m c cc nL s args Ts own) (hM : vx_Met l y ws rm Pc Qc XC mc ms free) (cw : CallB R s args own index y bytes maxL ret ws rm mc ms n ∧ (Cond.static y).before args s = true) (hp : PreS s H Pc As)
    (hg : g.method = m) (hn : As.length = n) (hsize : g.locals.size = nL) (hstack : g.stack = As.reverse ++ rest) (hW : 2 * g.monitorRoom + (rest.map fun v => v.category).sum ≤ 8) (hdg : decode cc g.pc = .ok (.invokestatic index, 3)) (hf : cells + mc ≤ R.cells ∧ slots + ms ≤ R.slots) :
    vx_Run p l e R s m args below meth c H locs cells slots mc ms g rest (Qc As.toArray) XC free := by
  have hK : vx_Back l R p e below s args y 3 8 (PreOf R mc ms Pc) (PostOf Qc mc ms free) (vx_Post XC mc ms free) := vx_callBack cw.1 hM hp.1
  obtain ⟨⟨-, -, -, -, -, -, hcode, hini, hy, hlen, hl⟩, hstt⟩ := cw
  obtain ⟨hx, hb, hml, ho, -⟩ := S
  intro T hT X
  rcases vx_callS X hx (bytes := bytes) (maxL := maxL) (ret := ret) ho hl hstt hini hcode hy hK hg (hsize.trans hml.symm) (argsL := As) (rest := rest) (fun sig h => hn.trans (hlen sig h)) hstack hW (by rw [hb]; exact hdg)
    (fun vm₁ hW₁ => ⟨hf.1, hf.2, hp.2 (T.setVm vm₁) hT hW₁⟩) with ⟨v, vm₁, ⟨U', l2, c2, s2⟩, hW₁, X', ⟨g', mk, t, L, e1, e2, hq, h1, hL, h2, h3⟩, st⟩ | ⟨q, vm₁, ⟨U', l2, c2, s2⟩, hW₁, X', ⟨g', mk, t, L, E, ce, e1, e2, hq, hce, hcv, hcl, h1, hL, h2, h3⟩, st⟩
  · dsimp only [Pt.U, Pt.locs, Pt.cells, Pt.slots] at X' e1 e2 h1 h2 h3 st
    subst h1; subst h2; subst h3
    exact Or.inl ⟨v, (T.setVm vm₁).calling g' mk As.toArray, t, U', L, hT, X', hL, e1, e2, hq, st⟩
  · dsimp only [Pt.U, Pt.locs, Pt.cells, Pt.slots] at X' e1 e2 h1 h2 h3 st hcl
    subst h1; subst h2; subst h3
    exact Or.inr ⟨q, (T.setVm vm₁).calling g' mk As.toArray, t, U', L, E, ce, hT, X', hL, e1, e2, hq, hce, hcv, vx_cls hW₁ hcl, st⟩
end Runs
section Rows
variable {p : Program} {l : Launch} {e : Env} {R : Room} {s : State} {m : MethodId} {args : Array Value} {below : List Frame} {meth : Method} {c : Code} {H : Heap} {locs : List Loc} {cells slots : Nat} {Q : State → Prop}
variable {mc ms : Nat} {free : Addr → Prop} {A0 A1 : Nat → Prop} {H0 : Heap} {a : Array Value} {pc : Nat} {ls : Array Slot} {st0 rest : List Value}
theorem vx_keep {st₀ t T' : State} {L : List Loc} (h0 : st₀.heap = H) (e1 : T'.heap = t.heap) (hS : va_S A0 H0 H locs) (hA : ∀ q, q < H.size → A1 q → A0 q) (hf : ∀ q, free q → A0 q) (hL : ∀ q ∈ L, free q.base) (hF : va_F A1 st₀ t) :
    H.size ≤ T'.heap.size ∧ (∀ q : Nat, q < H.size → ¬ A1 q → T'.heap[q]? = H[q]?) ∧ va_S A0 H0 T'.heap (locs ++ L) := by
  obtain ⟨hz, hk⟩ := hF
  rw [h0] at hz hk
  exact ⟨by rw [e1]; exact hz, fun q h1 h2 => by rw [e1]; exact hk q h1 h2,
    ⟨Nat.le_trans hS.1 (by rw [e1]; exact hz), fun q h1 h2 => by rw [e1, hk q (Nat.lt_of_lt_of_le h1 hS.1) (fun z => h2 (hA q (Nat.lt_of_lt_of_le h1 hS.1) z))]; exact hS.2.1 q h1 h2, fun q hq => by
      rcases List.mem_append.mp hq with h | h
      · exact hS.2.2 q h
      · exact hf _ (hL q h)⟩⟩
theorem vx_calli {S SX : Type} {post : Int32 → S → Prop} {px : SX → Prop} {B : S → State → Prop} {BX : String → SX → State → Prop} {AX : Nat → Prop} (hr : vx_Run p l e R s m args below meth c H locs cells slots mc ms (F0 m pc ls st0) rest (va_Qi post B A1 a) (vx_X px BX AX) free) (hS : va_S A0 H0 H locs) (hA : ∀ q, q < H.size → A1 q → A0 q) (hf : ∀ q, free q → A0 q) (hAX : ∀ q, q < H.size → AX q → A0 q)
    (kx : ∀ (E : String) (ce : Cell) (q9 : Addr) (u : SX) (t : State) (H1 : Heap) (locs1 : List Loc), t.heap = H1 → s.vm.Alike t.vm → px u → BX E u t → H.size ≤ H1.size → (∀ q : Nat, q < H.size → ¬ AX q → H1[q]? = H[q]?) → va_S A0 H0 H1 locs1 → H1[q9]? = some ce → ce.vm = .none → s.vm.findClass E = some ce.cls → vx_W p l e R s m args below meth c H1 locs1 (cells + mc) (slots + ms) Q (F0 m pc ls rest) q9)
    (kk : ∀ (r : Int32) (u : S) (t : State) (H1 : Heap) (locs1 : List Loc), t.heap = H1 → s.vm.Alike t.vm → post r u → B u t → H.size ≤ H1.size → (∀ q : Nat, q < H.size → ¬ A1 q → H1[q]? = H[q]?) → va_S A0 H0 H1 locs1 → W p l e R s m args below meth c H1 locs1 (cells + mc) (slots + ms) Q (F0 m (pc + 3) ls (.int r :: rest))) : W p l e R s m args below meth c H locs cells slots Q (F0 m pc ls st0) := by
  intro T hT X
  rcases hr T hT X with ⟨v, st₀, t, T', L, h0, X', hL, e1, e2, ⟨⟨r, u, hv, hp, hb⟩, hF⟩, st⟩ | ⟨q, st₀, t, T', L, E, ce, h0, X', hL, e1, e2, ⟨u, hp, hb, hF⟩, hce, hcv, hcl, st⟩
  · cases hv
    obtain ⟨k1, k2, k3⟩ := vx_keep h0 e1 hS hA hf hL hF
    obtain ⟨t2, a1, b1⟩ := kk r u t T'.heap (locs ++ L) e1.symm (by rw [← e2]; exact X'.warmed.alike) hp hb k1 k2 k3 T' rfl X'
    exact ⟨t2, st t2 a1, b1⟩
  · obtain ⟨k1, k2, k3⟩ := vx_keep h0 e1 hS hAX hf hL hF
    obtain ⟨t2, a1, b1⟩ := kx E ce q u t T'.heap (locs ++ L) e1.symm (by rw [← e2]; exact X'.warmed.alike) hp hb k1 k2 k3 (by rw [e1]; exact hce) hcv hcl T' rfl X'
    exact ⟨t2, st.trans a1, b1⟩
theorem vx_calll {S SX : Type} {post : Int64 → S → Prop} {px : SX → Prop} {B : S → State → Prop} {BX : String → SX → State → Prop} {AX : Nat → Prop} (hr : vx_Run p l e R s m args below meth c H locs cells slots mc ms (F0 m pc ls st0) rest (va_Ql post B A1 a) (vx_X px BX AX) free) (hS : va_S A0 H0 H locs) (hA : ∀ q, q < H.size → A1 q → A0 q) (hf : ∀ q, free q → A0 q) (hAX : ∀ q, q < H.size → AX q → A0 q)
    (kx : ∀ (E : String) (ce : Cell) (q9 : Addr) (u : SX) (t : State) (H1 : Heap) (locs1 : List Loc), t.heap = H1 → s.vm.Alike t.vm → px u → BX E u t → H.size ≤ H1.size → (∀ q : Nat, q < H.size → ¬ AX q → H1[q]? = H[q]?) → va_S A0 H0 H1 locs1 → H1[q9]? = some ce → ce.vm = .none → s.vm.findClass E = some ce.cls → vx_W p l e R s m args below meth c H1 locs1 (cells + mc) (slots + ms) Q (F0 m pc ls rest) q9)
    (kk : ∀ (r : Int64) (u : S) (t : State) (H1 : Heap) (locs1 : List Loc), t.heap = H1 → s.vm.Alike t.vm → post r u → B u t → H.size ≤ H1.size → (∀ q : Nat, q < H.size → ¬ A1 q → H1[q]? = H[q]?) → va_S A0 H0 H1 locs1 → W p l e R s m args below meth c H1 locs1 (cells + mc) (slots + ms) Q (F0 m (pc + 3) ls (.long r :: rest))) : W p l e R s m args below meth c H locs cells slots Q (F0 m pc ls st0) := by
  intro T hT X
  rcases hr T hT X with ⟨v, st₀, t, T', L, h0, X', hL, e1, e2, ⟨⟨r, u, hv, hp, hb⟩, hF⟩, st⟩ | ⟨q, st₀, t, T', L, E, ce, h0, X', hL, e1, e2, ⟨u, hp, hb, hF⟩, hce, hcv, hcl, st⟩
  · cases hv
    obtain ⟨k1, k2, k3⟩ := vx_keep h0 e1 hS hA hf hL hF
    obtain ⟨t2, a1, b1⟩ := kk r u t T'.heap (locs ++ L) e1.symm (by rw [← e2]; exact X'.warmed.alike) hp hb k1 k2 k3 T' rfl X'
    exact ⟨t2, st t2 a1, b1⟩
  · obtain ⟨k1, k2, k3⟩ := vx_keep h0 e1 hS hAX hf hL hF
    obtain ⟨t2, a1, b1⟩ := kx E ce q u t T'.heap (locs ++ L) e1.symm (by rw [← e2]; exact X'.warmed.alike) hp hb k1 k2 k3 (by rw [e1]; exact hce) hcv hcl T' rfl X'
    exact ⟨t2, st.trans a1, b1⟩
theorem vx_callf {S SX : Type} {post : UInt32 → S → Prop} {px : SX → Prop} {B : S → State → Prop} {BX : String → SX → State → Prop} {AX : Nat → Prop} (hr : vx_Run p l e R s m args below meth c H locs cells slots mc ms (F0 m pc ls st0) rest (va_Qf post B A1 a) (vx_X px BX AX) free) (hS : va_S A0 H0 H locs) (hA : ∀ q, q < H.size → A1 q → A0 q) (hf : ∀ q, free q → A0 q) (hAX : ∀ q, q < H.size → AX q → A0 q)
    (kx : ∀ (E : String) (ce : Cell) (q9 : Addr) (u : SX) (t : State) (H1 : Heap) (locs1 : List Loc), t.heap = H1 → s.vm.Alike t.vm → px u → BX E u t → H.size ≤ H1.size → (∀ q : Nat, q < H.size → ¬ AX q → H1[q]? = H[q]?) → va_S A0 H0 H1 locs1 → H1[q9]? = some ce → ce.vm = .none → s.vm.findClass E = some ce.cls → vx_W p l e R s m args below meth c H1 locs1 (cells + mc) (slots + ms) Q (F0 m pc ls rest) q9)
    (kk : ∀ (r : UInt32) (u : S) (t : State) (H1 : Heap) (locs1 : List Loc), t.heap = H1 → s.vm.Alike t.vm → post r u → B u t → H.size ≤ H1.size → (∀ q : Nat, q < H.size → ¬ A1 q → H1[q]? = H[q]?) → va_S A0 H0 H1 locs1 → W p l e R s m args below meth c H1 locs1 (cells + mc) (slots + ms) Q (F0 m (pc + 3) ls (.float r :: rest))) : W p l e R s m args below meth c H locs cells slots Q (F0 m pc ls st0) := by
  intro T hT X
  rcases hr T hT X with ⟨v, st₀, t, T', L, h0, X', hL, e1, e2, ⟨⟨r, u, hv, hp, hb⟩, hF⟩, st⟩ | ⟨q, st₀, t, T', L, E, ce, h0, X', hL, e1, e2, ⟨u, hp, hb, hF⟩, hce, hcv, hcl, st⟩
  · cases hv
    obtain ⟨k1, k2, k3⟩ := vx_keep h0 e1 hS hA hf hL hF
    obtain ⟨t2, a1, b1⟩ := kk r u t T'.heap (locs ++ L) e1.symm (by rw [← e2]; exact X'.warmed.alike) hp hb k1 k2 k3 T' rfl X'
    exact ⟨t2, st t2 a1, b1⟩
  · obtain ⟨k1, k2, k3⟩ := vx_keep h0 e1 hS hAX hf hL hF
    obtain ⟨t2, a1, b1⟩ := kx E ce q u t T'.heap (locs ++ L) e1.symm (by rw [← e2]; exact X'.warmed.alike) hp hb k1 k2 k3 (by rw [e1]; exact hce) hcv hcl T' rfl X'
    exact ⟨t2, st.trans a1, b1⟩
theorem vx_calld {S SX : Type} {post : UInt64 → S → Prop} {px : SX → Prop} {B : S → State → Prop} {BX : String → SX → State → Prop} {AX : Nat → Prop} (hr : vx_Run p l e R s m args below meth c H locs cells slots mc ms (F0 m pc ls st0) rest (va_Qd post B A1 a) (vx_X px BX AX) free) (hS : va_S A0 H0 H locs) (hA : ∀ q, q < H.size → A1 q → A0 q) (hf : ∀ q, free q → A0 q) (hAX : ∀ q, q < H.size → AX q → A0 q)
    (kx : ∀ (E : String) (ce : Cell) (q9 : Addr) (u : SX) (t : State) (H1 : Heap) (locs1 : List Loc), t.heap = H1 → s.vm.Alike t.vm → px u → BX E u t → H.size ≤ H1.size → (∀ q : Nat, q < H.size → ¬ AX q → H1[q]? = H[q]?) → va_S A0 H0 H1 locs1 → H1[q9]? = some ce → ce.vm = .none → s.vm.findClass E = some ce.cls → vx_W p l e R s m args below meth c H1 locs1 (cells + mc) (slots + ms) Q (F0 m pc ls rest) q9)
    (kk : ∀ (r : UInt64) (u : S) (t : State) (H1 : Heap) (locs1 : List Loc), t.heap = H1 → s.vm.Alike t.vm → post r u → B u t → H.size ≤ H1.size → (∀ q : Nat, q < H.size → ¬ A1 q → H1[q]? = H[q]?) → va_S A0 H0 H1 locs1 → W p l e R s m args below meth c H1 locs1 (cells + mc) (slots + ms) Q (F0 m (pc + 3) ls (.double r :: rest))) : W p l e R s m args below meth c H locs cells slots Q (F0 m pc ls st0) := by
  intro T hT X
  rcases hr T hT X with ⟨v, st₀, t, T', L, h0, X', hL, e1, e2, ⟨⟨r, u, hv, hp, hb⟩, hF⟩, st⟩ | ⟨q, st₀, t, T', L, E, ce, h0, X', hL, e1, e2, ⟨u, hp, hb, hF⟩, hce, hcv, hcl, st⟩
  · cases hv
    obtain ⟨k1, k2, k3⟩ := vx_keep h0 e1 hS hA hf hL hF
    obtain ⟨t2, a1, b1⟩ := kk r u t T'.heap (locs ++ L) e1.symm (by rw [← e2]; exact X'.warmed.alike) hp hb k1 k2 k3 T' rfl X'
    exact ⟨t2, st t2 a1, b1⟩
  · obtain ⟨k1, k2, k3⟩ := vx_keep h0 e1 hS hAX hf hL hF
    obtain ⟨t2, a1, b1⟩ := kx E ce q u t T'.heap (locs ++ L) e1.symm (by rw [← e2]; exact X'.warmed.alike) hp hb k1 k2 k3 (by rw [e1]; exact hce) hcv hcl T' rfl X'
    exact ⟨t2, st.trans a1, b1⟩
theorem vx_callv {S SX : Type} {post : S → Prop} {px : SX → Prop} {B : S → State → Prop} {BX : String → SX → State → Prop} {AX : Nat → Prop} (hr : vx_Run p l e R s m args below meth c H locs cells slots mc ms (F0 m pc ls st0) rest (va_Qv post B A1 a) (vx_X px BX AX) free) (hS : va_S A0 H0 H locs) (hA : ∀ q, q < H.size → A1 q → A0 q) (hf : ∀ q, free q → A0 q) (hAX : ∀ q, q < H.size → AX q → A0 q)
    (kx : ∀ (E : String) (ce : Cell) (q9 : Addr) (u : SX) (t : State) (H1 : Heap) (locs1 : List Loc), t.heap = H1 → s.vm.Alike t.vm → px u → BX E u t → H.size ≤ H1.size → (∀ q : Nat, q < H.size → ¬ AX q → H1[q]? = H[q]?) → va_S A0 H0 H1 locs1 → H1[q9]? = some ce → ce.vm = .none → s.vm.findClass E = some ce.cls → vx_W p l e R s m args below meth c H1 locs1 (cells + mc) (slots + ms) Q (F0 m pc ls rest) q9)
    (kk : ∀ (u : S) (t : State) (H1 : Heap) (locs1 : List Loc), t.heap = H1 → s.vm.Alike t.vm → post u → B u t → H.size ≤ H1.size → (∀ q : Nat, q < H.size → ¬ A1 q → H1[q]? = H[q]?) → va_S A0 H0 H1 locs1 → W p l e R s m args below meth c H1 locs1 (cells + mc) (slots + ms) Q (F0 m (pc + 3) ls (rest))) : W p l e R s m args below meth c H locs cells slots Q (F0 m pc ls st0) := by
  intro T hT X
  rcases hr T hT X with ⟨v, st₀, t, T', L, h0, X', hL, e1, e2, ⟨⟨u, hv, hp, hb⟩, hF⟩, st⟩ | ⟨q, st₀, t, T', L, E, ce, h0, X', hL, e1, e2, ⟨u, hp, hb, hF⟩, hce, hcv, hcl, st⟩
  · cases hv
    obtain ⟨k1, k2, k3⟩ := vx_keep h0 e1 hS hA hf hL hF
    obtain ⟨t2, a1, b1⟩ := kk u t T'.heap (locs ++ L) e1.symm (by rw [← e2]; exact X'.warmed.alike) hp hb k1 k2 k3 T' rfl X'
    exact ⟨t2, st t2 a1, b1⟩
  · obtain ⟨k1, k2, k3⟩ := vx_keep h0 e1 hS hAX hf hL hF
    obtain ⟨t2, a1, b1⟩ := kx E ce q u t T'.heap (locs ++ L) e1.symm (by rw [← e2]; exact X'.warmed.alike) hp hb k1 k2 k3 (by rw [e1]; exact hce) hcv hcl T' rfl X'
    exact ⟨t2, st.trans a1, b1⟩
/-- caught by the row x of this method's table; the rows ahead don't take it -/
theorem vx_catch {own name : String} {E : String} {ce : Cell} {q : Addr} (hown : s.vm.findClass own = some m.cls) (pre : List ExceptionTableEntry) (x : ExceptionTableEntry) (suf : List ExceptionTableEntry) (hsplit : c.exceptionTable.toList = pre ++ x :: suf)
    (hpass : ∀ z ∈ pre, covers z pc = false ∨ (z.catchType ≠ 0 ∧ ∃ nm : String, (Cond.classLink own z.catchType nm).before args s = true ∧ va_Nc E nm s)) (hx : covers x pc = true) (h0 : x.catchType ≠ 0)
    (hlink : (Cond.classLink own x.catchType name).before args s = true) (hcast : (Cond.castable E name).before args s = true) (hcell : H[q]? = some ce) (hv : ce.vm = .none) (hcl : s.vm.findClass E = some ce.cls)
    (kk : W p l e R s m args below meth c H locs cells slots Q (F0 m x.handlerPc ls [.ref q])) : vx_W p l e R s m args below meth c H locs cells slots Q (F0 m pc ls rest) q := by
  intro T hT X
  have hpl : e.platform.magicAccessors = ({} : Platform).magicAccessors := by rw [X.admits.platform]
  obtain ⟨c3, c4, hc3, hc4, hasg⟩ := Cond.castable_spec hcast
  cases Option.some.inj (hc3.symm.trans hcl)
  obtain ⟨c5, hc5, hcl5⟩ := Cond.classLink_spec hown hlink e.platform hpl
  cases Option.some.inj (hc4.symm.trans hc5)
  obtain ⟨vm', X', st⟩ := X.thenCaughtThrough q (g := F0 m pc ls rest) rfl (Steps.refl _) (by rw [hT]; exact hcell) (by rw [hv]; rfl) (by obtain ⟨k9, h9, -⟩ := Vm.findClass_spec hcl; exact ⟨k9, h9⟩) pre x suf hsplit
    (fun z hz => by
      rcases hpass z hz with h | ⟨hz0, nm, hl1, hn1⟩
      · exact Or.inl h
      · obtain ⟨c6, hc6, hcl6⟩ := Cond.classLink_spec hown hl1 e.platform hpl
        obtain ⟨a8, b8, h1, h2, h3⟩ := hn1
        cases Option.some.inj (h1.symm.trans hcl)
        cases Option.some.inj (h2.symm.trans hc6)
        exact Or.inr ⟨hz0, _, hcl6, h3⟩) hx (Or.inr ⟨h0, c4, hcl5, hasg⟩)
  obtain ⟨t, a1, b1⟩ := kk (T.setVm vm') hT X'
  exact ⟨t, st.trans a1, b1⟩
end Rows
section Ends
variable {p : Program} {l : Launch} {e : Env} {R : Room} {s : State} {m : MethodId} {args : Array Value} {below : List Frame} {meth : Method} {c : Code} {H : Heap} {locs : List Loc} {cells slots : Nat} {Q : State → Prop}
variable {mc ms : Nat} {free : Addr → Prop} {A0 A1 : Nat → Prop} {H0 : Heap} {a : Array Value} {ls : Array Slot} {st0 rest : List Value}
variable {Qc : Array Value → State → Outcome → State → Prop} {XC : String → State → State → Prop}
/-- what a body that may throw owes at its end -/
def vx_MQ (below : List Frame) (Qc : Array Value → State → Outcome → State → Prop) (XC : String → State → State → Prop) (a : Array Value) (s : State) (mc ms : Nat) (free : Addr → Prop) : State → Prop := fun t =>
  ∃ o, t.status = .running ∧ Ended t below o ∧ vx_Q Qc XC mc ms free a s o t
theorem vx_ret {g : JFrame} {mc ms : Nat} (k : W p l e R s m args below meth c H locs cells slots (MQ below Qc args s mc ms free) g) : W p l e R s m args below meth c H locs cells slots (vx_MQ below Qc XC args s mc ms free) g := by
  intro T hT X
  obtain ⟨t, a1, o, b1, b2, b3, b4⟩ := k T hT X
  exact ⟨t, a1, o, b1, b2, Or.inl ⟨b3, b4⟩⟩
/-- not caught here: it goes on to the caller -/
theorem vx_widen {g : JFrame} {q : Addr} {k n : Nat} (h1 : cells ≤ k) (h2 : slots ≤ n) (kk : vx_W p l e R s m args below meth c H locs k n Q g q) : vx_W p l e R s m args below meth c H locs cells slots Q g q := fun T hT X => kk T hT (stand_widen X h1 h2)
theorem vx_out {pc : Nat} {E : String} {ce : Cell} {q : Addr} {mc ms : Nat} (hout : ∀ x ∈ c.exceptionTable.toList, covers x pc = false) (hlocks : meth.locks = false) (hcell : H[q]? = some ce) (hv : ce.vm = .none) (hcl : s.vm.findClass E = some ce.cls)
    (hx : ∀ t : State, t.heap = H → s.vm.Alike t.vm → XC E s t) (hf : ∀ z ∈ locs, free z.base) (hc : cells ≤ mc) (hs : slots ≤ ms) :
    vx_W p l e R s m args below meth c H locs cells slots (vx_MQ below Qc XC args s mc ms free) (F0 m pc ls rest) q := by
  intro T hT X
  obtain ⟨st1, hrun, hend, hW, hsm⟩ := X.leaveThrown q (g := F0 m pc ls rest) rfl rfl rfl hout hlocks
  have hcell9 : (T.setFrames (.throwing q :: below)).heap[q]? = some ce := by
    show T.heap[q]? = some ce
    rw [hT]; exact hcell
  exact ⟨_, st1, .threw q, hrun, hend, Or.inr ⟨q, rfl, E, ce, locs, hx _ hT hW.alike, hcell9, hv, hcl, hW, hsm.mono hc hs, hf⟩⟩
theorem vx_frame {U : State} {k n : Nat} (h : s.sameButNew ({ U with vm := s.vm } : State) locs k n) : s.heap.size ≤ U.heap.size ∧ ∀ q : Nat, q < s.heap.size → (∀ z ∈ locs, z.base ≠ q) → U.heap[q]? = s.heap[q]? := by
  obtain ⟨-, h2, -, -, -, h6⟩ := h
  refine ⟨h2, fun q hq hz => ?_⟩
  obtain ⟨c9, e1, e2, e3, e4⟩ := h6 q _ (Array.getElem?_eq_getElem hq)
  have hs : c9.slots = (s.heap[q]).slots := Array.ext_getElem? fun i => e4 i fun hm => hz _ hm rfl
  have h9 : c9 = s.heap[q] := by
    rw [hs] at e2
    exact e2
  have e5 : U.heap[q]? = some c9 := e1
  rw [e5, h9, Array.getElem?_eq_getElem hq]
/-- the words of a throw but the four that speak of the heap -/
def vx_no (w : Cond) : Bool := decide (w ≠ .isRef (.static Bundle.tN "UNASSIGNED_STACK" Bundle.steD)) && decide (w ≠ .isRef (.static Bundle.tN "SUPPRESSED_SENTINEL" Bundle.listD)) && decide (w ≠ .laysStatic Bundle.tN "UNASSIGNED_STACK" Bundle.steD) && decide (w ≠ .laysStatic Bundle.tN "SUPPRESSED_SENTINEL" Bundle.listD)
def vx_at0 (own : String) (ic : Nat) (X : String) (names : List String) : List Cond := (Bundle.ownAtoms0 own ic X names).filter vx_no
def vx_atS (own : String) (ic : Nat) (X : String) (names : List String) : List Cond := (Bundle.ownAtoms own ic X names).filter vx_no
/-- a word that the tables alone decide, or a good one -/
def vx_ot (w : Cond) : Bool := w.onTables || goodWord w
theorem vx_ot_at {args a' : Array Value} {s U : State} {w : Cond} (hW : s.WarmedH U.vm) (hvm : s.vm = U.vm) (hg : vx_ot w = true) (h : w.before args s = true) : w.before a' U = true := by
  simp only [vx_ot, Bool.or_eq_true] at hg
  rcases hg with hg | hg
  · exact va_tabs hg hvm h
  · exact word_at hW (good_of_word hg) h
/-- a list's words: the good ones out of the method's own list, the others by premises of their own -/
theorem vx_hat {args : Array Value} {s : State} {L B : List Cond} (h1 : ∀ w ∈ L.filter goodWord, w.before args s = true) (h2 : ∀ w ∈ L.filter (fun w => !goodWord w), w ∈ B) (h3 : ∀ w ∈ B, w.before args s = true) : ∀ w ∈ L, w.before args s = true := by
  intro w hw
  by_cases g : goodWord w = true
  · exact h1 w (List.mem_filter.mpr ⟨hw, g⟩)
  · refine h3 w (h2 w (List.mem_filter.mpr ⟨hw, ?_⟩))
    show (!goodWord w) = true
    cases hgw : goodWord w
    · rfl
    · exact absurd hgw g
theorem vx_c {args : Array Value} {s : State} {w : Cond} {B : List Cond} (h : w.before args s = true) (t : ∀ w ∈ B, w.before args s = true) : ∀ w' ∈ w :: B, w'.before args s = true := fun w' h' => (List.mem_cons.mp h').elim (fun e => by rw [e]; exact h) (t w')
theorem vx_n {args : Array Value} {s : State} : ∀ w ∈ ([] : List Cond), w.before args s = true := fun _ h => nomatch h
theorem vx_own {args : Array Value} {s : State} {L : List Cond} (h1 : ∀ w ∈ L.filter vx_no, w.before args s = true)
    (hU : (Cond.isRef (.static Bundle.tN "UNASSIGNED_STACK" Bundle.steD)).before args s = true) (hN : (Cond.isRef (.static Bundle.tN "SUPPRESSED_SENTINEL" Bundle.listD)).before args s = true)
    (lU : (Cond.laysStatic Bundle.tN "UNASSIGNED_STACK" Bundle.steD).before args s = true) (lN : (Cond.laysStatic Bundle.tN "SUPPRESSED_SENTINEL" Bundle.listD).before args s = true) : ∀ w ∈ L, w.before args s = true := by
  intro w hw
  by_cases e1 : w = .isRef (.static Bundle.tN "UNASSIGNED_STACK" Bundle.steD)
  · rw [e1]; exact hU
  · by_cases e2 : w = .isRef (.static Bundle.tN "SUPPRESSED_SENTINEL" Bundle.listD)
    · rw [e2]; exact hN
    · by_cases e3 : w = .laysStatic Bundle.tN "UNASSIGNED_STACK" Bundle.steD
      · rw [e3]; exact lU
      · by_cases e4 : w = .laysStatic Bundle.tN "SUPPRESSED_SENTINEL" Bundle.listD
        · rw [e4]; exact lN
        · exact h1 w (List.mem_filter.mpr ⟨hw, by unfold vx_no; rw [decide_eq_true e1, decide_eq_true e2, decide_eq_true e3, decide_eq_true e4]; rfl⟩)
/-- where a static field lies, its class's statics cell in H -/
def vx_L (C n d : String) (A : Nat → Prop) (U : State) (H : Heap) : Prop := ∃ (c : ClassId) (k : Class) (i : Nat) (f : Field) (a : Nat) (cell : Cell), U.vm.findClass C = some c ∧ U.fieldFound? C n d = some (c, k, i, f) ∧ f.isStatic = true ∧ k.statics = some a ∧ H[a]? = some cell ∧ cell.vm.isStatics = true ∧ cell.cls = c ∧ f.slot < cell.slots.size ∧ k.staticTypes[f.slot]? = some f.type ∧ ¬ A a
theorem vx_L.moved {C n d : String} {A : Nat → Prop} {u U : State} {H : Heap} (hvm : u.vm.Alike U.vm) (h : vx_L C n d A u H) : vx_L C n d A U H := by
  obtain ⟨c, k, i, f, a, cell, h1, h2, h3, h4, h5, h6, h7, h8, h9, h10⟩ := h
  obtain ⟨k', hi', he⟩ := State.fieldFound?_setVm hvm h2
  exact ⟨c, k', i, f, a, cell, by rw [hvm.findClass]; exact h1, hi', h3, by rw [he]; exact h4, h5, h6, h7, h8, by rw [he]; exact h9, h10⟩
theorem vx_L.kept {C n d : String} {A : Nat → Prop} {U : State} {H H1 : Heap} (h : vx_L C n d A U H) (hq : ∀ a : Nat, a < H.size → ¬ A a → H1[a]? = H[a]?) : vx_L C n d A U H1 := by
  obtain ⟨c, k, i, f, a, cell, h1, h2, h3, h4, h5, h6, h7, h8, h9, h10⟩ := h
  exact ⟨c, k, i, f, a, cell, h1, h2, h3, h4, by rw [hq a (Array.getElem?_eq_some_iff.mp h5).1 h10]; exact h5, h6, h7, h8, h9, h10⟩
theorem vx_L.narrow {C n d : String} {A B : Nat → Prop} {U : State} {H : Heap} (h : vx_L C n d A U H) (hAB : ∀ q, B q → A q) : vx_L C n d B U H := by
  obtain ⟨c, k, i, f, a, cell, h1, h2, h3, h4, h5, h6, h7, h8, h9, h10⟩ := h
  exact ⟨c, k, i, f, a, cell, h1, h2, h3, h4, h5, h6, h7, h8, h9, fun z => h10 (hAB _ z)⟩
theorem vx_L.word {C n d : String} {A : Nat → Prop} {s : State} {args : Array Value} (h : vx_L C n d A s s.heap) : (Cond.laysStatic C n d).before args s = true := by
  obtain ⟨c, k, i, f, a, cell, h1, h2, h3, h4, h5, h6, h7, h8, h9, -⟩ := h
  show (Cond.laysStatic C n d).holds args s none s [] = true
  exact Cond.laysStatic_of h1 h2 h3 h4 h5 h6 h7 h8 h9
/-- .. and what it holds: null or some reference -/
def vx_Zq (C n d : String) (A : Nat → Prop) (U : State) (H : Heap) : Prop := va_Zq C n d A U H ∧ vx_L C n d A U H
theorem vx_Zq.moved {C n d : String} {A : Nat → Prop} {u U : State} {H : Heap} (hvm : u.vm.Alike U.vm) (h : vx_Zq C n d A u H) : vx_Zq C n d A U H := ⟨va_Zq.moved hvm h.1, vx_L.moved hvm h.2⟩
theorem vx_Zq.kept {C n d : String} {A : Nat → Prop} {U : State} {H H1 : Heap} (h : vx_Zq C n d A U H) (hq : ∀ a : Nat, a < H.size → ¬ A a → H1[a]? = H[a]?) : vx_Zq C n d A U H1 := ⟨va_Zq.kept h.1 hq, vx_L.kept h.2 hq⟩
theorem vx_Zq.narrow {C n d : String} {A B : Nat → Prop} {U : State} {H : Heap} (h : vx_Zq C n d A U H) (hAB : ∀ q, B q → A q) : vx_Zq C n d B U H := ⟨va_Zq.narrow h.1 hAB, vx_L.narrow h.2 hAB⟩
theorem vx_Zqof {args : Array Value} {s : State} {C n d : String} {A : Nat → Prop} (hl : (Cond.laysStatic C n d).before args s = true) (hini : (Cond.initialized C).before args s = true) (h : (Cond.isRef (.static C n d)).before args s = true) (hA : ∀ a : Nat, a < s.heap.size → ¬ A a) : vx_Zq C n d A s s.heap := by
  refine ⟨va_Zqof hl hini h hA, ?_⟩
  obtain ⟨c, k, i, f, a, cell, h1, h2, h3, h4, h5, h6, h7, h8, h9⟩ := Cond.laysStatic_spec hl
  exact ⟨c, k, i, f, a, cell, h1, h2, h3, h4, h5, h6, h7, h8, h9, hA a (Array.getElem?_eq_some_iff.mp h5).1⟩
theorem vx_isRef {C n d : String} {v : Value} {A : Nat → Prop} {s : State} {args : Array Value} (h : va_Z C n d v A s s.heap) (hv : v.isRef = true) : (Cond.isRef (.static C n d)).before args s = true := by
  obtain ⟨cf, kf, fi, f, a, cell, h1, h2, h3, h4, h5, h6, h7, -⟩ := h
  have he : (Term.static C n d).eval args s none [] s = some v := by
    simp [Term.eval, State.fieldNamed?, h1, h2, h4, h5, h6, h7]
  simp only [Cond.before, Cond.holds, Cond.value, he]
  cases v <;> simp_all [Value.isRef]
theorem vx_isRefq {C n d : String} {A : Nat → Prop} {s : State} {args : Array Value} (h : va_Zq C n d A s s.heap) : (Cond.isRef (.static C n d)).before args s = true := by
  rcases h with h | ⟨t, h⟩
  · exact vx_isRef h rfl
  · exact vx_isRef h rfl
/-- the same frame, seen from here: as if the method were called anew in this heap -/
theorem vx_rebase {T : State} (X : Stand p l e R s m args below meth c T locs cells slots) {R' : Room} (hf : R'.frames ≤ R.frames) (hl : R'.locals ≤ R.locals) (hc : cells + R'.cells ≤ R.cells) (hs : slots + R'.slots ≤ R.slots) :
    Stand p l e R' ((T.setVm s.vm).setFrames (.invoking m args :: below)) m args below meth c T [] 0 0 := by
  have htop : (T.setVm s.vm).topJava?.isSome := X.here.top
  have hF : ((T.setVm s.vm).setFrames (.invoking m args :: below)).frames = .invoking m args :: below := State.frames_setFrames _ (State.cur_lt_of_top htop)
  obtain ⟨g₀, hg0⟩ := Option.isSome_iff_exists.mp htop
  obtain ⟨r, hr⟩ := State.topJava?_eq_some.mp hg0
  have hl9 : e.platform.stackLimits (T.setVm s.vm).me = e.platform.stackLimits s.me := X.limits
  have hb9 : (T.setVm s.vm).me.stackBytes = s.me.stackBytes := X.bytes
  refine ⟨X.admits, X.cas, X.clock, hF, ?_, X.hears, X.method, X.code, X.here, X.tail, X.warmed, ?_, ?_, ?_⟩
  · have h := X.room
    have hU : ((T.setVm s.vm).setFrames (.invoking m args :: below)).localsInUse = s.localsInUse := by
      rw [State.localsInUse_invoking hF (meth := meth) (c := c) X.method X.code, State.localsInUse_invoking X.frames X.method X.code]
    simp only [State.hasRoom, Bool.and_eq_true, decide_eq_true_eq] at h ⊢
    obtain ⟨⟨⟨⟨h1, h2, h3, h4, h5, h6⟩, h7⟩, h8⟩, h9⟩ := h
    rw [X.frames, List.length_cons] at h2 h3
    have q1 := X.heapSize
    have q2 := X.used
    simp only [hF, hU, List.length_cons, State.stackLimits_setFrames, State.stackBytes_setFrames, hl9, hb9]
    refine ⟨⟨⟨⟨by omega, by omega, by omega, by omega, by omega, h6⟩, ?_⟩, ?_⟩, X.book⟩
    · show T.heap.size + R'.cells ≤ e.platform.maxCells
      omega
    · show T.slotsUsed + R'.slots ≤ e.platform.maxSlots
      omega
  · rw [State.stackLimits_setFrames]; rfl
  · rw [State.stackBytes_setFrames]; rfl
  · refine ⟨?_, Nat.le_refl _, Nat.le_refl _, ?_, ?_, fun a c9 h9 => ⟨c9, h9, rfl, rfl, fun _ _ => rfl⟩⟩
    · obtain ⟨t, ht, -⟩ := State.frames_cons hr
      show T.setVm s.vm = { ((T.setVm s.vm).setFrames (.invoking m args :: below)).setFrames (T.setVm s.vm).frames with heap := T.heap, slotsUsed := T.slotsUsed }
      rw [State.setFrames_setFrames, State.setFrames_self ht]
      rfl
    · show T.slotsUsed = T.slotsUsed + ((T.heap.toList.drop T.heap.size).map (·.slots.size)).sum
      rw [List.drop_eq_nil_of_le (Nat.le_of_eq Array.length_toList)]
      rfl
    · show ((T.heap.toList.drop T.heap.size).map (·.slots.size)).sum ≤ 0
      rw [List.drop_eq_nil_of_le (Nat.le_of_eq Array.length_toList)]
      exact Nat.le_refl _
/-- 'throw new E()': new; dup; invokespecial; athrow -/
theorem vx_throw0 {cc : ByteArray} {pc : Nat} (hexec : p.tables.exec = Jvm.exec) (hb : c.code = cc) (hl : l.stackTraces = false) {own cls : String} {names : List String} {ik ic mc ms : Nat} {A : Nat → Prop}
    (hown : s.vm.findClass own = some m.cls) (hcls : Bundle.fit cls = true) (hnames : ∀ n ∈ names, Bundle.fit n = true)
    (hk : (Cond.classLink own ik cls).before args s = true) (hini : (Cond.initialized cls).before args s = true) (hat : ∀ w ∈ vx_at0 own ic cls names, w.before args s = true)
    (hgood : ∀ w ∈ Cond.classLink own ik cls :: Cond.initialized cls :: vx_at0 own ic cls names, vx_ot w = true)
    (hU : vx_Zq Bundle.tN "UNASSIGNED_STACK" Bundle.steD A s s.heap) (hN : vx_Zq Bundle.tN "SUPPRESSED_SENTINEL" Bundle.listD A s s.heap) (hS : va_S A s.heap H locs) (hsize : ls.size = c.maxLocals)
    (d0 : decode cc pc = .ok (.new ik, 3)) (d3 : decode cc (pc + 3) = .ok (.dup, 1)) (d4 : decode cc (pc + 4) = .ok (.invokespecial ic, 3)) (d7 : decode cc (pc + 7) = .ok (.athrow, 1))
    (hout : ∀ x ∈ c.exceptionTable.toList, covers x (pc + 7) = false)
    (hRframes : names.length + 3 < R.frames) (hRlocals : (rest.map fun v => v.category).sum + (13 * (names.length + 1) + 42) ≤ R.locals) (hRcells : cells + 1 ≤ R.cells) (hRslots : slots + 6 ≤ R.slots) (hlocks : meth.locks = false)
    (hx : ∀ t : State, s.vm.Alike t.vm → H.size ≤ t.heap.size → (∀ q : Nat, q < H.size → t.heap[q]? = H[q]?) → XC cls s t)
    (hf : ∀ z ∈ locs, free z.base) (hc : cells + 1 ≤ mc) (hs : slots + 6 ≤ ms) :
    W p l e R s m args below meth c H locs cells slots (vx_MQ below Qc XC args s mc ms free) (F0 m pc ls rest) := by
  intro T hT X
  have htr : e.platform.stackTraces = false := (show e.platform.stackTraces = l.stackTraces by rw [X.admits.platform]).trans hl
  have Y := vx_rebase X (R' := { frames := R.frames, locals := R.locals, cells := 1, slots := 6 }) (Nat.le_refl _) (Nat.le_refl _) hRcells hRslots
  obtain ⟨s', hA⟩ : ∃ z, z = (T.setVm s.vm).setFrames (.invoking m args :: below) := ⟨_, rfl⟩
  rw [← hA] at Y
  have hvm : s'.vm = s.vm := by rw [hA]; rfl
  have hhp : s'.heap = H := by rw [hA]; exact hT
  have hW0 : s.WarmedH s'.vm := by rw [hvm]; exact State.WarmedH.refl s
  have hat' : ∀ w ∈ vx_at0 own ic cls names, w.before args s' = true := fun w hw => vx_ot_at hW0 hvm.symm (hgood w (List.mem_cons_of_mem _ (List.mem_cons_of_mem _ hw))) (hat w hw)
  have hk' : (Cond.classLink own ik cls).before args s' = true := vx_ot_at hW0 hvm.symm (hgood _ List.mem_cons_self) hk
  have hini' : (Cond.initialized cls).before args s' = true := vx_ot_at hW0 hvm.symm (hgood _ (List.mem_cons_of_mem _ List.mem_cons_self)) hini
  have hU' : vx_Zq Bundle.tN "UNASSIGNED_STACK" Bundle.steD A s' s'.heap := by rw [hhp]; exact vx_Zq.moved hW0.alike (hU.kept hS.2.1)
  have hN' : vx_Zq Bundle.tN "SUPPRESSED_SENTINEL" Bundle.listD A s' s'.heap := by rw [hhp]; exact vx_Zq.moved hW0.alike (hN.kept hS.2.1)
  have h : ∀ w ∈ Bundle.ownAtoms0 own ic cls names, w.before args s' = true := vx_own hat' (vx_isRefq hU'.1) (vx_isRefq hN'.1) hU'.2.word hN'.2.word
  have hown' : s'.vm.findClass own = some m.cls := by rw [hvm]; exact hown
  have hins : (Cond.instantiable cls 6).before args s' = true := h _ (by simp [Bundle.ownAtoms0])
  obtain ⟨vm₁, cX, kX, hfX, hkX, -, -, X₁, st1⟩ := Y.newCold hexec (own := own) (C := cls) (index := ik) (n := 6) hown' hk' hins hini'
    (g := F0 m pc ls rest) rfl (by rw [hb]; exact d0) (Nat.le_refl _) (Nat.le_refl _)
  generalize hT1 : (T.setVm vm₁).pushCell { cls := cX, slots := kX.instanceTypes.map defaultValue, vm := .none } = T1 at X₁ st1
  have hcat : (Value.ref T.heap.size).category = 1 := rfl
  have hcellA : T1.heap[T.heap.size]? = some (freshCell cX kX) := by rw [← hT1]; exact State.heap_pushCell_size _ _
  have d3' : decode c.code (pc + 3) = .ok (.dup, 1) := by rw [hb]; exact d3
  obtain ⟨U, hsteps, hrun, hend, hW, hsame, ce, hce, hO⟩ := X₁.ctorThrow0 hexec htr (own := own) (cls := cls) (names := names) (ic := ic) hown' hcls hnames h (fun x hx => nomatch hx) hfX hkX hcellA (by rw [hhp, hT]; exact Nat.le_refl _)
    (g := { method := m, pc := pc + 4, locals := ls, stack := .ref T.heap.size :: .ref T.heap.size :: rest, locked := none }) rfl hsize rfl rfl (rest := rest) rfl
    (by rw [hb]; exact d4) (by rw [hb]; exact d7) hout hRframes (by simp only [List.map_cons, List.sum_cons, hcat]; omega) hlocks
  obtain ⟨f1, f2⟩ := vx_frame hsame
  rw [hhp] at f1 f2
  have hWs : s.WarmedH U.vm := State.WarmedH.trans hW0 hW
  have hcl : s.vm.findClass cls = some ce.cls := by
    have h9 := hO.cls
    rw [hvm] at h9
    exact h9
  have hall : s.sameButNew ({ U with vm := s.vm } : State) locs mc ms := by
    subst hA
    obtain ⟨e1, e2⟩ := hsame
    rw [State.setFrames_setFrames] at e1
    have h2 : (T.setVm s.vm).sameButNew ({ U with vm := s.vm } : State) [] (0 + 1) (0 + 6) := ⟨e1, e2⟩
    have h3 := X.same.trans h2
    rw [List.append_nil] at h3
    exact h3.mono hc hs
  refine ⟨U, ?_, .threw T.heap.size, hrun, hend, Or.inr ⟨T.heap.size, rfl, cls, ce, locs, hx U hWs.alike f1 (fun q hq => f2 q hq (fun z hz => nomatch hz)), hce, hO.vm, hcl, hWs, hall, hf⟩⟩
  refine st1 _ ?_
  show Steps p.tables e below (T1.setTop { method := m, pc := pc + 3, locals := ls, stack := .ref T.heap.size :: rest, locked := none }) _
  jvm_step X₁.here [X₁.here.top, hexec, d3', Value.category]
  exact hsteps
/-- 'throw new E("text")': new; dup; ldc; invokespecial; athrow -/
theorem vx_throwS {cc : ByteArray} {pc : Nat} (hexec : p.tables.exec = Jvm.exec) (hb : c.code = cc) (hl : l.stackTraces = false) {own cls text : String} {names : List String} {ik is ic mc ms sa : Nat} {A : Nat → Prop}
    (hown : s.vm.findClass own = some m.cls) (hcls : Bundle.fit cls = true) (hnames : ∀ n ∈ names, Bundle.fit n = true)
    (hk : (Cond.classLink own ik cls).before args s = true) (hini : (Cond.initialized cls).before args s = true) (hstr : vk_R own is text sa s) (hat : ∀ w ∈ vx_atS own ic cls names, w.before args s = true)
    (hgood : ∀ w ∈ Cond.classLink own ik cls :: Cond.initialized cls :: vx_atS own ic cls names, vx_ot w = true)
    (hU : vx_Zq Bundle.tN "UNASSIGNED_STACK" Bundle.steD A s s.heap) (hN : vx_Zq Bundle.tN "SUPPRESSED_SENTINEL" Bundle.listD A s s.heap) (hS : va_S A s.heap H locs) (hsize : ls.size = c.maxLocals)
    (d0 : decode cc pc = .ok (.new ik, 3)) (d3 : decode cc (pc + 3) = .ok (.dup, 1)) (d4 : decode cc (pc + 4) = .ok (.ldc is, 2)) (d6 : decode cc (pc + 6) = .ok (.invokespecial ic, 3)) (d9 : decode cc (pc + 9) = .ok (.athrow, 1))
    (hout : ∀ x ∈ c.exceptionTable.toList, covers x (pc + 9) = false)
    (hRframes : names.length + 3 < R.frames) (hRlocals : (rest.map fun v => v.category).sum + (13 * (names.length + 1) + 43) ≤ R.locals) (hRcells : cells + 1 ≤ R.cells) (hRslots : slots + 6 ≤ R.slots) (hlocks : meth.locks = false)
    (hx : ∀ t : State, s.vm.Alike t.vm → H.size ≤ t.heap.size → (∀ q : Nat, q < H.size → t.heap[q]? = H[q]?) → XC cls s t)
    (hf : ∀ z ∈ locs, free z.base) (hc : cells + 1 ≤ mc) (hs : slots + 6 ≤ ms) :
    W p l e R s m args below meth c H locs cells slots (vx_MQ below Qc XC args s mc ms free) (F0 m pc ls rest) := by
  intro T hT X
  have htr : e.platform.stackTraces = false := (show e.platform.stackTraces = l.stackTraces by rw [X.admits.platform]).trans hl
  have Y := vx_rebase X (R' := { frames := R.frames, locals := R.locals, cells := 1, slots := 6 }) (Nat.le_refl _) (Nat.le_refl _) hRcells hRslots
  obtain ⟨s', hA⟩ : ∃ z, z = (T.setVm s.vm).setFrames (.invoking m args :: below) := ⟨_, rfl⟩
  rw [← hA] at Y
  have hvm : s'.vm = s.vm := by rw [hA]; rfl
  have hhp : s'.heap = H := by rw [hA]; exact hT
  have hW0 : s.WarmedH s'.vm := by rw [hvm]; exact State.WarmedH.refl s
  have hat' : ∀ w ∈ vx_atS own ic cls names, w.before args s' = true := fun w hw => vx_ot_at hW0 hvm.symm (hgood w (List.mem_cons_of_mem _ (List.mem_cons_of_mem _ hw))) (hat w hw)
  have hk' : (Cond.classLink own ik cls).before args s' = true := vx_ot_at hW0 hvm.symm (hgood _ List.mem_cons_self) hk
  have hini' : (Cond.initialized cls).before args s' = true := vx_ot_at hW0 hvm.symm (hgood _ (List.mem_cons_of_mem _ List.mem_cons_self)) hini
  have hU' : vx_Zq Bundle.tN "UNASSIGNED_STACK" Bundle.steD A s' s'.heap := by rw [hhp]; exact vx_Zq.moved hW0.alike (hU.kept hS.2.1)
  have hN' : vx_Zq Bundle.tN "SUPPRESSED_SENTINEL" Bundle.listD A s' s'.heap := by rw [hhp]; exact vx_Zq.moved hW0.alike (hN.kept hS.2.1)
  have h : ∀ w ∈ Bundle.ownAtoms own ic cls names, w.before args s' = true := vx_own hat' (vx_isRefq hU'.1) (vx_isRefq hN'.1) hU'.2.word hN'.2.word
  have hown' : s'.vm.findClass own = some m.cls := by rw [hvm]; exact hown
  have hins : (Cond.instantiable cls 6).before args s' = true := h _ (by simp [Bundle.ownAtoms])
  obtain ⟨vm₁, cX, kX, hfX, hkX, -, -, X₁, st1⟩ := Y.newCold hexec (own := own) (C := cls) (index := ik) (n := 6) hown' hk' hins hini'
    (g := F0 m pc ls rest) rfl (by rw [hb]; exact d0) (Nat.le_refl _) (Nat.le_refl _)
  generalize hT1 : (T.setVm vm₁).pushCell { cls := cX, slots := kX.instanceTypes.map defaultValue, vm := .none } = T1 at X₁ st1
  have hcat : (Value.ref T.heap.size).category = 1 := rfl
  have hcellA : T1.heap[T.heap.size]? = some (freshCell cX kX) := by rw [← hT1]; exact State.heap_pushCell_size _ _
  have d3' : decode c.code (pc + 3) = .ok (.dup, 1) := by rw [hb]; exact d3
  have d4' : decode c.code (pc + 4) = .ok (.ldc is, 2) := by rw [hb]; exact d4
  have hstr' : vk_R own is text sa s' := vk_R.warm hW0 hstr
  obtain ⟨U, hsteps, hrun, hend, hW, hsame, ce, hce, hO⟩ := X₁.ctorThrowS hexec htr (own := own) (cls := cls) (names := names) (ic := ic) hown' hcls hnames h (fun x hx => nomatch hx) hfX hkX hcellA (by rw [hhp, hT]; exact Nat.le_refl _) (msg := .ref sa) rfl
    (g := { method := m, pc := pc + 6, locals := ls, stack := .ref sa :: .ref T.heap.size :: .ref T.heap.size :: rest, locked := none }) rfl hsize rfl rfl (rest := rest) rfl
    (by rw [hb]; exact d6) (by rw [hb]; exact d9) hout hRframes (by simp only [List.map_cons, List.sum_cons, hcat]; omega) hlocks
  obtain ⟨f1, f2⟩ := vx_frame hsame
  rw [hhp] at f1 f2
  have hWs : s.WarmedH U.vm := State.WarmedH.trans hW0 hW
  have hcl : s.vm.findClass cls = some ce.cls := by
    have h9 := hO.cls
    rw [hvm] at h9
    exact h9
  have hall : s.sameButNew ({ U with vm := s.vm } : State) locs mc ms := by
    subst hA
    obtain ⟨e1, e2⟩ := hsame
    rw [State.setFrames_setFrames] at e1
    have h2 : (T.setVm s.vm).sameButNew ({ U with vm := s.vm } : State) [] (0 + 1) (0 + 6) := ⟨e1, e2⟩
    have h3 := X.same.trans h2
    rw [List.append_nil] at h3
    exact h3.mono hc hs
  refine ⟨U, ?_, .threw T.heap.size, hrun, hend, Or.inr ⟨T.heap.size, rfl, cls, ce, locs, hx U hWs.alike f1 (fun q hq => f2 q hq (fun z hz => nomatch hz)), hce, hO.vm, hcl, hWs, hall, hf⟩⟩
  refine st1 _ ?_
  show Steps p.tables e below (T1.setTop { method := m, pc := pc + 3, locals := ls, stack := .ref T.heap.size :: rest, locked := none }) _
  jvm_step X₁.here [X₁.here.top, hexec, d3', Value.category]
  exact X₁.ldcString hexec (own := own) (text := text) (index := is) (a := sa) hown' hstr'.1 hstr'.2
    (g := { method := m, pc := pc + 4, locals := ls, stack := .ref T.heap.size :: .ref T.heap.size :: rest, locked := none }) rfl d4' _ hsteps
/-- 'throw new E("text")', the text by a wide index -/
theorem vx_throwSW {cc : ByteArray} {pc : Nat} (hexec : p.tables.exec = Jvm.exec) (hb : c.code = cc) (hl : l.stackTraces = false) {own cls text : String} {names : List String} {ik is ic mc ms sa : Nat} {A : Nat → Prop}
    (hown : s.vm.findClass own = some m.cls) (hcls : Bundle.fit cls = true) (hnames : ∀ n ∈ names, Bundle.fit n = true)
    (hk : (Cond.classLink own ik cls).before args s = true) (hini : (Cond.initialized cls).before args s = true) (hstr : vk_R own is text sa s) (hat : ∀ w ∈ vx_atS own ic cls names, w.before args s = true)
    (hgood : ∀ w ∈ Cond.classLink own ik cls :: Cond.initialized cls :: vx_atS own ic cls names, vx_ot w = true)
    (hU : vx_Zq Bundle.tN "UNASSIGNED_STACK" Bundle.steD A s s.heap) (hN : vx_Zq Bundle.tN "SUPPRESSED_SENTINEL" Bundle.listD A s s.heap) (hS : va_S A s.heap H locs) (hsize : ls.size = c.maxLocals)
    (d0 : decode cc pc = .ok (.new ik, 3)) (d3 : decode cc (pc + 3) = .ok (.dup, 1)) (d4 : decode cc (pc + 4) = .ok (.ldc_w is, 3)) (d7 : decode cc (pc + 7) = .ok (.invokespecial ic, 3)) (d10 : decode cc (pc + 10) = .ok (.athrow, 1))
    (hout : ∀ x ∈ c.exceptionTable.toList, covers x (pc + 10) = false)
    (hRframes : names.length + 3 < R.frames) (hRlocals : (rest.map fun v => v.category).sum + (13 * (names.length + 1) + 43) ≤ R.locals) (hRcells : cells + 1 ≤ R.cells) (hRslots : slots + 6 ≤ R.slots) (hlocks : meth.locks = false)
    (hx : ∀ t : State, s.vm.Alike t.vm → H.size ≤ t.heap.size → (∀ q : Nat, q < H.size → t.heap[q]? = H[q]?) → XC cls s t)
    (hf : ∀ z ∈ locs, free z.base) (hc : cells + 1 ≤ mc) (hs : slots + 6 ≤ ms) :
    W p l e R s m args below meth c H locs cells slots (vx_MQ below Qc XC args s mc ms free) (F0 m pc ls rest) := by
  intro T hT X
  have htr : e.platform.stackTraces = false := (show e.platform.stackTraces = l.stackTraces by rw [X.admits.platform]).trans hl
  have Y := vx_rebase X (R' := { frames := R.frames, locals := R.locals, cells := 1, slots := 6 }) (Nat.le_refl _) (Nat.le_refl _) hRcells hRslots
  obtain ⟨s', hA⟩ : ∃ z, z = (T.setVm s.vm).setFrames (.invoking m args :: below) := ⟨_, rfl⟩
  rw [← hA] at Y
  have hvm : s'.vm = s.vm := by rw [hA]; rfl
  have hhp : s'.heap = H := by rw [hA]; exact hT
  have hW0 : s.WarmedH s'.vm := by rw [hvm]; exact State.WarmedH.refl s
  have hat' : ∀ w ∈ vx_atS own ic cls names, w.before args s' = true := fun w hw => vx_ot_at hW0 hvm.symm (hgood w (List.mem_cons_of_mem _ (List.mem_cons_of_mem _ hw))) (hat w hw)
  have hk' : (Cond.classLink own ik cls).before args s' = true := vx_ot_at hW0 hvm.symm (hgood _ List.mem_cons_self) hk
  have hini' : (Cond.initialized cls).before args s' = true := vx_ot_at hW0 hvm.symm (hgood _ (List.mem_cons_of_mem _ List.mem_cons_self)) hini
  have hU' : vx_Zq Bundle.tN "UNASSIGNED_STACK" Bundle.steD A s' s'.heap := by rw [hhp]; exact vx_Zq.moved hW0.alike (hU.kept hS.2.1)
  have hN' : vx_Zq Bundle.tN "SUPPRESSED_SENTINEL" Bundle.listD A s' s'.heap := by rw [hhp]; exact vx_Zq.moved hW0.alike (hN.kept hS.2.1)
  have h : ∀ w ∈ Bundle.ownAtoms own ic cls names, w.before args s' = true := vx_own hat' (vx_isRefq hU'.1) (vx_isRefq hN'.1) hU'.2.word hN'.2.word
  have hown' : s'.vm.findClass own = some m.cls := by rw [hvm]; exact hown
  have hins : (Cond.instantiable cls 6).before args s' = true := h _ (by simp [Bundle.ownAtoms])
  obtain ⟨vm₁, cX, kX, hfX, hkX, -, -, X₁, st1⟩ := Y.newCold hexec (own := own) (C := cls) (index := ik) (n := 6) hown' hk' hins hini'
    (g := F0 m pc ls rest) rfl (by rw [hb]; exact d0) (Nat.le_refl _) (Nat.le_refl _)
  generalize hT1 : (T.setVm vm₁).pushCell { cls := cX, slots := kX.instanceTypes.map defaultValue, vm := .none } = T1 at X₁ st1
  have hcat : (Value.ref T.heap.size).category = 1 := rfl
  have hcellA : T1.heap[T.heap.size]? = some (freshCell cX kX) := by rw [← hT1]; exact State.heap_pushCell_size _ _
  have d3' : decode c.code (pc + 3) = .ok (.dup, 1) := by rw [hb]; exact d3
  have d4' : decode c.code (pc + 4) = .ok (.ldc_w is, 3) := by rw [hb]; exact d4
  have hstr' : vk_R own is text sa s' := vk_R.warm hW0 hstr
  obtain ⟨U, hsteps, hrun, hend, hW, hsame, ce, hce, hO⟩ := X₁.ctorThrowS hexec htr (own := own) (cls := cls) (names := names) (ic := ic) hown' hcls hnames h (fun x hx => nomatch hx) hfX hkX hcellA (by rw [hhp, hT]; exact Nat.le_refl _) (msg := .ref sa) rfl
    (g := { method := m, pc := pc + 7, locals := ls, stack := .ref sa :: .ref T.heap.size :: .ref T.heap.size :: rest, locked := none }) rfl hsize rfl rfl (rest := rest) rfl
    (by rw [hb]; exact d7) (by rw [hb]; exact d10) hout hRframes (by simp only [List.map_cons, List.sum_cons, hcat]; omega) hlocks
  obtain ⟨f1, f2⟩ := vx_frame hsame
  rw [hhp] at f1 f2
  have hWs : s.WarmedH U.vm := State.WarmedH.trans hW0 hW
  have hcl : s.vm.findClass cls = some ce.cls := by
    have h9 := hO.cls
    rw [hvm] at h9
    exact h9
  have hall : s.sameButNew ({ U with vm := s.vm } : State) locs mc ms := by
    subst hA
    obtain ⟨e1, e2⟩ := hsame
    rw [State.setFrames_setFrames] at e1
    have h2 : (T.setVm s.vm).sameButNew ({ U with vm := s.vm } : State) [] (0 + 1) (0 + 6) := ⟨e1, e2⟩
    have h3 := X.same.trans h2
    rw [List.append_nil] at h3
    exact h3.mono hc hs
  refine ⟨U, ?_, .threw T.heap.size, hrun, hend, Or.inr ⟨T.heap.size, rfl, cls, ce, locs, hx U hWs.alike f1 (fun q hq => f2 q hq (fun z hz => nomatch hz)), hce, hO.vm, hcl, hWs, hall, hf⟩⟩
  refine st1 _ ?_
  show Steps p.tables e below (T1.setTop { method := m, pc := pc + 3, locals := ls, stack := .ref T.heap.size :: rest, locked := none }) _
  jvm_step X₁.here [X₁.here.top, hexec, d3', Value.category]
  exact X₁.ldcStringW hexec (own := own) (text := text) (index := is) (a := sa) hown' hstr'.1 hstr'.2
    (g := { method := m, pc := pc + 4, locals := ls, stack := .ref T.heap.size :: .ref T.heap.size :: rest, locked := none }) rfl d4' _ hsteps
end Ends
section Bodies
variable {l : Launch}
theorem vx_ofW {y : MethodName} {ws ws' : List Cond} {rm : Room} {Pc : Array Value → State → Prop} {Qc : Array Value → State → Outcome → State → Prop} {XC : String → State → State → Prop} {mc ms : Nat} {free : Addr → Prop} {cc : ByteArray} {maxL : Nat} {ret : Option FieldType}
    (hy : plainName y.cls = true) (hw : ws = Cond.code y cc maxL ret :: ws')
    (body : ∀ p e s m args below meth c s₁, BodyLoose p l y (headSpec ws rm) cc maxL ret e s m args below meth c s₁ → c.maxLocals = maxL → (∀ x ∈ c.exceptionTable.toList, False) → Pc args s →
      W p l e (headSpec ws rm).room s m args below meth c s.heap [] 0 0 (vx_MQ below Qc XC args s mc ms free) (entryFrame m args maxL)) : vx_Met l y ws rm Pc Qc XC mc ms free := by
  refine MetFree.of_bodyS (code := cc) (maxLocals := maxL) (ret := ret) hy ?_ ?_
  · intro args s m h hn
    obtain ⟨meth, c, h1, h2, h3, h4, h5, h6, -, -⟩ := Cond.code_spec hn (atoms_spec (ws := ws) h _ (by rw [hw]; exact List.mem_cons_self))
    exact ⟨meth, c, h1, h2, h3, h4, h5, h6⟩
  · intro p e s m args below meth c s₁ B hml hP _
    have hh0 : s₁.heap = s.heap := by rw [B.state]; rfl
    have ht : ∀ x ∈ c.exceptionTable.toList, False := by
      obtain ⟨meth9, c9, h1, h2, -, -, -, -, h7, -⟩ := Cond.code_spec B.named (atoms_spec (ws := ws) B.pre _ (by rw [hw]; exact List.mem_cons_self))
      cases Option.some.inj (h1.symm.trans B.method)
      cases Option.some.inj (h2.symm.trans (Stand.of_body B).code)
      intro x hx
      rw [Array.isEmpty_iff.mp h7] at hx
      cases hx
    obtain ⟨t, a1, o, b1, b2, b3⟩ := body p e s m args below meth c s₁ B hml ht hP s₁ hh0 (Stand.of_body B)
    exact ⟨t, o, a1, b1, b2, b3⟩
/-- the table of a body with handlers -/
theorem vx_table {p : Program} {x y : MethodName} {S : Spec} {cc bytes : ByteArray} {maxL maxL' : Nat} {ret ret' : Option FieldType} {e : Env} {s s₁ : State} {m : MethodId} {args : Array Value} {below : List Frame} {meth : Method} {c : Code} {hh : List (Nat × Nat × Nat × Nat)}
    (B : BodyLoose p l y S cc maxL ret e s m args below meth c s₁) (h : (Cond.codeWith y bytes maxL' ret' hh).before args s = true) : c.exceptionTable.toList = tableOf hh := by
  obtain ⟨m9, meth9, c9, hn9, h1, h2, -, -, h6, -⟩ := Cond.codeWith_spec h
  cases Option.some.inj (hn9.symm.trans B.named)
  cases Option.some.inj (h1.symm.trans B.method)
  cases Option.some.inj (h2.symm.trans (Stand.of_body B).code)
  rw [← h6, table_eq]
end Bodies
end VXA
/-! ===== END ===== -/
/-! ===== BEGIN a static call of a method with an exception table ===== -/
section VXS
variable {p : Program} {l : Launch} {e : Env} {R : Room} {s : State} {m : MethodId} {args : Array Value} {below : List Frame} {meth : Method} {c : Code} {T : State} {H : Heap} {locs : List Loc} {cells slots : Nat}
abbrev vx_CSW (R : Room) (s : State) (args : Array Value) (own : String) (index : Nat) (y : MethodName) (bytes : ByteArray) (maxL : Nat) (ret : Option FieldType) (hh : List (Nat × Nat × Nat × Nat)) (ws : List Cond) (rm : Room) (mc ms n : Nat) : Prop :=
  (rm.cells = mc ∧ rm.slots = ms ∧ rm.frames + 1 ≤ R.frames ∧ 8 + (maxL + 11) + rm.locals ≤ R.locals ∧ (∀ w ∈ ws, ∀ (a' : Array Value) (U : State), s.WarmedH U.vm → w.before a' U = true) ∧ Cond.codeWith y bytes maxL ret hh ∈ ws) ∧
  (Cond.codeWith y bytes maxL ret hh).before args s = true ∧ (Cond.initialized y.cls).before args s = true ∧ (y.cls ≠ "java/lang/invoke/MethodHandle" ∧ y.cls ≠ "java/lang/invoke/VarHandle") ∧
  (∀ sig, parseMethodDescriptor y.desc = some sig → n = sig.parameters.length) ∧ (Cond.methodLink own index y).before args s = true ∧ (Cond.static y).before args s = true
theorem vx_cwSW {own : String} {index maxL mc ms : Nat} {y : MethodName} {bytes : ByteArray} {ret : Option FieldType} {hh : List (Nat × Nat × Nat × Nat)} {Ts ws ws' : List Cond} {rm : Room} (n : Nat) (ht : ∀ w ∈ Ts, w.before args s = true) (hT : GoodIn Ts (va_wsS own index y ws)) (hw : ws = Cond.codeWith y bytes maxL ret hh :: ws') (hrc : rm.cells = mc) (hrs : rm.slots = ms)
    (hd : y.cls ≠ "java/lang/invoke/MethodHandle" ∧ y.cls ≠ "java/lang/invoke/VarHandle" ∧ (parseMethodDescriptor y.desc).map (fun d => d.parameters.length) = some n) (hR : rm.frames + 1 ≤ R.frames ∧ 8 + (maxL + 11) + rm.locals ≤ R.locals) :
    vx_CSW R s args own index y bytes maxL ret hh ws rm mc ms n := by
  have ok : ∀ w ∈ va_wsS own index y ws, w.before args s = true := fun w h => ht w (hT w h).1
  have hG : GoodIn Ts ws := fun w h => hT w (by unfold va_wsS; exact List.mem_append_right _ h)
  have hc : Cond.codeWith y bytes maxL ret hh ∈ ws := by rw [hw]; exact List.mem_cons_self
  refine ⟨⟨hrc, hrs, hR.1, hR.2, pay_in ht hG, hc⟩, ht _ (hG _ hc).1, ok _ (by simp [va_wsS]), ⟨hd.1, hd.2.1⟩, fun sig h => ?_, ok _ (by simp [va_wsS]), ok _ (by simp [va_wsS])⟩
  have h2 := hd.2.2
  rw [h] at h2
  exact (Option.some.inj h2).symm
theorem vx_callSW (X : Stand p l e R s m args below meth c T locs cells slots) (hexec : p.tables.exec = Jvm.exec) {own : String} {index : Nat} {y : MethodName} {bytes : ByteArray} {maxL : Nat} {ret : Option FieldType} {hh : List (Nat × Nat × Nat × Nat)}
    (hown : s.vm.findClass own = some m.cls) (hlink : (Cond.methodLink own index y).before args s = true) (hstat : (Cond.static y).before args s = true) (hinit : (Cond.initialized y.cls).before args s = true)
    (hcode : (Cond.codeWith y bytes maxL ret hh).before args s = true) (hy : y.cls ≠ "java/lang/invoke/MethodHandle" ∧ y.cls ≠ "java/lang/invoke/VarHandle")
    {W9 : Nat} {Pre : Pt → Array Value → Prop} {Post : Pt → Array Value → Option Value → Pt → Prop} (hK : Back l R p e below s args y 3 W9 Pre Post)
    {g : JFrame} (hg : g.method = m) (hsize : g.locals.size = c.maxLocals) {argsL rest : List Value} (hlen : ∀ sig, parseMethodDescriptor y.desc = some sig → argsL.length = sig.parameters.length)
    (hstack : g.stack = argsL.reverse ++ rest) (hW : 2 * g.monitorRoom + (rest.map fun v => v.category).sum ≤ W9) (hdg : decode c.code g.pc = .ok (.invokestatic index, 3))
    (hpre : ∀ vm₁, s.WarmedH vm₁ → Pre ⟨T.setVm vm₁, locs, cells, slots⟩ argsL.toArray) :
    ∃ (v : Option Value) (vm₁ : Vm) (B : Pt), s.WarmedH vm₁ ∧ Stand p l e R s m args below meth c B.U B.locs B.cells B.slots ∧ Post ⟨T.setVm vm₁, locs, cells, slots⟩ argsL.toArray v B ∧
      ∀ target, Steps p.tables e below (B.U.setTop { g with pc := g.pc + 3, stack := v.toList ++ rest }) target → Steps p.tables e below (T.setTop g) target := by
  obtain ⟨mk, methM, cM, hnamed, hmethM, -, -, -, -, -, -, hsigM⟩ := Cond.codeWith_spec hcode
  have hstatic : methM.isStatic = true := Cond.static_spec hnamed hmethM hstat
  obtain ⟨kP, hkP, -⟩ := className_of_methodNamed hnamed
  have hinitP : kP.init = .initialized := Cond.initialized_spec (findClass_of_methodNamed hnamed) hkP hinit
  obtain ⟨vm₁, X₁, hstep₁⟩ := X.invokestatic hexec hown hlink hnamed hmethM hstatic hkP hinitP hy (g := g) hg (argsL := argsL) (rest := rest) (hlen _ hsigM) hstack hdg
  obtain ⟨v, B, X', hpost, hsteps⟩ := hK m meth c ⟨T.setVm vm₁, locs, cells, slots⟩ { g with stack := rest } (.invokestatic index) mk argsL.toArray X₁ hg hsize hdg hW (X₁.named hnamed) (hpre vm₁ X₁.warmed)
  exact ⟨v, vm₁, B, X₁.warmed, X', hpost, fun target h => hstep₁ _ fun acts => by rw [doInvoke_state]; exact hsteps.trans h⟩
theorem vx_runSW {y : MethodName} {bytes cc : ByteArray} {maxL nL mc ms n index : Nat} {ret : Option FieldType} {hh : List (Nat × Nat × Nat × Nat)} {ws : List Cond} {rm : Room} {Pc : Array Value → State → Prop} {Qc : Array Value → State → Outcome → State → Prop} {free : Addr → Prop} {Ts : List Cond} {own : String} {As rest : List Value} {g : JFrame}
    (S : CallFix p m c cc nL s args Ts own) (hM : Met l y ws rm Pc Qc mc ms free) (cw : vx_CSW R s args own index y bytes maxL ret hh ws rm mc ms n) (hp : PreS s H Pc As)
    (hg : g.method = m) (hn : As.length = n) (hsize : g.locals.size = nL) (hstack : g.stack = As.reverse ++ rest) (hW : 2 * g.monitorRoom + (rest.map fun v => v.category).sum ≤ 8) (hdg : decode cc g.pc = .ok (.invokestatic index, 3)) (hf : cells + mc ≤ R.cells ∧ slots + ms ≤ R.slots) :
    va_Run p l e R s m args below meth c H locs cells slots mc ms g rest (Qc As.toArray) (free) := by
  obtain ⟨⟨hrc, hrs, hfr, hlo, hws, hcw⟩, hcode, hini, hy, hlen, hl, hstt⟩ := cw
  have hK : Back l R p e below s args y 3 8 (PreOf R mc ms Pc) (PostOf Qc mc ms free) := va_backW (hh := hh) (bytes := bytes) (maxL := maxL) (ret := ret) hM hp.1 hrc hrs hfr hlo hws hcw (fun a' U hW => word_at hW (Or.inl (by first | rfl | simp [Cond.onTables, Cond.keeps, Cond.steady])) hini)
  obtain ⟨hx, hb, hml, ho, -⟩ := S
  intro T hT X
  obtain ⟨v, vm₁, ⟨U', l2, c2, s2⟩, hW₁, X', ⟨g', mk, t, L, e1, e2, hq, h1, hL, h2, h3⟩, st⟩ := vx_callSW X hx (hh := hh) (bytes := bytes) (maxL := maxL) (ret := ret) ho hl hstt hini hcode hy hK hg (hsize.trans hml.symm) (argsL := As) (rest := rest) (fun sig h => hn.trans (hlen sig h)) hstack hW (by rw [hb]; exact hdg)
    (fun vm₁ hW₁ => ⟨hf.1, hf.2, hp.2 (T.setVm vm₁) hT hW₁⟩)
  dsimp only [Pt.U, Pt.locs, Pt.cells, Pt.slots] at X' e1 e2 h1 h2 h3 st
  subst h1; subst h2; subst h3
  exact ⟨v, (T.setVm vm₁).calling g' mk As.toArray, t, U', L, hT, X', hL, e1, e2, hq, st⟩
/-- not caught here, past rows that name other classes: it goes on to the caller -/
theorem vx_outP {p : Program} {l : Launch} {e : Env} {R : Room} {s : State} {m : MethodId} {args : Array Value} {below : List Frame} {meth : Method} {c : Code} {H : Heap} {locs : List Loc} {cells slots : Nat} {free : Addr → Prop} {ls : Array Slot} {rest : List Value} {Qc : Array Value → State → Outcome → State → Prop} {XC : String → State → State → Prop}
    {pc : Nat} {own E : String} {ce : Cell} {q : Addr} {mc ms : Nat} (hown : s.vm.findClass own = some m.cls) (hlocks : meth.locks = false)
    (hpass : ∀ z ∈ c.exceptionTable.toList, covers z pc = false ∨ (z.catchType ≠ 0 ∧ ∃ nm : String, (Cond.classLink own z.catchType nm).before args s = true ∧ va_Nc E nm s)) (hcell : H[q]? = some ce) (hv : ce.vm = .none) (hcl : s.vm.findClass E = some ce.cls)
    (hx : ∀ t : State, t.heap = H → s.vm.Alike t.vm → XC E s t) (hf : ∀ z ∈ locs, free z.base) (hc : cells ≤ mc) (hs : slots ≤ ms) :
    vx_W p l e R s m args below meth c H locs cells slots (vx_MQ below Qc XC args s mc ms free) (F0 m pc ls rest) q := by
  intro T hT X
  have hpl : e.platform.magicAccessors = ({} : Platform).magicAccessors := by rw [X.admits.platform]
  obtain ⟨vm', hW', X', st⟩ := X.outThrough hlocks q (g := F0 m pc ls rest) rfl rfl rfl (cell := ce) (by rw [hT]; exact hcell) (by rw [hv]; rfl)
    (by obtain ⟨k9, h9, -⟩ := Vm.findClass_spec hcl; exact ⟨k9, h9⟩) (fun z hz => by
      rcases hpass z hz with h | ⟨hz0, nm, hl1, hn1⟩
      · exact Or.inl h
      · obtain ⟨c6, hc6, hcl6⟩ := Cond.classLink_spec hown hl1 e.platform hpl
        obtain ⟨a8, b8, h1, h2, h3⟩ := hn1
        cases Option.some.inj (h1.symm.trans hcl)
        cases Option.some.inj (h2.symm.trans hc6)
        exact Or.inr ⟨hz0, _, hcl6, h3⟩)
  obtain ⟨g₀, hfr⟩ := X'.frames_eq
  have hcell9 : ((T.setVm vm').setFrames (.throwing q :: below)).heap[q]? = some ce := by
    show T.heap[q]? = some ce
    rw [hT]; exact hcell
  have hend : Ended ((T.setVm vm').setFrames (.throwing q :: below)) below (.threw q) := State.frames_setFrames _ (State.cur_lt_of_frames hfr)
  refine ⟨(T.setVm vm').setFrames (.throwing q :: below), ?_, .threw q, X'.here.running, hend, Or.inr ⟨q, rfl, E, ce, locs, hx _ hT (X'.ends _).1.alike, hcell9, hv, hcl, (X'.ends _).1, (X'.ends _).2.mono hc hs, hf⟩⟩
  rw [X.pushThrowing_eq]
  exact st
/-- a thing of a world lies in the heap -/
theorem vx_lt {D : va_G} {cl : List vw_C} {ws : va_W} {H1 : Heap} (h : va_P D cl ws H1) {k : Nat} {q : Nat × va_E} (hk : ws[k]? = some q) : q.1 < H1.size := (h k q hk).lt
end VXS
/-! ===== END ===== -/
/-! ===== BEGIN methods with a table of their own: called by a name, returning or throwing ===== -/
section VXH
/-! vx_backW, vx_callVX, vx_callSX, vx_callVW, vx_runVW, vx_runVX, vx_runSX, vx_ofWH follow the same proofs as their sisters above (Free/Laws.lean, Shelf42/LK1.lean); vx_outP calls Shelf42/NT130.lean (outThrough). -/
section
variable {l : Launch} {R : Room} {p : Program} {e : Env} {below : List Frame} {s : State} {sargs : Array Value} {y : MethodName} {len W9 : Nat}
theorem vx_backW {ws : List Cond} {rm : Room} {Pc : Array Value → State → Prop} {Qc : Array Value → State → Outcome → State → Prop} {XC : String → State → State → Prop} {mc ms : Nat} {free : Addr → Prop} {bytes : ByteArray} {maxL : Nat} {ret : Option FieldType} {hh : List (Nat × Nat × Nat × Nat)}
    (hM : vx_Met l y ws rm Pc Qc XC mc ms free) (hblind : FrameBlind Pc) (hrc : rm.cells = mc) (hrs : rm.slots = ms)
    (hframes : rm.frames + 1 ≤ R.frames) (hlocals : W9 + (maxL + 11) + rm.locals ≤ R.locals)
    (hws : ∀ w ∈ ws, ∀ a' U, s.WarmedH U.vm → w.before a' U = true) (hcode : Cond.codeWith y bytes maxL ret hh ∈ ws) (hinit : ∀ a' U, s.WarmedH U.vm → (Cond.initialized y.cls).before a' U = true) :
    vx_Back l R p e below s sargs y len W9 (PreOf R mc ms Pc) (PostOf Qc mc ms free) (vx_Post XC mc ms free) := by
  intro m meth c A g ig mk a X hg hsize hdg hW hn hp
  have h1 : (headSpec ws rm).pre.before a A.U = true := atoms_intro fun w hw => hws w hw _ _ X.warmed
  have h2 : (Cond.codeWith y bytes maxL ret hh).before a A.U = true := hws _ hcode _ _ X.warmed
  have h3 : (Cond.initialized y.cls).before a A.U = true := hinit _ _ X.warmed
  have h4 : A.cells + (headSpec ws rm).room.cells ≤ R.cells := by rw [show (headSpec ws rm).room.cells = mc from hrc]; exact hp.1
  have h5 : A.slots + (headSpec ws rm).room.slots ≤ R.slots := by rw [show (headSpec ws rm).room.slots = ms from hrs]; exact hp.2.1
  have hPc : Pc a (A.U.calling g mk a) := hblind _ _ _ _ hp.2.2
  obtain ⟨U, Ls, c0, s0⟩ := A
  dsimp only [Pt.U, Pt.locs, Pt.cells, Pt.slots] at h1 h2 h3 h4 h5 X hn hPc ⊢
  obtain ⟨m9, methY, cY, hn9, hmY, hcY, -, hlY, -⟩ := Cond.codeWith_spec h2
  cases Option.some.inj (hn9.symm.trans hn)
  obtain ⟨kY, hkY, -⟩ := className_of_methodNamed hn
  have hinitY : kY.init = .initialized := Cond.initialized_spec (findClass_of_methodNamed hn) hkY h3
  have h : At U g.method c below := by rw [hg]; exact X.here
  have hlocals9 : W9 + (maxL + 11) + (headSpec ws rm).room.locals ≤ R.locals := hlocals
  have happ : (headSpec ws rm).appliesLoose y e.platform (U.calling g mk a) = true :=
    Spec.appliesLoose_calling (g := g) h hdg hn hkY hinitY
      (X.room_calling (g := g) (R' := (headSpec ws rm).room) hsize hmY hcY hframes (by rw [hlY]; omega) h4 h5) h1
  obtain ⟨mid, hmid⟩ := h.above
  have hfr : (U.setTop g).frames = (.java g :: mid) ++ below := by rw [State.frames_setTop' g h.top, hmid]; rfl
  obtain ⟨o, s₂, hsteps, -, hend, hq⟩ := Steps.callFree hM p X.admits X.cas X.clock (acts := []) hfr happ hPc trivial
  have hq' : vx_Q Qc XC mc ms free a (U.calling g mk a) o s₂ := hq
  rw [State.frames_setTop' g h.top] at hend
  obtain ⟨g₀, hg0⟩ := Option.isSome_iff_exists.mp h.top
  obtain ⟨r, hr⟩ := State.topJava?_eq_some.mp hg0
  have hr' : (({ U with heap := s₂.heap, slotsUsed := s₂.slotsUsed } : State).setVm s₂.vm).frames = .java g₀ :: r := hr
  rcases hq' with ⟨hqc, L, hfe, hL⟩ | ⟨q, rfl, E, ce, L, hx, hce, hcv, hcl, hW₂, hsm, hL⟩
  · obtain ⟨⟨v, rfl⟩, hW₂, e2, q2, q3, q4, q5, q6⟩ := id hfe
    have e3 : s₂ = ({ (U.calling g mk a).setFrames s₂.frames with heap := s₂.heap, slotsUsed := s₂.slotsUsed } : State).setVm s₂.vm := by
      have : s₂ = ({ s₂ with vm := (U.calling g mk a).vm } : State).setVm s₂.vm := rfl
      rw [e2] at this
      exact this
    obtain ⟨c₂, i₂, len₂, hc₂, hd₂, hf₂⟩ := hend
    have hW' : U.WarmedH s₂.vm := hW₂
    have hcc : c₂ = c := by
      have h1 : s₂.code? g.method = U.code? g.method := by
        rw [State.code?_eq, State.code?_eq, hW'.alike.method?]
      exact Option.some.inj (hc₂.symm.trans (h1.trans h.code))
    subst hcc
    have hlen : len₂ = len := by rw [hdg] at hd₂; cases hd₂; rfl
    subst hlen
    have hs₂ : s₂ = (({ U with heap := s₂.heap, slotsUsed := s₂.slotsUsed } : State).setVm s₂.vm).setTop { g with pc := g.pc + len₂, stack := v.toList ++ g.stack } := by
      refine e3.trans ?_
      rw [hf₂, State.calling_eq h.top, State.setFrames_setFrames, State.setTop_of_frames _ hr', hr]
      rfl
    have hsame : U.sameButNew ({ U with heap := s₂.heap, slotsUsed := s₂.slotsUsed } : State) L mc ms := by
      refine ⟨?_, q2, q3, q4, q5, q6⟩
      obtain ⟨t, ht, -⟩ := State.frames_cons hr
      show ({ U with heap := s₂.heap, slotsUsed := s₂.slotsUsed } : State) = { U.setFrames U.frames with heap := s₂.heap, slotsUsed := s₂.slotsUsed }
      rw [State.setFrames_self ht]
    subst hg
    refine Or.inl ⟨v, ⟨(({ U with heap := s₂.heap, slotsUsed := s₂.slotsUsed } : State).setVm s₂.vm), Ls ++ L, c0 + mc, s0 + ms⟩,
      ⟨X.admits, X.cas, X.clock, X.frames, X.room, X.hears, X.method, X.code, (X.here.setHeapUsed s₂.heap s₂.slotsUsed).setVm hW'.alike, X.tail, State.WarmedH.trans X.warmed hW', X.limits, X.bytes, X.same.trans (hsame.setVm s.vm)⟩,
      ⟨g, mk, s₂, L, rfl, rfl, hqc, rfl, hL, rfl, rfl⟩, ?_⟩
    show Steps p.tables e below _ ((({ U with heap := s₂.heap, slotsUsed := s₂.slotsUsed } : State).setVm s₂.vm).setTop { g with pc := g.pc + len₂, stack := v.toList ++ g.stack })
    rw [← hs₂]
    exact hsteps
  · obtain ⟨e2, q2, q3, q4, q5, q6⟩ := id hsm
    have e3 : s₂ = ({ (U.calling g mk a).setFrames s₂.frames with heap := s₂.heap, slotsUsed := s₂.slotsUsed } : State).setVm s₂.vm := by
      have : s₂ = ({ s₂ with vm := (U.calling g mk a).vm } : State).setVm s₂.vm := rfl
      rw [e2] at this
      exact this
    have hf₂ : s₂.frames = .throwing q :: .java g :: U.frames.tail := hend
    have hW' : U.WarmedH s₂.vm := hW₂
    have hs₂ : s₂ = ((({ U with heap := s₂.heap, slotsUsed := s₂.slotsUsed } : State).setVm s₂.vm).setTop g).pushFrame (.throwing q) := by
      refine e3.trans ?_
      rw [hf₂, State.calling_eq h.top, State.setFrames_setFrames, State.pushFrame, State.frames_setTop _ hr', State.setTop_of_frames _ hr', State.setFrames_setFrames, hr]
      rfl
    have hsame : U.sameButNew ({ U with heap := s₂.heap, slotsUsed := s₂.slotsUsed } : State) L mc ms := by
      refine ⟨?_, q2, q3, q4, q5, q6⟩
      obtain ⟨t, ht, -⟩ := State.frames_cons hr
      show ({ U with heap := s₂.heap, slotsUsed := s₂.slotsUsed } : State) = { U.setFrames U.frames with heap := s₂.heap, slotsUsed := s₂.slotsUsed }
      rw [State.setFrames_self ht]
    subst hg
    refine Or.inr ⟨q, ⟨(({ U with heap := s₂.heap, slotsUsed := s₂.slotsUsed } : State).setVm s₂.vm), Ls ++ L, c0 + mc, s0 + ms⟩,
      ⟨X.admits, X.cas, X.clock, X.frames, X.room, X.hears, X.method, X.code, (X.here.setHeapUsed s₂.heap s₂.slotsUsed).setVm hW'.alike, X.tail, State.WarmedH.trans X.warmed hW', X.limits, X.bytes, X.same.trans (hsame.setVm s.vm)⟩,
      ⟨g, mk, s₂, L, E, ce, rfl, rfl, hx, hce, hcv, hcl, rfl, hL, rfl, rfl⟩, ?_⟩
    show Steps p.tables e below _ (((({ U with heap := s₂.heap, slotsUsed := s₂.slotsUsed } : State).setVm s₂.vm).setTop g).pushFrame (.throwing q))
    rw [← hs₂]
    exact hsteps
end
variable {p : Program} {l : Launch} {e : Env} {R : Room} {s : State} {m : MethodId} {args : Array Value} {below : List Frame} {meth : Method} {c : Code} {T : State} {H : Heap} {locs : List Loc} {cells slots : Nat}
theorem vx_callVX (X : Stand p l e R s m args below meth c T locs cells slots) (hexec : p.tables.exec = Jvm.exec) {own C : String} {index : Nat} {y : MethodName} {bytes : ByteArray} {maxL : Nat} {ret : Option FieldType} {hh : List (Nat × Nat × Nat × Nat)}
    (hown : s.vm.findClass own = some m.cls) (hlink : (Cond.methodLink own index y).before args s = true) (hinst : (Cond.instanceMethod y).before args s = true) (hsel : (Cond.selects C y y).before args s = true)
    (hcode : (Cond.codeWith y bytes maxL ret hh).before args s = true) (hy : y.cls ≠ "java/lang/invoke/MethodHandle" ∧ y.cls ≠ "java/lang/invoke/VarHandle")
    {W9 : Nat} {Pre : Pt → Array Value → Prop} {Post : Pt → Array Value → Option Value → Pt → Prop} {PostX : Pt → Array Value → Addr → Pt → Prop} (hK : vx_Back l R p e below s args y 3 W9 Pre Post PostX)
    {b : Addr} {cellB : Cell} (hcell : T.heap[b]? = some cellB) (hobj : cellB.vm.isStatics = false) (hcls : s.vm.findClass C = some cellB.cls)
    {g : JFrame} (hg : g.method = m) (hsize : g.locals.size = c.maxLocals) {argsL rest : List Value} (hlen : ∀ sig, parseMethodDescriptor y.desc = some sig → argsL.length = sig.parameters.length)
    (hstack : g.stack = argsL.reverse ++ .ref b :: rest) (hW : 2 * g.monitorRoom + (rest.map fun v => v.category).sum ≤ W9) (hdg : decode c.code g.pc = .ok (.invokevirtual index, 3))
    (hpre : ∀ vm₁, s.WarmedH vm₁ → Pre ⟨T.setVm vm₁, locs, cells, slots⟩ (Value.ref b :: argsL).toArray) :
    (∃ (v : Option Value) (vm₁ : Vm) (B : Pt), s.WarmedH vm₁ ∧ Stand p l e R s m args below meth c B.U B.locs B.cells B.slots ∧ Post ⟨T.setVm vm₁, locs, cells, slots⟩ (Value.ref b :: argsL).toArray v B ∧
      ∀ target, Steps p.tables e below (B.U.setTop { g with pc := g.pc + 3, stack := v.toList ++ rest }) target → Steps p.tables e below (T.setTop g) target) ∨
    (∃ (q : Addr) (vm₁ : Vm) (B : Pt), s.WarmedH vm₁ ∧ Stand p l e R s m args below meth c B.U B.locs B.cells B.slots ∧ PostX ⟨T.setVm vm₁, locs, cells, slots⟩ (Value.ref b :: argsL).toArray q B ∧
      Steps p.tables e below (T.setTop g) ((B.U.setTop { g with stack := rest }).pushFrame (.throwing q))) := by
  obtain ⟨mk, methM, hnamed, hmethM, hstM, habM⟩ := Cond.instanceMethod_spec hinst
  obtain ⟨m8, methM', cM, hn8, hmethM', -, -, -, -, -, -, hsigM⟩ := Cond.codeWith_spec hcode
  cases Option.some.inj (hn8.symm.trans hnamed)
  cases hmethM.symm.trans hmethM'
  obtain ⟨c2, r2, m2, q1, q2, q3, q4, kP, hkP, hkPi⟩ := Cond.selects_spec hsel
  cases hcls.symm.trans q1
  cases (State.methodFound?_of_named hnamed hy).symm.trans q2
  cases hnamed.symm.trans q3
  have hselP : selectMethod e.platform s.vm cellB.cls mk = .method mk := by rw [Launch.admits_selectMethod X.admits]; exact q4
  obtain ⟨vm₁, X₁, hstep₁⟩ := X.invokevirtual hexec hown hlink hnamed hmethM hstM hkP hkPi hy (a := b) (cell := cellB) hcell
    (fun z h => by rw [h] at hobj; cases hobj) hselP hmethM habM hkP hkPi (g := g) hg (argsL := argsL) (rest := rest) (hlen _ hsigM) hstack hdg
  rcases hK m meth c ⟨T.setVm vm₁, locs, cells, slots⟩ { g with stack := rest } (.invokevirtual index) mk (Value.ref b :: argsL).toArray X₁ hg hsize hdg hW (X₁.named hnamed) (hpre vm₁ X₁.warmed) with ⟨v, B, X', hpost, hsteps⟩ | ⟨q, B, X', hpost, hsteps⟩
  · exact Or.inl ⟨v, vm₁, B, X₁.warmed, X', hpost, fun target h => hstep₁ _ fun acts => by rw [doInvoke_state]; exact hsteps.trans h⟩
  · exact Or.inr ⟨q, vm₁, B, X₁.warmed, X', hpost, hstep₁ _ fun acts => by rw [doInvoke_state]; exact hsteps⟩
theorem vx_callSX (X : Stand p l e R s m args below meth c T locs cells slots) (hexec : p.tables.exec = Jvm.exec) {own : String} {index : Nat} {y : MethodName} {bytes : ByteArray} {maxL : Nat} {ret : Option FieldType} {hh : List (Nat × Nat × Nat × Nat)}
    (hown : s.vm.findClass own = some m.cls) (hlink : (Cond.methodLink own index y).before args s = true) (hstat : (Cond.static y).before args s = true) (hinit : (Cond.initialized y.cls).before args s = true)
    (hcode : (Cond.codeWith y bytes maxL ret hh).before args s = true) (hy : y.cls ≠ "java/lang/invoke/MethodHandle" ∧ y.cls ≠ "java/lang/invoke/VarHandle")
    {W9 : Nat} {Pre : Pt → Array Value → Prop} {Post : Pt → Array Value → Option Value → Pt → Prop} {PostX : Pt → Array Value → Addr → Pt → Prop} (hK : vx_Back l R p e below s args y 3 W9 Pre Post PostX)
    {g : JFrame} (hg : g.method = m) (hsize : g.locals.size = c.maxLocals) {argsL rest : List Value} (hlen : ∀ sig, parseMethodDescriptor y.desc = some sig → argsL.length = sig.parameters.length)
    (hstack : g.stack = argsL.reverse ++ rest) (hW : 2 * g.monitorRoom + (rest.map fun v => v.category).sum ≤ W9) (hdg : decode c.code g.pc = .ok (.invokestatic index, 3))
    (hpre : ∀ vm₁, s.WarmedH vm₁ → Pre ⟨T.setVm vm₁, locs, cells, slots⟩ argsL.toArray) :
    (∃ (v : Option Value) (vm₁ : Vm) (B : Pt), s.WarmedH vm₁ ∧ Stand p l e R s m args below meth c B.U B.locs B.cells B.slots ∧ Post ⟨T.setVm vm₁, locs, cells, slots⟩ argsL.toArray v B ∧
      ∀ target, Steps p.tables e below (B.U.setTop { g with pc := g.pc + 3, stack := v.toList ++ rest }) target → Steps p.tables e below (T.setTop g) target) ∨
    (∃ (q : Addr) (vm₁ : Vm) (B : Pt), s.WarmedH vm₁ ∧ Stand p l e R s m args below meth c B.U B.locs B.cells B.slots ∧ PostX ⟨T.setVm vm₁, locs, cells, slots⟩ argsL.toArray q B ∧
      Steps p.tables e below (T.setTop g) ((B.U.setTop { g with stack := rest }).pushFrame (.throwing q))) := by
  obtain ⟨mk, methM, cM, hnamed, hmethM, -, -, -, -, -, -, hsigM⟩ := Cond.codeWith_spec hcode
  have hstatic : methM.isStatic = true := Cond.static_spec hnamed hmethM hstat
  obtain ⟨kP, hkP, -⟩ := className_of_methodNamed hnamed
  have hinitP : kP.init = .initialized := Cond.initialized_spec (findClass_of_methodNamed hnamed) hkP hinit
  obtain ⟨vm₁, X₁, hstep₁⟩ := X.invokestatic hexec hown hlink hnamed hmethM hstatic hkP hinitP hy (g := g) hg (argsL := argsL) (rest := rest) (hlen _ hsigM) hstack hdg
  rcases hK m meth c ⟨T.setVm vm₁, locs, cells, slots⟩ { g with stack := rest } (.invokestatic index) mk argsL.toArray X₁ hg hsize hdg hW (X₁.named hnamed) (hpre vm₁ X₁.warmed) with ⟨v, B, X', hpost, hsteps⟩ | ⟨q, B, X', hpost, hsteps⟩
  · exact Or.inl ⟨v, vm₁, B, X₁.warmed, X', hpost, fun target h => hstep₁ _ fun acts => by rw [doInvoke_state]; exact hsteps.trans h⟩
  · exact Or.inr ⟨q, vm₁, B, X₁.warmed, X', hpost, hstep₁ _ fun acts => by rw [doInvoke_state]; exact hsteps⟩
theorem vx_callVW (X : Stand p l e R s m args below meth c T locs cells slots) (hexec : p.tables.exec = Jvm.exec) {own C : String} {index : Nat} {y : MethodName} {bytes : ByteArray} {maxL : Nat} {ret : Option FieldType} {hh : List (Nat × Nat × Nat × Nat)}
    (hown : s.vm.findClass own = some m.cls) (hlink : (Cond.methodLink own index y).before args s = true) (hinst : (Cond.instanceMethod y).before args s = true) (hsel : (Cond.selects C y y).before args s = true)
    (hcode : (Cond.codeWith y bytes maxL ret hh).before args s = true) (hy : y.cls ≠ "java/lang/invoke/MethodHandle" ∧ y.cls ≠ "java/lang/invoke/VarHandle")
    {W9 : Nat} {Pre : Pt → Array Value → Prop} {Post : Pt → Array Value → Option Value → Pt → Prop} (hK : Back l R p e below s args y 3 W9 Pre Post)
    {b : Addr} {cellB : Cell} (hcell : T.heap[b]? = some cellB) (hobj : cellB.vm.isStatics = false) (hcls : s.vm.findClass C = some cellB.cls)
    {g : JFrame} (hg : g.method = m) (hsize : g.locals.size = c.maxLocals) {argsL rest : List Value} (hlen : ∀ sig, parseMethodDescriptor y.desc = some sig → argsL.length = sig.parameters.length)
    (hstack : g.stack = argsL.reverse ++ .ref b :: rest) (hW : 2 * g.monitorRoom + (rest.map fun v => v.category).sum ≤ W9) (hdg : decode c.code g.pc = .ok (.invokevirtual index, 3))
    (hpre : ∀ vm₁, s.WarmedH vm₁ → Pre ⟨T.setVm vm₁, locs, cells, slots⟩ (Value.ref b :: argsL).toArray) :
    ∃ (v : Option Value) (vm₁ : Vm) (B : Pt), s.WarmedH vm₁ ∧ Stand p l e R s m args below meth c B.U B.locs B.cells B.slots ∧ Post ⟨T.setVm vm₁, locs, cells, slots⟩ (Value.ref b :: argsL).toArray v B ∧
      ∀ target, Steps p.tables e below (B.U.setTop { g with pc := g.pc + 3, stack := v.toList ++ rest }) target → Steps p.tables e below (T.setTop g) target := by
  obtain ⟨mk, methM, hnamed, hmethM, hstM, habM⟩ := Cond.instanceMethod_spec hinst
  obtain ⟨m8, methM', cM, hn8, hmethM', -, -, -, -, -, -, hsigM⟩ := Cond.codeWith_spec hcode
  cases Option.some.inj (hn8.symm.trans hnamed)
  cases hmethM.symm.trans hmethM'
  obtain ⟨c2, r2, m2, q1, q2, q3, q4, kP, hkP, hkPi⟩ := Cond.selects_spec hsel
  cases hcls.symm.trans q1
  cases (State.methodFound?_of_named hnamed hy).symm.trans q2
  cases hnamed.symm.trans q3
  have hselP : selectMethod e.platform s.vm cellB.cls mk = .method mk := by rw [Launch.admits_selectMethod X.admits]; exact q4
  obtain ⟨vm₁, X₁, hstep₁⟩ := X.invokevirtual hexec hown hlink hnamed hmethM hstM hkP hkPi hy (a := b) (cell := cellB) hcell
    (fun z h => by rw [h] at hobj; cases hobj) hselP hmethM habM hkP hkPi (g := g) hg (argsL := argsL) (rest := rest) (hlen _ hsigM) hstack hdg
  obtain ⟨v, B, X', hpost, hsteps⟩ := hK m meth c ⟨T.setVm vm₁, locs, cells, slots⟩ { g with stack := rest } (.invokevirtual index) mk (Value.ref b :: argsL).toArray X₁ hg hsize hdg hW (X₁.named hnamed) (hpre vm₁ X₁.warmed)
  exact ⟨v, vm₁, B, X₁.warmed, X', hpost, fun target h => hstep₁ _ fun acts => by rw [doInvoke_state]; exact hsteps.trans h⟩
abbrev vx_CVW (R : Room) (s : State) (args : Array Value) (own C : String) (index : Nat) (y : MethodName) (bytes : ByteArray) (maxL : Nat) (ret : Option FieldType) (hh : List (Nat × Nat × Nat × Nat)) (ws : List Cond) (rm : Room) (mc ms n : Nat) : Prop :=
  (rm.cells = mc ∧ rm.slots = ms ∧ rm.frames + 1 ≤ R.frames ∧ 8 + (maxL + 11) + rm.locals ≤ R.locals ∧ (∀ w ∈ ws, ∀ (a' : Array Value) (U : State), s.WarmedH U.vm → w.before a' U = true) ∧ Cond.codeWith y bytes maxL ret hh ∈ ws) ∧
  (Cond.codeWith y bytes maxL ret hh).before args s = true ∧ (Cond.initialized y.cls).before args s = true ∧ (y.cls ≠ "java/lang/invoke/MethodHandle" ∧ y.cls ≠ "java/lang/invoke/VarHandle") ∧
  (∀ sig, parseMethodDescriptor y.desc = some sig → n = sig.parameters.length) ∧ (Cond.methodLink own index y).before args s = true ∧ (Cond.instanceMethod y).before args s = true ∧ (Cond.selects C y y).before args s = true
theorem vx_cwVW {own C : String} {index maxL mc ms : Nat} {y : MethodName} {bytes : ByteArray} {ret : Option FieldType} {hh : List (Nat × Nat × Nat × Nat)} {Ts ws ws' : List Cond} {rm : Room} (n : Nat) (ht : ∀ w ∈ Ts, w.before args s = true) (hT : GoodIn Ts (wsV own index C y ws)) (hw : ws = Cond.codeWith y bytes maxL ret hh :: ws') (hrc : rm.cells = mc) (hrs : rm.slots = ms)
    (hd : y.cls = C ∧ y.cls ≠ "java/lang/invoke/MethodHandle" ∧ y.cls ≠ "java/lang/invoke/VarHandle" ∧ (parseMethodDescriptor y.desc).map (fun d => d.parameters.length) = some n) (hR : rm.frames + 1 ≤ R.frames ∧ 8 + (maxL + 11) + rm.locals ≤ R.locals) :
    vx_CVW R s args own C index y bytes maxL ret hh ws rm mc ms n := by
  obtain ⟨hC, hd⟩ := hd
  subst hC
  have ok : ∀ w ∈ wsV own index y.cls y ws, w.before args s = true := fun w h => ht w (hT w h).1
  have hG : GoodIn Ts ws := fun w h => hT w (by unfold wsV; exact List.mem_append_right _ h)
  have hc : Cond.codeWith y bytes maxL ret hh ∈ ws := by rw [hw]; exact List.mem_cons_self
  refine ⟨⟨hrc, hrs, hR.1, hR.2, pay_in ht hG, hc⟩, ht _ (hG _ hc).1, ok _ (by simp [wsV]), ⟨hd.1, hd.2.1⟩, fun sig h => ?_, ok _ (by simp [wsV]), ok _ (by simp [wsV]), ok _ (by simp [wsV])⟩
  have h2 := hd.2.2
  rw [h] at h2
  exact (Option.some.inj h2).symm
theorem vx_runVW {y : MethodName} {bytes cc : ByteArray} {maxL nL mc ms n index : Nat} {ret : Option FieldType} {hh : List (Nat × Nat × Nat × Nat)} {ws : List Cond} {rm : Room} {Pc : Array Value → State → Prop} {Qc : Array Value → State → Outcome → State → Prop} {free : Addr → Prop} {Ts : List Cond} {own C : String} {b : Addr} {As rest : List Value} {g : JFrame}
    (S : CallFix p m c cc nL s args Ts own) (hM : Met l y ws rm Pc Qc mc ms free) (cw : vx_CVW R s args own C index y bytes maxL ret hh ws rm mc ms n) (hp : PreV s H C b Pc As)
    (hg : g.method = m) (hn : As.length = n) (hsize : g.locals.size = nL) (hstack : g.stack = As.reverse ++ .ref b :: rest) (hW : 2 * g.monitorRoom + (rest.map fun v => v.category).sum ≤ 8) (hdg : decode cc g.pc = .ok (.invokevirtual index, 3)) (hf : cells + mc ≤ R.cells ∧ slots + ms ≤ R.slots) :
    va_Run p l e R s m args below meth c H locs cells slots mc ms g rest (Qc (Value.ref b :: As).toArray) free := by
  obtain ⟨⟨hrc, hrs, hfr, hlo, hws, hcw⟩, hcode, hini, hy, hlen, hl, hin, hse⟩ := cw
  have hK : Back l R p e below s args y 3 8 (PreOf R mc ms Pc) (PostOf Qc mc ms free) := va_backW (hh := hh) (bytes := bytes) (maxL := maxL) (ret := ret) hM hp.1 hrc hrs hfr hlo hws hcw (fun a' U hW => word_at hW (Or.inl (by first | rfl | simp [Cond.onTables, Cond.keeps, Cond.steady])) hini)
  obtain ⟨hx, hb, hml, ho, -⟩ := S
  obtain ⟨-, ⟨cellB, hcB, hoB, hclB⟩, hPc⟩ := hp
  intro T hT X
  obtain ⟨v, vm₁, ⟨U', l2, c2, s2⟩, hW₁, X', ⟨g', mk, t, L, e1, e2, hq, h1, hL, h2, h3⟩, st⟩ := vx_callVW X hx (C := C) (hh := hh) (bytes := bytes) (maxL := maxL) (ret := ret) ho hl hin hse hcode hy hK (by rw [hT]; exact hcB) hoB hclB hg (hsize.trans hml.symm) (argsL := As) (rest := rest) (fun sig h => hn.trans (hlen sig h)) hstack hW (by rw [hb]; exact hdg)
    (fun vm₁ hW₁ => ⟨hf.1, hf.2, hPc (T.setVm vm₁) hT hW₁⟩)
  dsimp only [Pt.U, Pt.locs, Pt.cells, Pt.slots] at X' e1 e2 h1 h2 h3 st
  subst h1; subst h2; subst h3
  exact ⟨v, (T.setVm vm₁).calling g' mk (Value.ref b :: As).toArray, t, U', L, hT, X', hL, e1, e2, hq, st⟩
section
variable {y : MethodName} {bytes cc : ByteArray} {maxL nL mc ms n index : Nat} {ret : Option FieldType} {ws : List Cond} {rm : Room} {Pc : Array Value → State → Prop} {Qc : Array Value → State → Outcome → State → Prop} {XC : String → State → State → Prop} {free : Addr → Prop} {Ts : List Cond} {own C : String} {b : Addr} {As rest : List Value} {g : JFrame}
theorem vx_runVX {hh : List (Nat × Nat × Nat × Nat)} (S : CallFix p m c cc nL s args Ts own) (hM : vx_Met l y ws rm Pc Qc XC mc ms free) (cw : vx_CVW R s args own C index y bytes maxL ret hh ws rm mc ms n) (hp : PreV s H C b Pc As)
    (hg : g.method = m) (hn : As.length = n) (hsize : g.locals.size = nL) (hstack : g.stack = As.reverse ++ .ref b :: rest) (hW : 2 * g.monitorRoom + (rest.map fun v => v.category).sum ≤ 8) (hdg : decode cc g.pc = .ok (.invokevirtual index, 3)) (hf : cells + mc ≤ R.cells ∧ slots + ms ≤ R.slots) :
    vx_Run p l e R s m args below meth c H locs cells slots mc ms g rest (Qc (Value.ref b :: As).toArray) XC free := by
  obtain ⟨⟨hrc, hrs, hfr, hlo, hws, hcw⟩, hcode, hini, hy, hlen, hl, hin, hse⟩ := cw
  have hK : vx_Back l R p e below s args y 3 8 (PreOf R mc ms Pc) (PostOf Qc mc ms free) (vx_Post XC mc ms free) := vx_backW (hh := hh) (bytes := bytes) (maxL := maxL) (ret := ret) hM hp.1 hrc hrs hfr hlo hws hcw (fun a' U hW => word_at hW (Or.inl (by first | rfl | simp [Cond.onTables, Cond.keeps, Cond.steady])) hini)
  obtain ⟨hx, hb, hml, ho, -⟩ := S
  obtain ⟨-, ⟨cellB, hcB, hoB, hclB⟩, hPc⟩ := hp
  intro T hT X
  rcases vx_callVX X hx (C := C) (hh := hh) (bytes := bytes) (maxL := maxL) (ret := ret) ho hl hin hse hcode hy hK (by rw [hT]; exact hcB) hoB hclB hg (hsize.trans hml.symm) (argsL := As) (rest := rest) (fun sig h => hn.trans (hlen sig h)) hstack hW (by rw [hb]; exact hdg)
    (fun vm₁ hW₁ => ⟨hf.1, hf.2, hPc (T.setVm vm₁) hT hW₁⟩) with ⟨v, vm₁, ⟨U', l2, c2, s2⟩, hW₁, X', ⟨g', mk, t, L, e1, e2, hq, h1, hL, h2, h3⟩, st⟩ | ⟨q, vm₁, ⟨U', l2, c2, s2⟩, hW₁, X', ⟨g', mk, t, L, E, ce, e1, e2, hq, hce, hcv, hcl, h1, hL, h2, h3⟩, st⟩
  · dsimp only [Pt.U, Pt.locs, Pt.cells, Pt.slots] at X' e1 e2 h1 h2 h3 st
    subst h1; subst h2; subst h3
    exact Or.inl ⟨v, (T.setVm vm₁).calling g' mk (Value.ref b :: As).toArray, t, U', L, hT, X', hL, e1, e2, hq, st⟩
  · dsimp only [Pt.U, Pt.locs, Pt.cells, Pt.slots] at X' e1 e2 h1 h2 h3 st hcl
    subst h1; subst h2; subst h3
    exact Or.inr ⟨q, (T.setVm vm₁).calling g' mk (Value.ref b :: As).toArray, t, U', L, E, ce, hT, X', hL, e1, e2, hq, hce, hcv, vx_cls hW₁ hcl, st⟩
theorem vx_runSX {hh : List (Nat × Nat × Nat × Nat)} (S : CallFix p m c cc nL s args Ts own) (hM : vx_Met l y ws rm Pc Qc XC mc ms free) (cw : vx_CSW R s args own index y bytes maxL ret hh ws rm mc ms n) (hp : PreS s H Pc As)
    (hg : g.method = m) (hn : As.length = n) (hsize : g.locals.size = nL) (hstack : g.stack = As.reverse ++ rest) (hW : 2 * g.monitorRoom + (rest.map fun v => v.category).sum ≤ 8) (hdg : decode cc g.pc = .ok (.invokestatic index, 3)) (hf : cells + mc ≤ R.cells ∧ slots + ms ≤ R.slots) :
    vx_Run p l e R s m args below meth c H locs cells slots mc ms g rest (Qc As.toArray) XC free := by
  obtain ⟨⟨hrc, hrs, hfr, hlo, hws, hcw⟩, hcode, hini, hy, hlen, hl, hstt⟩ := cw
  have hK : vx_Back l R p e below s args y 3 8 (PreOf R mc ms Pc) (PostOf Qc mc ms free) (vx_Post XC mc ms free) := vx_backW (hh := hh) (bytes := bytes) (maxL := maxL) (ret := ret) hM hp.1 hrc hrs hfr hlo hws hcw (fun a' U hW => word_at hW (Or.inl (by first | rfl | simp [Cond.onTables, Cond.keeps, Cond.steady])) hini)
  obtain ⟨hx, hb, hml, ho, -⟩ := S
  intro T hT X
  rcases vx_callSX X hx (hh := hh) (bytes := bytes) (maxL := maxL) (ret := ret) ho hl hstt hini hcode hy hK hg (hsize.trans hml.symm) (argsL := As) (rest := rest) (fun sig h => hn.trans (hlen sig h)) hstack hW (by rw [hb]; exact hdg)
    (fun vm₁ hW₁ => ⟨hf.1, hf.2, hp.2 (T.setVm vm₁) hT hW₁⟩) with ⟨v, vm₁, ⟨U', l2, c2, s2⟩, hW₁, X', ⟨g', mk, t, L, e1, e2, hq, h1, hL, h2, h3⟩, st⟩ | ⟨q, vm₁, ⟨U', l2, c2, s2⟩, hW₁, X', ⟨g', mk, t, L, E, ce, e1, e2, hq, hce, hcv, hcl, h1, hL, h2, h3⟩, st⟩
  · dsimp only [Pt.U, Pt.locs, Pt.cells, Pt.slots] at X' e1 e2 h1 h2 h3 st
    subst h1; subst h2; subst h3
    exact Or.inl ⟨v, (T.setVm vm₁).calling g' mk As.toArray, t, U', L, hT, X', hL, e1, e2, hq, st⟩
  · dsimp only [Pt.U, Pt.locs, Pt.cells, Pt.slots] at X' e1 e2 h1 h2 h3 st hcl
    subst h1; subst h2; subst h3
    exact Or.inr ⟨q, (T.setVm vm₁).calling g' mk As.toArray, t, U', L, E, ce, hT, X', hL, e1, e2, hq, hce, hcv, vx_cls hW₁ hcl, st⟩
end
end VXH
theorem vx_ofWH {l : Launch} {y : MethodName} {ws ws' : List Cond} {rm : Room} {Pc : Array Value → State → Prop} {Qc : Array Value → State → Outcome → State → Prop} {XC : String → State → State → Prop} {mc ms : Nat} {free : Addr → Prop} {cc : ByteArray} {maxL : Nat} {ret : Option FieldType} {hh : List (Nat × Nat × Nat × Nat)}
    (hy : plainName y.cls = true) (hw : ws = Cond.codeWith y cc maxL ret hh :: ws')
    (body : ∀ p e s m args below meth c s₁, BodyLoose p l y (headSpec ws rm) cc maxL ret e s m args below meth c s₁ → c.maxLocals = maxL → Pc args s →
      W p l e (headSpec ws rm).room s m args below meth c s.heap [] 0 0 (vx_MQ below Qc XC args s mc ms free) (entryFrame m args maxL)) : vx_Met l y ws rm Pc Qc XC mc ms free := by
  refine MetFree.of_bodyS (code := cc) (maxLocals := maxL) (ret := ret) hy ?_ ?_
  · intro args s m h hn
    obtain ⟨m9, meth, c, hn9, h1, h2, h3, h4, -, h5, h6, -⟩ := Cond.codeWith_spec (atoms_spec (ws := ws) h _ (by rw [hw]; exact List.mem_cons_self))
    cases hn.symm.trans hn9
    exact ⟨meth, c, h1, h2, h3, h4, h5, h6⟩
  · intro p e s m args below meth c s₁ B hml hP _
    have hh0 : s₁.heap = s.heap := by rw [B.state]; rfl
    obtain ⟨t, a1, o, b1, b2, b3⟩ := body p e s m args below meth c s₁ B hml hP s₁ hh0 (Stand.of_body B)
    exact ⟨t, o, a1, b1, b2, b3⟩
/-! ===== END ===== -/
end
section
/-! ===== BEGIN printed: names, fields, word lists, decode rows ===== -/
def RX0 : String := "BandDay$Band"
def TX0 : u_T := fun k => match k with
  | 0 => ("BandDay$Band", "chairs", "[LBandDay$Chair;", true)
  | 1 => ("BandDay$Band", "size", "I", false)
  | 2 => ("BandDay$Band", "spirit", "I", false)
  | 3 => ("BandDay$Band", "marks", "I", false)
  | 4 => ("BandDay$Band", "place", "I", false)
  | 5 => ("BandDay$Band", "deputies", "I", false)
  | 6 => ("BandDay$Band", "empties", "I", false)
  | 7 => ("BandDay$Band", "points", "I", false)
  | _ => ("BandDay$Band", "outs", "I", false)
def tyX0 : Nat → FieldType := fun k => match k with
  | 0 => .array (.object "BandDay$Chair")
  | 1 => .int
  | 2 => .int
  | 3 => .int
  | 4 => .int
  | 5 => .int
  | 6 => .int
  | 7 => .int
  | _ => .int
abbrev wsX00 : List Cond := u_ws RX0 TX0 9
theorem nmX0 : ∀ a, a < 9 → ∀ b, b < 9 → a ≠ b → (TX0 a).2.1 ≠ (TX0 b).2.1 := by decide +kernel
theorem tyX0_ok : ∀ k, k < 9 → parseFieldDescriptor (TX0 k).2.2.1 = some (tyX0 k) := by decide +kernel
abbrev cX0_init : ByteArray := prog_2_method_1_code
def yX0_init : MethodName := ⟨RX0, "<init>", "()V"⟩
abbrev cX0_copyFrom : ByteArray := prog_2_method_2_code
def yX0_copyFrom : MethodName := ⟨RX0, "copyFrom", "(LBandDay$Band;)V"⟩
abbrev cX0_furnish : ByteArray := prog_2_method_3_code
def yX0_furnish : MethodName := ⟨RX0, "furnish", "(II)V"⟩
abbrev cX0_chairAt : ByteArray := prog_2_method_4_code
def yX0_chairAt : MethodName := ⟨RX0, "chairAt", "(I)LBandDay$Chair;"⟩
abbrev cX0_raiseSpirit : ByteArray := prog_2_method_5_code
def yX0_raiseSpirit : MethodName := ⟨RX0, "raiseSpirit", "(I)V"⟩
abbrev cX0_members : ByteArray := prog_2_method_6_code
def yX0_members : MethodName := ⟨RX0, "members", "()I"⟩
abbrev cX0_ownSitting : ByteArray := prog_2_method_7_code
def yX0_ownSitting : MethodName := ⟨RX0, "ownSitting", "()I"⟩
abbrev cX0_deputiesSitting : ByteArray := prog_2_method_8_code
def yX0_deputiesSitting : MethodName := ⟨RX0, "deputiesSitting", "()I"⟩
abbrev cX0_emptyChairs : ByteArray := prog_2_method_9_code
def yX0_emptyChairs : MethodName := ⟨RX0, "emptyChairs", "()I"⟩
abbrev cX0_tell : ByteArray := prog_2_method_10_code
def yX0_tell : MethodName := ⟨RX0, "tell", "(I)I"⟩
abbrev cX0_outlook : ByteArray := prog_2_method_11_code
def yX0_outlook : MethodName := ⟨RX0, "outlook", "(I)I"⟩
def RX1 : String := "BandDay$Chair"
def TX1 : u_T := fun k => match k with
  | 0 => ("BandDay$Chair", "instrument", "I", false)
  | 1 => ("BandDay$Chair", "member", "I", false)
  | _ => ("BandDay$Chair", "sitter", "I", false)
def tyX1 : Nat → FieldType := fun k => match k with
  | 0 => .int
  | 1 => .int
  | _ => .int
abbrev wsX10 : List Cond := u_ws RX1 TX1 3
theorem nmX1 : ∀ a, a < 3 → ∀ b, b < 3 → a ≠ b → (TX1 a).2.1 ≠ (TX1 b).2.1 := by decide +kernel
theorem tyX1_ok : ∀ k, k < 3 → parseFieldDescriptor (TX1 k).2.2.1 = some (tyX1 k) := by decide +kernel
abbrev cX1_init : ByteArray := prog_3_method_1_code
def yX1_init : MethodName := ⟨RX1, "<init>", "()V"⟩
abbrev cX1_copyFrom : ByteArray := prog_3_method_2_code
def yX1_copyFrom : MethodName := ⟨RX1, "copyFrom", "(LBandDay$Chair;)V"⟩
abbrev cX1_isEmpty : ByteArray := prog_3_method_3_code
def yX1_isEmpty : MethodName := ⟨RX1, "isEmpty", "()Z"⟩
abbrev cX1_hasOwn : ByteArray := prog_3_method_4_code
def yX1_hasOwn : MethodName := ⟨RX1, "hasOwn", "()Z"⟩
abbrev cX1_hasDeputy : ByteArray := prog_3_method_5_code
def yX1_hasDeputy : MethodName := ⟨RX1, "hasDeputy", "()Z"⟩
abbrev cX1_tell : ByteArray := prog_3_method_6_code
def yX1_tell : MethodName := ⟨RX1, "tell", "(I)I"⟩
def RX2 : String := "BandDay$Contest"
def TX2 : u_T := fun k => match k with
  | _ => ("BandDay$Contest", "season", "LBandDay$Season;", true)
def tyX2 : Nat → FieldType := fun k => match k with
  | _ => .object "BandDay$Season"
abbrev wsX20 : List Cond := u_ws RX2 TX2 1
theorem nmX2 : ∀ a, a < 1 → ∀ b, b < 1 → a ≠ b → (TX2 a).2.1 ≠ (TX2 b).2.1 := by decide +kernel
theorem tyX2_ok : ∀ k, k < 1 → parseFieldDescriptor (TX2 k).2.2.1 = some (tyX2 k) := by decide +kernel
abbrev cX2_init : ByteArray := prog_4_method_1_code
def yX2_init : MethodName := ⟨RX2, "<init>", "(LBandDay$Season;)V"⟩
abbrev cX2_hold : ByteArray := prog_4_method_2_code
def yX2_hold : MethodName := ⟨RX2, "hold", "()I"⟩
abbrev cX2_playAllAheadOf : ByteArray := prog_4_method_3_code
def yX2_playAllAheadOf : MethodName := ⟨RX2, "playAllAheadOf", "(I)V"⟩
abbrev cX2_bestChange : ByteArray := prog_4_method_4_code
def yX2_bestChange : MethodName := ⟨RX2, "bestChange", "(I)I"⟩
abbrev cX2_forgetDeputies : ByteArray := prog_4_method_5_code
def yX2_forgetDeputies : MethodName := ⟨RX2, "forgetDeputies", "()V"⟩
abbrev cX2_bandInTurn : ByteArray := prog_4_method_6_code
def yX2_bandInTurn : MethodName := ⟨RX2, "bandInTurn", "(I)I"⟩
abbrev cX2_play : ByteArray := prog_4_method_7_code
def yX2_play : MethodName := ⟨RX2, "play", "(I)V"⟩
abbrev cX2_marksOnceSeated : ByteArray := prog_4_method_8_code
def yX2_marksOnceSeated : MethodName := ⟨RX2, "marksOnceSeated", "(LBandDay$Band;)I"⟩
abbrev cX2_seatMembers : ByteArray := prog_4_method_9_code
def yX2_seatMembers : MethodName := ⟨RX2, "seatMembers", "(LBandDay$Band;)V"⟩
abbrev cX2_seatDeputies : ByteArray := prog_4_method_10_code
def yX2_seatDeputies : MethodName := ⟨RX2, "seatDeputies", "(LBandDay$Band;)V"⟩
abbrev cX2_deputyFor : ByteArray := prog_4_method_11_code
def yX2_deputyFor : MethodName := ⟨RX2, "deputyFor", "(LBandDay$Chair;)I"⟩
abbrev cX2_isOut : ByteArray := prog_4_method_12_code
def yX2_isOut : MethodName := ⟨RX2, "isOut", "(LBandDay$Band;)Z"⟩
abbrev cX2_marksAsSeated : ByteArray := prog_4_method_13_code
def yX2_marksAsSeated : MethodName := ⟨RX2, "marksAsSeated", "(LBandDay$Band;)I"⟩
abbrev cX2_marksFor : ByteArray := prog_4_method_14_code
def yX2_marksFor : MethodName := ⟨RX2, "marksFor", "(LBandDay$Player;I)I"⟩
abbrev cX2_noteSittings : ByteArray := prog_4_method_15_code
def yX2_noteSittings : MethodName := ⟨RX2, "noteSittings", "(LBandDay$Band;)V"⟩
abbrev cX2_moveLips : ByteArray := prog_4_method_16_code
def yX2_moveLips : MethodName := ⟨RX2, "moveLips", "()V"⟩
abbrev cX2_givePlaces : ByteArray := prog_4_method_17_code
def yX2_givePlaces : MethodName := ⟨RX2, "givePlaces", "()I"⟩
abbrev cX2_aheadByMarks : ByteArray := prog_4_method_18_code
def yX2_aheadByMarks : MethodName := ⟨RX2, "aheadByMarks", "(I)I"⟩
abbrev cX2_isAhead : ByteArray := prog_4_method_19_code
def yX2_isAhead : MethodName := ⟨RX2, "isAhead", "(II)Z"⟩
abbrev cX2_pointsFor : ByteArray := prog_4_method_20_code
def yX2_pointsFor : MethodName := ⟨RX2, "pointsFor", "(I)I"⟩
def RX3 : String := "BandDay$Player"
def TX3 : u_T := fun k => match k with
  | 0 => ("BandDay$Player", "skills", "[I", true)
  | 1 => ("BandDay$Player", "tired", "I", false)
  | 2 => ("BandDay$Player", "absences", "I", false)
  | 3 => ("BandDay$Player", "band", "I", false)
  | 4 => ("BandDay$Player", "seat", "I", false)
  | 5 => ("BandDay$Player", "sittings", "I", false)
  | 6 => ("BandDay$Player", "deputySittings", "I", false)
  | 7 => ("BandDay$Player", "deputyToday", "I", false)
  | _ => ("BandDay$Player", "sits", "Z", false)
def tyX3 : Nat → FieldType := fun k => match k with
  | 0 => .array .int
  | 1 => .int
  | 2 => .int
  | 3 => .int
  | 4 => .int
  | 5 => .int
  | 6 => .int
  | 7 => .int
  | _ => .boolean
abbrev wsX30 : List Cond := u_ws RX3 TX3 9
theorem nmX3 : ∀ a, a < 9 → ∀ b, b < 9 → a ≠ b → (TX3 a).2.1 ≠ (TX3 b).2.1 := by decide +kernel
theorem tyX3_ok : ∀ k, k < 9 → parseFieldDescriptor (TX3 k).2.2.1 = some (tyX3 k) := by decide +kernel
abbrev cX3_init : ByteArray := prog_5_method_1_code
def yX3_init : MethodName := ⟨RX3, "<init>", "()V"⟩
abbrev cX3_copyFrom : ByteArray := prog_5_method_2_code
def yX3_copyFrom : MethodName := ⟨RX3, "copyFrom", "(LBandDay$Player;)V"⟩
abbrev cX3_skillFor : ByteArray := prog_5_method_3_code
def yX3_skillFor : MethodName := ⟨RX3, "skillFor", "(I)I"⟩
abbrev cX3_isThere : ByteArray := prog_5_method_4_code
def yX3_isThere : MethodName := ⟨RX3, "isThere", "()Z"⟩
abbrev cX3_mayBeDeputy : ByteArray := prog_5_method_5_code
def yX3_mayBeDeputy : MethodName := ⟨RX3, "mayBeDeputy", "()Z"⟩
abbrev cX3_tire : ByteArray := prog_5_method_6_code
def yX3_tire : MethodName := ⟨RX3, "tire", "(I)V"⟩
abbrev cX3_rest : ByteArray := prog_5_method_7_code
def yX3_rest : MethodName := ⟨RX3, "rest", "(I)V"⟩
abbrev cX3_tell : ByteArray := prog_5_method_8_code
def yX3_tell : MethodName := ⟨RX3, "tell", "(I)I"⟩
def RX4 : String := "BandDay$Season"
def TX4 : u_T := fun k => match k with
  | 0 => ("BandDay$Season", "players", "[LBandDay$Player;", true)
  | 1 => ("BandDay$Season", "bands", "[LBandDay$Band;", true)
  | 2 => ("BandDay$Season", "hard", "[I", true)
  | 3 => ("BandDay$Season", "weight", "[I", true)
  | 4 => ("BandDay$Season", "playerCount", "I", false)
  | 5 => ("BandDay$Season", "bandCount", "I", false)
  | 6 => ("BandDay$Season", "contests", "I", false)
  | 7 => ("BandDay$Season", "deputies", "I", false)
  | _ => ("BandDay$Season", "empties", "I", false)
def tyX4 : Nat → FieldType := fun k => match k with
  | 0 => .array (.object "BandDay$Player")
  | 1 => .array (.object "BandDay$Band")
  | 2 => .array .int
  | 3 => .array .int
  | 4 => .int
  | 5 => .int
  | 6 => .int
  | 7 => .int
  | _ => .int
abbrev wsX40 : List Cond := u_ws RX4 TX4 9
theorem nmX4 : ∀ a, a < 9 → ∀ b, b < 9 → a ≠ b → (TX4 a).2.1 ≠ (TX4 b).2.1 := by decide +kernel
theorem tyX4_ok : ∀ k, k < 9 → parseFieldDescriptor (TX4 k).2.2.1 = some (tyX4 k) := by decide +kernel
abbrev cX4_init : ByteArray := prog_6_method_1_code
def yX4_init : MethodName := ⟨RX4, "<init>", "()V"⟩
abbrev cX4_copyFrom : ByteArray := prog_6_method_2_code
def yX4_copyFrom : MethodName := ⟨RX4, "copyFrom", "(LBandDay$Season;)V"⟩
abbrev cX4_playerAt : ByteArray := prog_6_method_3_code
def yX4_playerAt : MethodName := ⟨RX4, "playerAt", "(I)LBandDay$Player;"⟩
abbrev cX4_bandAt : ByteArray := prog_6_method_4_code
def yX4_bandAt : MethodName := ⟨RX4, "bandAt", "(I)LBandDay$Band;"⟩
abbrev cX4_chairAt : ByteArray := prog_6_method_5_code
def yX4_chairAt : MethodName := ⟨RX4, "chairAt", "(II)LBandDay$Chair;"⟩
abbrev cX4_hardFor : ByteArray := prog_6_method_6_code
def yX4_hardFor : MethodName := ⟨RX4, "hardFor", "(I)I"⟩
abbrev cX4_weightFor : ByteArray := prog_6_method_7_code
def yX4_weightFor : MethodName := ⟨RX4, "weightFor", "(I)I"⟩
abbrev cX4_enrol : ByteArray := prog_6_method_8_code
def yX4_enrol : MethodName := ⟨RX4, "enrol", "(IIII)I"⟩
abbrev cX4_open : ByteArray := prog_6_method_9_code
def yX4_open : MethodName := ⟨RX4, "open", "(II)I"⟩
abbrev cX4_leave : ByteArray := prog_6_method_10_code
def yX4_leave : MethodName := ⟨RX4, "leave", "(I)V"⟩
abbrev cX4_putOn : ByteArray := prog_6_method_11_code
def yX4_putOn : MethodName := ⟨RX4, "putOn", "(III)V"⟩
abbrev cX4_swapMembers : ByteArray := prog_6_method_12_code
def yX4_swapMembers : MethodName := ⟨RX4, "swapMembers", "(III)V"⟩
abbrev cX4_tireMembers : ByteArray := prog_6_method_13_code
def yX4_tireMembers : MethodName := ⟨RX4, "tireMembers", "(LBandDay$Band;I)V"⟩
abbrev cX4_membersInAll : ByteArray := prog_6_method_14_code
def yX4_membersInAll : MethodName := ⟨RX4, "membersInAll", "()I"⟩
abbrev cX4_absentInAll : ByteArray := prog_6_method_15_code
def yX4_absentInAll : MethodName := ⟨RX4, "absentInAll", "()I"⟩
abbrev cX4_tell : ByteArray := prog_6_method_16_code
def yX4_tell : MethodName := ⟨RX4, "tell", "(I)I"⟩
abbrev cX4_bandByPoints : ByteArray := prog_6_method_17_code
def yX4_bandByPoints : MethodName := ⟨RX4, "bandByPoints", "(I)I"⟩
abbrev cX4_aheadByPoints : ByteArray := prog_6_method_18_code
def yX4_aheadByPoints : MethodName := ⟨RX4, "aheadByPoints", "(I)I"⟩
abbrev cX4_bestFree : ByteArray := prog_6_method_19_code
def yX4_bestFree : MethodName := ⟨RX4, "bestFree", "(I)I"⟩
abbrev cX4_meanMarks : ByteArray := prog_6_method_20_code
def yX4_meanMarks : MethodName := ⟨RX4, "meanMarks", "()D"⟩
abbrev cX4_checksum : ByteArray := prog_6_method_21_code
def yX4_checksum : MethodName := ⟨RX4, "checksum", "()J"⟩
abbrev cX4_withBand : ByteArray := prog_6_method_22_code
def yX4_withBand : MethodName := ⟨RX4, "withBand", "(JLBandDay$Band;)J"⟩
def RX5 : String := "BandDay"
def TX5 : u_T := fun k => match k with
  | 0 => ("BandDay", "season", "LBandDay$Season;", true)
  | 1 => ("BandDay", "contest", "LBandDay$Contest;", true)
  | 2 => ("BandDay", "trial", "LBandDay$Season;", true)
  | _ => ("BandDay", "trialContest", "LBandDay$Contest;", true)
def tyX5 : Nat → FieldType := fun k => match k with
  | 0 => .object "BandDay$Season"
  | 1 => .object "BandDay$Contest"
  | 2 => .object "BandDay$Season"
  | _ => .object "BandDay$Contest"
abbrev wsX50 : List Cond := u_ws RX5 TX5 4
theorem nmX5 : ∀ a, a < 4 → ∀ b, b < 4 → a ≠ b → (TX5 a).2.1 ≠ (TX5 b).2.1 := by decide +kernel
theorem tyX5_ok : ∀ k, k < 4 → parseFieldDescriptor (TX5 k).2.2.1 = some (tyX5 k) := by decide +kernel
abbrev cX5_init : ByteArray := prog_1_method_1_code
def yX5_init : MethodName := ⟨RX5, "<init>", "()V"⟩
abbrev cX5_addPlayer : ByteArray := prog_1_method_2_code
def yX5_addPlayer : MethodName := ⟨RX5, "addPlayer", "(IIII)I"⟩
abbrev cX5_found : ByteArray := prog_1_method_3_code
def yX5_found : MethodName := ⟨RX5, "found", "(I)I"⟩
abbrev cX5_seat : ByteArray := prog_1_method_4_code
def yX5_seat : MethodName := ⟨RX5, "seat", "(III)I"⟩
abbrev cX5_change : ByteArray := prog_1_method_5_code
def yX5_change : MethodName := ⟨RX5, "change", "(III)I"⟩
abbrev cX5_absent : ByteArray := prog_1_method_6_code
def yX5_absent : MethodName := ⟨RX5, "absent", "(II)I"⟩
abbrev cX5_rehearse : ByteArray := prog_1_method_7_code
def yX5_rehearse : MethodName := ⟨RX5, "rehearse", "(I)I"⟩
abbrev cX5_setPiece : ByteArray := prog_1_method_8_code
def yX5_setPiece : MethodName := ⟨RX5, "setPiece", "(II)I"⟩
abbrev cX5_setTaste : ByteArray := prog_1_method_9_code
def yX5_setTaste : MethodName := ⟨RX5, "setTaste", "(II)I"⟩
abbrev cX5_player : ByteArray := prog_1_method_10_code
def yX5_player : MethodName := ⟨RX5, "player", "(II)I"⟩
abbrev cX5_band : ByteArray := prog_1_method_11_code
def yX5_band : MethodName := ⟨RX5, "band", "(II)I"⟩
abbrev cX5_chair : ByteArray := prog_1_method_12_code
def yX5_chair : MethodName := ⟨RX5, "chair", "(III)I"⟩
abbrev cX5_contest : ByteArray := prog_1_method_13_code
def yX5_contest : MethodName := ⟨RX5, "contest", "()I"⟩
abbrev cX5_rank : ByteArray := prog_1_method_14_code
def yX5_rank : MethodName := ⟨RX5, "rank", "(I)I"⟩
abbrev cX5_count : ByteArray := prog_1_method_15_code
def yX5_count : MethodName := ⟨RX5, "count", "(I)I"⟩
abbrev cX5_foresee : ByteArray := prog_1_method_16_code
def yX5_foresee : MethodName := ⟨RX5, "foresee", "(III)I"⟩
abbrev cX5_advise : ByteArray := prog_1_method_17_code
def yX5_advise : MethodName := ⟨RX5, "advise", "(I)I"⟩
abbrev cX5_free : ByteArray := prog_1_method_18_code
def yX5_free : MethodName := ⟨RX5, "free", "(I)I"⟩
abbrev cX5_mean : ByteArray := prog_1_method_19_code
def yX5_mean : MethodName := ⟨RX5, "mean", "()D"⟩
abbrev cX5_digest : ByteArray := prog_1_method_20_code
def yX5_digest : MethodName := ⟨RX5, "digest", "()J"⟩
abbrev cX5_isSkill : ByteArray := prog_1_method_21_code
def yX5_isSkill : MethodName := ⟨RX5, "isSkill", "(I)Z"⟩
abbrev cX5_seatsIn : ByteArray := prog_1_method_22_code
def yX5_seatsIn : MethodName := ⟨RX5, "seatsIn", "(I)I"⟩
abbrev cX5_needInstrument : ByteArray := prog_1_method_23_code
def yX5_needInstrument : MethodName := ⟨RX5, "needInstrument", "(I)V"⟩
abbrev cX5_needWhat : ByteArray := prog_1_method_24_code
def yX5_needWhat : MethodName := ⟨RX5, "needWhat", "(II)V"⟩
abbrev cX5_needPlayer : ByteArray := prog_1_method_25_code
def yX5_needPlayer : MethodName := ⟨RX5, "needPlayer", "(I)LBandDay$Player;"⟩
abbrev cX5_needBand : ByteArray := prog_1_method_26_code
def yX5_needBand : MethodName := ⟨RX5, "needBand", "(I)LBandDay$Band;"⟩
abbrev cX5_needChair : ByteArray := prog_1_method_27_code
def yX5_needChair : MethodName := ⟨RX5, "needChair", "(II)LBandDay$Chair;"⟩
def RX6 : String := "BandDayModel$State"
def TX6 : u_T := fun k => match k with
  | 0 => ("BandDayModel$State", "contests", "I", false)
  | 1 => ("BandDayModel$State", "deputies", "I", false)
  | 2 => ("BandDayModel$State", "empties", "I", false)
  | 3 => ("BandDayModel$State", "tired", "[I", true)
  | 4 => ("BandDayModel$State", "absent", "[I", true)
  | 5 => ("BandDayModel$State", "sat", "[I", true)
  | 6 => ("BandDayModel$State", "deputy", "[I", true)
  | 7 => ("BandDayModel$State", "member", "[I", true)
  | 8 => ("BandDayModel$State", "who", "[I", true)
  | 9 => ("BandDayModel$State", "spirit", "[I", true)
  | 10 => ("BandDayModel$State", "points", "[I", true)
  | 11 => ("BandDayModel$State", "outs", "[I", true)
  | 12 => ("BandDayModel$State", "latest", "[I", true)
  | 13 => ("BandDayModel$State", "times", "[I", true)
  | _ => ("BandDayModel$State", "this$0", "LBandDayModel;", true)
def tyX6 : Nat → FieldType := fun k => match k with
  | 0 => .int
  | 1 => .int
  | 2 => .int
  | 3 => .array .int
  | 4 => .array .int
  | 5 => .array .int
  | 6 => .array .int
  | 7 => .array .int
  | 8 => .array .int
  | 9 => .array .int
  | 10 => .array .int
  | 11 => .array .int
  | 12 => .array .int
  | 13 => .array .int
  | _ => .object "BandDayModel"
abbrev wsX60 : List Cond := u_ws RX6 TX6 15
theorem nmX6 : ∀ a, a < 15 → ∀ b, b < 15 → a ≠ b → (TX6 a).2.1 ≠ (TX6 b).2.1 := by decide +kernel
theorem tyX6_ok : ∀ k, k < 15 → parseFieldDescriptor (TX6 k).2.2.1 = some (tyX6 k) := by decide +kernel
abbrev cX6_init : ByteArray := prog_9_method_1_code
def yX6_init : MethodName := ⟨RX6, "<init>", "(LBandDayModel;)V"⟩
abbrev cX6_copy : ByteArray := prog_9_method_2_code
def yX6_copy : MethodName := ⟨RX6, "copy", "([I[I)V"⟩
abbrev cX6_become : ByteArray := prog_9_method_3_code
def yX6_become : MethodName := ⟨RX6, "become", "(LBandDayModel$State;)V"⟩
abbrev cX6_sits : ByteArray := prog_9_method_4_code
def yX6_sits : MethodName := ⟨RX6, "sits", "(II)Z"⟩
abbrev cX6_find : ByteArray := prog_9_method_5_code
def yX6_find : MethodName := ⟨RX6, "find", "(II)I"⟩
abbrev cX6_play : ByteArray := prog_9_method_6_code
def yX6_play : MethodName := ⟨RX6, "play", "(I)V"⟩
abbrev cX6_isAhead : ByteArray := prog_9_method_7_code
def yX6_isAhead : MethodName := ⟨RX6, "isAhead", "(II)Z"⟩
abbrev cX6_contest : ByteArray := prog_9_method_8_code
def yX6_contest : MethodName := ⟨RX6, "contest", "()I"⟩
abbrev cX6_seatOf : ByteArray := prog_9_method_9_code
def yX6_seatOf : MethodName := ⟨RX6, "seatOf", "(I)I"⟩
abbrev cX6_members : ByteArray := prog_9_method_10_code
def yX6_members : MethodName := ⟨RX6, "members", "(I)I"⟩
def RX7 : String := "BandDayModel"
def TX7 : u_T := fun k => match k with
  | 0 => ("BandDayModel", "thrown", "I", false)
  | 1 => ("BandDayModel", "players", "I", false)
  | 2 => ("BandDayModel", "skill", "[I", true)
  | 3 => ("BandDayModel", "bands", "I", false)
  | 4 => ("BandDayModel", "seats", "[I", true)
  | 5 => ("BandDayModel", "instrument", "[I", true)
  | 6 => ("BandDayModel", "hard", "[I", true)
  | 7 => ("BandDayModel", "weight", "[I", true)
  | 8 => ("BandDayModel", "s", "LBandDayModel$State;", true)
  | _ => ("BandDayModel", "ahead", "LBandDayModel$State;", true)
def tyX7 : Nat → FieldType := fun k => match k with
  | 0 => .int
  | 1 => .int
  | 2 => .array .int
  | 3 => .int
  | 4 => .array .int
  | 5 => .array .int
  | 6 => .array .int
  | 7 => .array .int
  | 8 => .object "BandDayModel$State"
  | _ => .object "BandDayModel$State"
abbrev wsX70 : List Cond := u_ws RX7 TX7 10
theorem nmX7 : ∀ a, a < 10 → ∀ b, b < 10 → a ≠ b → (TX7 a).2.1 ≠ (TX7 b).2.1 := by decide +kernel
theorem tyX7_ok : ∀ k, k < 10 → parseFieldDescriptor (TX7 k).2.2.1 = some (tyX7 k) := by decide +kernel
abbrev cX7_init : ByteArray := prog_8_method_1_code
def yX7_init : MethodName := ⟨RX7, "<init>", "()V"⟩
abbrev cX7_thrown : ByteArray := prog_8_method_2_code
def yX7_thrown : MethodName := ⟨RX7, "thrown", "()I"⟩
abbrev cX7_no : ByteArray := prog_8_method_3_code
def yX7_no : MethodName := ⟨RX7, "no", "(I)I"⟩
abbrev cX7_isIn : ByteArray := prog_8_method_4_code
def yX7_isIn : MethodName := ⟨RX7, "isIn", "(III)Z"⟩
abbrev cX7_isPlayer : ByteArray := prog_8_method_5_code
def yX7_isPlayer : MethodName := ⟨RX7, "isPlayer", "(I)Z"⟩
abbrev cX7_isBand : ByteArray := prog_8_method_6_code
def yX7_isBand : MethodName := ⟨RX7, "isBand", "(I)Z"⟩
abbrev cX7_isSeat : ByteArray := prog_8_method_7_code
def yX7_isSeat : MethodName := ⟨RX7, "isSeat", "(II)Z"⟩
abbrev cX7_addPlayer : ByteArray := prog_8_method_8_code
def yX7_addPlayer : MethodName := ⟨RX7, "addPlayer", "(IIII)I"⟩
abbrev cX7_found : ByteArray := prog_8_method_9_code
def yX7_found : MethodName := ⟨RX7, "found", "(I)I"⟩
abbrev cX7_seat : ByteArray := prog_8_method_10_code
def yX7_seat : MethodName := ⟨RX7, "seat", "(III)I"⟩
abbrev cX7_swap : ByteArray := prog_8_method_11_code
def yX7_swap : MethodName := ⟨RX7, "swap", "(LBandDayModel$State;II)V"⟩
abbrev cX7_change : ByteArray := prog_8_method_12_code
def yX7_change : MethodName := ⟨RX7, "change", "(III)I"⟩
abbrev cX7_absent : ByteArray := prog_8_method_13_code
def yX7_absent : MethodName := ⟨RX7, "absent", "(II)I"⟩
abbrev cX7_rehearse : ByteArray := prog_8_method_14_code
def yX7_rehearse : MethodName := ⟨RX7, "rehearse", "(I)I"⟩
abbrev cX7_setPiece : ByteArray := prog_8_method_15_code
def yX7_setPiece : MethodName := ⟨RX7, "setPiece", "(II)I"⟩
abbrev cX7_setTaste : ByteArray := prog_8_method_16_code
def yX7_setTaste : MethodName := ⟨RX7, "setTaste", "(II)I"⟩
abbrev cX7_playerTold : ByteArray := prog_8_method_17_code
def yX7_playerTold : MethodName := ⟨RX7, "playerTold", "(II)I"⟩
abbrev cX7_player : ByteArray := prog_8_method_18_code
def yX7_player : MethodName := ⟨RX7, "player", "(II)I"⟩
abbrev cX7_bandTold : ByteArray := prog_8_method_19_code
def yX7_bandTold : MethodName := ⟨RX7, "bandTold", "(II)I"⟩
abbrev cX7_band : ByteArray := prog_8_method_20_code
def yX7_band : MethodName := ⟨RX7, "band", "(II)I"⟩
abbrev cX7_chairTold : ByteArray := prog_8_method_21_code
def yX7_chairTold : MethodName := ⟨RX7, "chairTold", "(II)I"⟩
abbrev cX7_chair : ByteArray := prog_8_method_22_code
def yX7_chair : MethodName := ⟨RX7, "chair", "(III)I"⟩
abbrev cX7_contest : ByteArray := prog_8_method_23_code
def yX7_contest : MethodName := ⟨RX7, "contest", "()I"⟩
abbrev cX7_rank : ByteArray := prog_8_method_24_code
def yX7_rank : MethodName := ⟨RX7, "rank", "(I)I"⟩
abbrev cX7_counted : ByteArray := prog_8_method_25_code
def yX7_counted : MethodName := ⟨RX7, "counted", "(I)I"⟩
abbrev cX7_count : ByteArray := prog_8_method_26_code
def yX7_count : MethodName := ⟨RX7, "count", "(I)I"⟩
abbrev cX7_foresee : ByteArray := prog_8_method_27_code
def yX7_foresee : MethodName := ⟨RX7, "foresee", "(III)I"⟩
abbrev cX7_advise : ByteArray := prog_8_method_28_code
def yX7_advise : MethodName := ⟨RX7, "advise", "(I)I"⟩
abbrev cX7_free : ByteArray := prog_8_method_29_code
def yX7_free : MethodName := ⟨RX7, "free", "(I)I"⟩
abbrev cX7_mean : ByteArray := prog_8_method_30_code
def yX7_mean : MethodName := ⟨RX7, "mean", "()D"⟩
abbrev cX7_digest : ByteArray := prog_8_method_31_code
def yX7_digest : MethodName := ⟨RX7, "digest", "()J"⟩
def RJ9 : String := "java/lang/Math"
def TJ9 : u_T := fun k => match k with
  | _ => ("", "", "", false)
def tyJ9 : Nat → FieldType := fun k => match k with
  | _ => .int
abbrev wsJ90 : List Cond := u_ws RJ9 TJ9 0
theorem nmJ9 : ∀ a, a < 0 → ∀ b, b < 0 → a ≠ b → (TJ9 a).2.1 ≠ (TJ9 b).2.1 := by decide +kernel
theorem tyJ9_ok : ∀ k, k < 0 → parseFieldDescriptor (TJ9 k).2.2.1 = some (tyJ9 k) := by decide +kernel
abbrev cJ9_max_7cf53 : ByteArray := prog_14_method_65_code
def yJ9_max_7cf53 : MethodName := ⟨RJ9, "max", "(II)I"⟩
abbrev cJ9_min_7cf53 : ByteArray := prog_14_method_69_code
def yJ9_min_7cf53 : MethodName := ⟨RJ9, "min", "(II)I"⟩
def RJ0 : String := "java/lang/String"
def TJ0 : u_T := fun k => match k with
  | _ => ("", "", "", false)
def tyJ0 : Nat → FieldType := fun k => match k with
  | _ => .int
abbrev wsJ00 : List Cond := u_ws RJ0 TJ0 0
theorem nmJ0 : ∀ a, a < 0 → ∀ b, b < 0 → a ≠ b → (TJ0 a).2.1 ≠ (TJ0 b).2.1 := by decide +kernel
theorem tyJ0_ok : ∀ k, k < 0 → parseFieldDescriptor (TJ0 k).2.2.1 = some (tyJ0 k) := by decide +kernel
def RJ10 : String := "java/lang/System"
def TJ10 : u_T := fun k => match k with
  | _ => ("", "", "", false)
def tyJ10 : Nat → FieldType := fun k => match k with
  | _ => .int
abbrev wsJ100 : List Cond := u_ws RJ10 TJ10 0
theorem nmJ10 : ∀ a, a < 0 → ∀ b, b < 0 → a ≠ b → (TJ10 a).2.1 ≠ (TJ10 b).2.1 := by decide +kernel
theorem tyJ10_ok : ∀ k, k < 0 → parseFieldDescriptor (TJ10 k).2.2.1 = some (tyJ10 k) := by decide +kernel
def RL : String := "BandDayLaw"
abbrev cL_addPlayer : ByteArray := method_3_code
def yL_addPlayer : MethodName := ⟨RL, "addPlayer", "(LBandDay;IIII[J)I"⟩
abbrev cL_found : ByteArray := method_4_code
def yL_found : MethodName := ⟨RL, "found", "(LBandDay;I[J)I"⟩
abbrev cL_seat : ByteArray := method_5_code
def yL_seat : MethodName := ⟨RL, "seat", "(LBandDay;III[J)I"⟩
abbrev cL_change : ByteArray := method_6_code
def yL_change : MethodName := ⟨RL, "change", "(LBandDay;III[J)I"⟩
abbrev cL_absent : ByteArray := method_7_code
def yL_absent : MethodName := ⟨RL, "absent", "(LBandDay;II[J)I"⟩
abbrev cL_rehearse : ByteArray := method_8_code
def yL_rehearse : MethodName := ⟨RL, "rehearse", "(LBandDay;I[J)I"⟩
abbrev cL_setPiece : ByteArray := method_9_code
def yL_setPiece : MethodName := ⟨RL, "setPiece", "(LBandDay;II[J)I"⟩
abbrev cL_setTaste : ByteArray := method_10_code
def yL_setTaste : MethodName := ⟨RL, "setTaste", "(LBandDay;II[J)I"⟩
abbrev cL_player : ByteArray := method_11_code
def yL_player : MethodName := ⟨RL, "player", "(LBandDay;II[J)I"⟩
abbrev cL_band : ByteArray := method_12_code
def yL_band : MethodName := ⟨RL, "band", "(LBandDay;II[J)I"⟩
abbrev cL_chair : ByteArray := method_13_code
def yL_chair : MethodName := ⟨RL, "chair", "(LBandDay;III[J)I"⟩
abbrev cL_contest : ByteArray := method_14_code
def yL_contest : MethodName := ⟨RL, "contest", "(LBandDay;[J)I"⟩
abbrev cL_rank : ByteArray := method_15_code
def yL_rank : MethodName := ⟨RL, "rank", "(LBandDay;I[J)I"⟩
abbrev cL_count : ByteArray := method_16_code
def yL_count : MethodName := ⟨RL, "count", "(LBandDay;I[J)I"⟩
abbrev cL_foresee : ByteArray := method_17_code
def yL_foresee : MethodName := ⟨RL, "foresee", "(LBandDay;III[J)I"⟩
abbrev cL_advise : ByteArray := method_18_code
def yL_advise : MethodName := ⟨RL, "advise", "(LBandDay;I[J)I"⟩
abbrev cL_free : ByteArray := method_19_code
def yL_free : MethodName := ⟨RL, "free", "(LBandDay;I[J)I"⟩
abbrev cL_law : ByteArray := code
def yL_law : MethodName := ⟨RL, "law", "([I)Z"⟩
def wsL_law0_r1 : List Cond := [Cond.classLink RL 8 RX5, Cond.instantiable RX5 4, Cond.initialized RX5, Cond.classLink RL 72 RX7, Cond.instantiable RX7 10, Cond.initialized RX7, Cond.arrayClass .long, Cond.methodLink RL 71 yX5_init, Cond.instanceMethod yX5_init, Cond.code yX5_init cX5_init 1 none, Cond.methodLink RX5 1 objectInit, Cond.instanceMethod objectInit, Cond.code objectInit ⟨#[0xb1]⟩ 1 none, Cond.classLink RX5 7 RX4, Cond.instantiable RX4 9, Cond.initialized RX4, Cond.fieldLink RX5 10 "BandDay" "season" "LBandDay$Season;", Cond.classLink RX5 16 RX2, Cond.instantiable RX2 1, Cond.initialized RX2, Cond.fieldLink RX5 21 "BandDay" "contest" "LBandDay$Contest;", Cond.fieldLink RX5 25 "BandDay" "trial" "LBandDay$Season;", Cond.fieldLink RX5 28 "BandDay" "trialContest" "LBandDay$Contest;", Cond.methodLink RX5 9 yX4_init]
def wsL_law0_r2 : List Cond := [Cond.instanceMethod yX4_init, Cond.code yX4_init cX4_init 2 none, Cond.methodLink RX4 3 objectInit, Cond.classLink RX4 9 RX3, Cond.fieldLink RX4 11 "BandDay$Season" "players" "[LBandDay$Player;", Cond.classLink RX4 17 RX0, Cond.fieldLink RX4 19 "BandDay$Season" "bands" "[LBandDay$Band;", Cond.arrayClass .int, Cond.fieldLink RX4 23 "BandDay$Season" "hard" "[I", Cond.fieldLink RX4 27 "BandDay$Season" "weight" "[I", Cond.instantiable RX3 9, Cond.initialized RX3, Cond.instantiable RX0 9, Cond.initialized RX0, Cond.instanceMethod yX3_init, Cond.code yX3_init cX3_init 1 none, Cond.methodLink RX3 3 objectInit, Cond.fieldLink RX3 9 "BandDay$Player" "skills" "[I", Cond.fieldLink RX3 15 "BandDay$Player" "band" "I", Cond.fieldLink RX3 19 "BandDay$Player" "seat" "I", Cond.methodLink RX4 31 yX0_init, Cond.instanceMethod yX0_init, Cond.code yX0_init cX0_init 2 none, Cond.methodLink RX0 3 objectInit]
def wsL_law0_r3 : List Cond := [Cond.classLink RX0 9 RX1, Cond.fieldLink RX0 11 "BandDay$Band" "chairs" "[LBandDay$Chair;", Cond.fieldLink RX0 17 "BandDay$Band" "marks" "I", Cond.fieldLink RX0 21 "BandDay$Band" "place" "I", Cond.fieldLink RX0 24 "BandDay$Band" "deputies" "I", Cond.fieldLink RX0 27 "BandDay$Band" "empties" "I", Cond.instantiable RX1 3, Cond.initialized RX1, Cond.instanceMethod yX1_init, Cond.code yX1_init cX1_init 1 none, Cond.methodLink RX1 3 objectInit, Cond.fieldLink RX1 9 "BandDay$Chair" "member" "I", Cond.fieldLink RX1 15 "BandDay$Chair" "sitter" "I", Cond.methodLink RX5 18 yX2_init, Cond.instanceMethod yX2_init, Cond.code yX2_init cX2_init 2 none, Cond.methodLink RX2 3 objectInit, Cond.fieldLink RX2 9 "BandDay$Contest" "season" "LBandDay$Season;", Cond.methodLink RL 74 yX7_init, Cond.instanceMethod yX7_init, Cond.code yX7_init cX7_init 1 none, Cond.methodLink RX7 1 objectInit, Cond.fieldLink RX7 9 "BandDayModel" "skill" "[I", Cond.fieldLink RX7 13 "BandDayModel" "seats" "[I"]
def wsL_law0_r4 : List Cond := [Cond.fieldLink RX7 16 "BandDayModel" "instrument" "[I", Cond.fieldLink RX7 19 "BandDayModel" "hard" "[I", Cond.fieldLink RX7 22 "BandDayModel" "weight" "[I", Cond.classLink RX7 25 RX6, Cond.instantiable RX6 15, Cond.initialized RX6, Cond.fieldLink RX7 30 "BandDayModel" "s" "LBandDayModel$State;", Cond.fieldLink RX7 34 "BandDayModel" "ahead" "LBandDayModel$State;", Cond.instanceMethod yX6_init, Cond.code yX6_init cX6_init 2 none, Cond.fieldLink RX6 3 "BandDayModel$State" "this$0" "LBandDayModel;", Cond.methodLink RX6 9 objectInit, Cond.fieldLink RX6 15 "BandDayModel$State" "tired" "[I", Cond.fieldLink RX6 19 "BandDayModel$State" "absent" "[I", Cond.fieldLink RX6 22 "BandDayModel$State" "sat" "[I", Cond.fieldLink RX6 25 "BandDayModel$State" "deputy" "[I", Cond.fieldLink RX6 28 "BandDayModel$State" "member" "[I", Cond.fieldLink RX6 31 "BandDayModel$State" "who" "[I", Cond.fieldLink RX6 34 "BandDayModel$State" "spirit" "[I", Cond.fieldLink RX6 37 "BandDayModel$State" "points" "[I", Cond.fieldLink RX6 40 "BandDayModel$State" "outs" "[I", Cond.fieldLink RX6 43 "BandDayModel$State" "latest" "[I", Cond.fieldLink RX6 46 "BandDayModel$State" "times" "[I", Cond.methodLink RL 75 yL_addPlayer]
def wsL_law0_r5 : List Cond := [Cond.static yL_addPlayer, Cond.initialized RL, Cond.codeWith yL_addPlayer cL_addPlayer 7 (some .int) [(0, 14, 17, 13), (0, 14, 21, 15)], Cond.classLink RL 13 "java/lang/IllegalArgumentException", Cond.classLink RL 15 "java/lang/IllegalStateException", Cond.methodLink RL 7 yX5_addPlayer, Cond.instanceMethod yX5_addPlayer, Cond.selects RX5 yX5_addPlayer yX5_addPlayer, Cond.code yX5_addPlayer cX5_addPlayer 5 (some .int), Cond.classLink RX5 35 "java/lang/IllegalArgumentException", Cond.initialized "java/lang/IllegalArgumentException", Cond.classLink RX5 46 "java/lang/IllegalStateException", Cond.initialized "java/lang/IllegalStateException", Cond.fieldLink RX5 42 "BandDay$Season" "playerCount" "I", Cond.methodLink RX5 31 yX5_isSkill, Cond.static yX5_isSkill, Cond.code yX5_isSkill cX5_isSkill 1 (some .boolean), Cond.methodLink RX5 51 yX4_enrol, Cond.instanceMethod yX4_enrol, Cond.selects RX4 yX4_enrol yX4_enrol, Cond.code yX4_enrol cX4_enrol 6 (some .int), Cond.fieldLink RX4 32 "BandDay$Season" "playerCount" "I", Cond.fieldLink RX4 69 "BandDay$Player" "skills" "[I", Cond.methodLink RL 80 yX7_addPlayer]
def wsL_law0_r6 : List Cond := [Cond.instanceMethod yX7_addPlayer, Cond.selects RX7 yX7_addPlayer yX7_addPlayer, Cond.code yX7_addPlayer cX7_addPlayer 6 (some .int), Cond.fieldLink RX7 37 "BandDayModel" "thrown" "I", Cond.fieldLink RX7 41 "BandDayModel" "players" "I", Cond.methodLink RX7 59 arraycopyName, Cond.native arraycopyName, Cond.static arraycopyName, Cond.initialized "java/lang/System", Cond.methodLink RX7 44 yX7_isIn, Cond.static yX7_isIn, Cond.code yX7_isIn cX7_isIn 3 (some .boolean), Cond.methodLink RX7 55 yX7_no, Cond.instanceMethod yX7_no, Cond.selects RX7 yX7_no yX7_no, Cond.code yX7_no cX7_no 2 (some .int), Cond.methodLink RL 81 yX7_thrown, Cond.instanceMethod yX7_thrown, Cond.selects RX7 yX7_thrown yX7_thrown, Cond.code yX7_thrown cX7_thrown 1 (some .int), Cond.methodLink RL 84 yL_found, Cond.static yL_found, Cond.codeWith yL_found cL_found 4 (some .int) [(0, 9, 12, 13), (0, 9, 15, 15)], Cond.methodLink RL 17 yX5_found]
def wsL_law0_r7 : List Cond := [Cond.instanceMethod yX5_found, Cond.selects RX5 yX5_found yX5_found, Cond.code yX5_found cX5_found 3 (some .int), Cond.fieldLink RX5 61 "BandDay$Season" "bandCount" "I", Cond.methodLink RX5 55 yX5_seatsIn, Cond.static yX5_seatsIn, Cond.code yX5_seatsIn cX5_seatsIn 4 (some .int), Cond.methodLink RX5 66 yX4_open, Cond.instanceMethod yX4_open, Cond.selects RX4 yX4_open yX4_open, Cond.code yX4_open cX4_open 3 (some .int), Cond.fieldLink RX4 40 "BandDay$Season" "bandCount" "I", Cond.methodLink RX4 72 yX0_furnish, Cond.instanceMethod yX0_furnish, Cond.selects RX0 yX0_furnish yX0_furnish, Cond.code yX0_furnish cX0_furnish 5 none, Cond.methodLink RX0 47 Lib.Math.min.name, Cond.static Lib.Math.min.name, Cond.initialized "java/lang/Math", Cond.code Lib.Math.min.name Lib.Math.min.code 2 (some .int), Cond.fieldLink RX0 31 "BandDay$Band" "size" "I", Cond.fieldLink RX0 53 "BandDay$Chair" "instrument" "I", Cond.methodLink RL 87 yX7_found, Cond.instanceMethod yX7_found]
def wsL_law0_r8 : List Cond := [Cond.selects RX7 yX7_found yX7_found, Cond.code yX7_found cX7_found 6 (some .int), Cond.constant RX7 65 (100000000), Cond.fieldLink RX7 48 "BandDayModel" "bands" "I", Cond.methodLink RL 88 yL_seat, Cond.static yL_seat, Cond.codeWith yL_seat cL_seat 6 (some .int) [(0, 12, 15, 25), (0, 12, 19, 15)], Cond.classLink RL 25 "java/lang/IndexOutOfBoundsException", Cond.methodLink RL 21 yX5_seat, Cond.instanceMethod yX5_seat, Cond.selects RX5 yX5_seat yX5_seat, Cond.code yX5_seat cX5_seat 6 (some .int), Cond.fieldLink RX5 78 "BandDay$Chair" "member" "I", Cond.methodLink RX5 70 yX5_needChair, Cond.instanceMethod yX5_needChair, Cond.selects RX5 yX5_needChair yX5_needChair, Cond.code yX5_needChair cX5_needChair 4 (some (.object "BandDay$Chair")), Cond.classLink RX5 148 "java/lang/IndexOutOfBoundsException", Cond.initialized "java/lang/IndexOutOfBoundsException", Cond.methodLink RX5 103 yX5_needBand, Cond.instanceMethod yX5_needBand, Cond.selects RX5 yX5_needBand yX5_needBand, Cond.code yX5_needBand cX5_needBand 3 (some (.object "BandDay$Band")), Cond.methodLink RX5 162 yX4_bandAt]
def wsL_law0_r9 : List Cond := [Cond.instanceMethod yX4_bandAt, Cond.selects RX4 yX4_bandAt yX4_bandAt, Cond.code yX4_bandAt cX4_bandAt 2 (some (.object "BandDay$Band")), Cond.methodLink RX5 196 yX0_chairAt, Cond.instanceMethod yX0_chairAt, Cond.selects RX0 yX0_chairAt yX0_chairAt, Cond.code yX0_chairAt cX0_chairAt 2 (some (.object "BandDay$Chair")), Cond.methodLink RX5 74 yX5_needPlayer, Cond.instanceMethod yX5_needPlayer, Cond.selects RX5 yX5_needPlayer yX5_needPlayer, Cond.code yX5_needPlayer cX5_needPlayer 3 (some (.object "BandDay$Player")), Cond.methodLink RX5 189 yX4_playerAt, Cond.instanceMethod yX4_playerAt, Cond.selects RX4 yX4_playerAt yX4_playerAt, Cond.code yX4_playerAt cX4_playerAt 2 (some (.object "BandDay$Player")), Cond.methodLink RX5 85 yX4_leave, Cond.instanceMethod yX4_leave, Cond.selects RX4 yX4_leave yX4_leave, Cond.code yX4_leave cX4_leave 4 none, Cond.fieldLink RX4 80 "BandDay$Player" "band" "I", Cond.fieldLink RX4 83 "BandDay$Player" "seat" "I", Cond.fieldLink RX4 89 "BandDay$Chair" "member" "I", Cond.methodLink RX4 76 yX4_playerAt, Cond.methodLink RX4 86 yX4_chairAt]
def wsL_law0_r10 : List Cond := [Cond.instanceMethod yX4_chairAt, Cond.selects RX4 yX4_chairAt yX4_chairAt, Cond.code yX4_chairAt cX4_chairAt 4 (some (.object "BandDay$Chair")), Cond.methodLink RX4 61 yX4_bandAt, Cond.methodLink RX4 65 yX0_chairAt, Cond.methodLink RX5 89 yX4_putOn, Cond.instanceMethod yX4_putOn, Cond.selects RX4 yX4_putOn yX4_putOn, Cond.code yX4_putOn cX4_putOn 6 none, Cond.methodLink RL 91 yX7_seat, Cond.instanceMethod yX7_seat, Cond.selects RX7 yX7_seat yX7_seat, Cond.code yX7_seat cX7_seat 7 (some .int), Cond.methodLink RX7 75 yX7_isSeat, Cond.instanceMethod yX7_isSeat, Cond.selects RX7 yX7_isSeat yX7_isSeat, Cond.code yX7_isSeat cX7_isSeat 3 (some .boolean), Cond.methodLink RX7 51 yX7_isBand, Cond.instanceMethod yX7_isBand, Cond.selects RX7 yX7_isBand yX7_isBand, Cond.code yX7_isBand cX7_isBand 2 (some .boolean), Cond.methodLink RX7 79 yX7_isPlayer, Cond.instanceMethod yX7_isPlayer, Cond.selects RX7 yX7_isPlayer yX7_isPlayer]
def wsL_law0_r11 : List Cond := [Cond.code yX7_isPlayer cX7_isPlayer 2 (some .boolean), Cond.methodLink RX7 82 yX6_seatOf, Cond.instanceMethod yX6_seatOf, Cond.selects RX6 yX6_seatOf yX6_seatOf, Cond.code yX6_seatOf cX6_seatOf 3 (some .int), Cond.methodLink RL 92 yL_change, Cond.static yL_change, Cond.codeWith yL_change cL_change 6 (some .int) [(0, 12, 15, 25)], Cond.methodLink RL 27 yX5_change, Cond.instanceMethod yX5_change, Cond.selects RX5 yX5_change yX5_change, Cond.code yX5_change cX5_change 5 (some .int), Cond.methodLink RX5 93 yX4_swapMembers, Cond.instanceMethod yX4_swapMembers, Cond.selects RX4 yX4_swapMembers yX4_swapMembers, Cond.code yX4_swapMembers cX4_swapMembers 8 none, Cond.methodLink RX4 94 yX4_putOn, Cond.methodLink RL 94 yX7_change, Cond.instanceMethod yX7_change, Cond.selects RX7 yX7_change yX7_change, Cond.code yX7_change cX7_change 4 (some .int), Cond.methodLink RX7 85 yX7_swap, Cond.static yX7_swap, Cond.code yX7_swap cX7_swap 4 none]
def wsL_law0_r12 : List Cond := [Cond.methodLink RL 95 yL_absent, Cond.static yL_absent, Cond.codeWith yL_absent cL_absent 5 (some .int) [(0, 10, 13, 25), (0, 10, 17, 13)], Cond.methodLink RL 30 yX5_absent, Cond.instanceMethod yX5_absent, Cond.selects RX5 yX5_absent yX5_absent, Cond.code yX5_absent cX5_absent 5 (some .int), Cond.fieldLink RX5 98 "BandDay$Player" "absences" "I", Cond.methodLink RL 98 yX7_absent, Cond.instanceMethod yX7_absent, Cond.selects RX7 yX7_absent yX7_absent, Cond.code yX7_absent cX7_absent 4 (some .int), Cond.methodLink RL 99 yL_rehearse, Cond.static yL_rehearse, Cond.codeWith yL_rehearse cL_rehearse 4 (some .int) [(0, 9, 12, 25)], Cond.methodLink RL 34 yX5_rehearse, Cond.instanceMethod yX5_rehearse, Cond.selects RX5 yX5_rehearse yX5_rehearse, Cond.code yX5_rehearse cX5_rehearse 3 (some .int), Cond.fieldLink RX5 116 "BandDay$Band" "spirit" "I", Cond.methodLink RX5 107 yX0_raiseSpirit, Cond.instanceMethod yX0_raiseSpirit, Cond.selects RX0 yX0_raiseSpirit yX0_raiseSpirit, Cond.code yX0_raiseSpirit cX0_raiseSpirit 2 none]
def wsL_law0_r13 : List Cond := [Cond.fieldLink RX0 38 "BandDay$Band" "spirit" "I", Cond.methodLink RX0 56 Lib.Math.max.name, Cond.static Lib.Math.max.name, Cond.code Lib.Math.max.name Lib.Math.max.code 2 (some .int), Cond.methodLink RX5 112 yX4_tireMembers, Cond.instanceMethod yX4_tireMembers, Cond.selects RX4 yX4_tireMembers yX4_tireMembers, Cond.code yX4_tireMembers cX4_tireMembers 5 none, Cond.fieldLink RX4 98 "BandDay$Band" "size" "I", Cond.fieldLink RX4 101 "BandDay$Band" "chairs" "[LBandDay$Chair;", Cond.methodLink RX4 105 yX3_isThere, Cond.instanceMethod yX3_isThere, Cond.selects RX3 yX3_isThere yX3_isThere, Cond.code yX3_isThere cX3_isThere 1 (some .boolean), Cond.fieldLink RX3 31 "BandDay$Player" "absences" "I", Cond.methodLink RX4 109 yX3_tire, Cond.instanceMethod yX3_tire, Cond.selects RX3 yX3_tire yX3_tire, Cond.code yX3_tire cX3_tire 2 none, Cond.fieldLink RX3 28 "BandDay$Player" "tired" "I", Cond.methodLink RX3 47 Lib.Math.min.name, Cond.methodLink RL 101 yX7_rehearse, Cond.instanceMethod yX7_rehearse, Cond.selects RX7 yX7_rehearse yX7_rehearse]
def wsL_law0_r14 : List Cond := [Cond.code yX7_rehearse cX7_rehearse 4 (some .int), Cond.methodLink RX7 95 Lib.Math.min.name, Cond.methodLink RL 102 yL_setPiece, Cond.static yL_setPiece, Cond.codeWith yL_setPiece cL_setPiece 5 (some .int) [(0, 10, 13, 25), (0, 10, 17, 13)], Cond.methodLink RL 37 yX5_setPiece, Cond.instanceMethod yX5_setPiece, Cond.selects RX5 yX5_setPiece yX5_setPiece, Cond.code yX5_setPiece cX5_setPiece 4 (some .int), Cond.fieldLink RX5 124 "BandDay$Season" "hard" "[I", Cond.methodLink RX5 119 yX5_needInstrument, Cond.static yX5_needInstrument, Cond.code yX5_needInstrument cX5_needInstrument 1 none, Cond.methodLink RL 104 yX7_setPiece, Cond.instanceMethod yX7_setPiece, Cond.selects RX7 yX7_setPiece yX7_setPiece, Cond.code yX7_setPiece cX7_setPiece 4 (some .int), Cond.methodLink RL 105 yL_setTaste, Cond.static yL_setTaste, Cond.codeWith yL_setTaste cL_setTaste 5 (some .int) [(0, 10, 13, 25), (0, 10, 17, 13)], Cond.methodLink RL 40 yX5_setTaste, Cond.instanceMethod yX5_setTaste, Cond.selects RX5 yX5_setTaste yX5_setTaste, Cond.code yX5_setTaste cX5_setTaste 4 (some .int)]
def wsL_law0_r15 : List Cond := [Cond.fieldLink RX5 130 "BandDay$Season" "weight" "[I", Cond.methodLink RL 107 yX7_setTaste, Cond.instanceMethod yX7_setTaste, Cond.selects RX7 yX7_setTaste yX7_setTaste, Cond.code yX7_setTaste cX7_setTaste 4 (some .int), Cond.methodLink RL 108 yL_player, Cond.static yL_player, Cond.codeWith yL_player cL_player 5 (some .int) [(0, 10, 13, 25)], Cond.methodLink RL 43 yX5_player, Cond.instanceMethod yX5_player, Cond.selects RX5 yX5_player yX5_player, Cond.code yX5_player cX5_player 4 (some .int), Cond.methodLink RX5 133 yX5_needWhat, Cond.static yX5_needWhat, Cond.code yX5_needWhat cX5_needWhat 2 none, Cond.methodLink RX5 137 yX3_tell, Cond.instanceMethod yX3_tell, Cond.selects RX3 yX3_tell yX3_tell, Cond.code yX3_tell cX3_tell 2 (some .int), Cond.fieldLink RX3 34 "BandDay$Player" "sittings" "I", Cond.fieldLink RX3 37 "BandDay$Player" "deputySittings" "I", Cond.methodLink RX3 56 yX3_skillFor, Cond.instanceMethod yX3_skillFor, Cond.selects RX3 yX3_skillFor yX3_skillFor]
def wsL_law0_r16 : List Cond := [Cond.code yX3_skillFor cX3_skillFor 2 (some .int), Cond.methodLink RL 110 yX7_player, Cond.instanceMethod yX7_player, Cond.selects RX7 yX7_player yX7_player, Cond.code yX7_player cX7_player 3 (some .int), Cond.methodLink RX7 110 yX7_playerTold, Cond.instanceMethod yX7_playerTold, Cond.selects RX7 yX7_playerTold yX7_playerTold, Cond.code yX7_playerTold cX7_playerTold 4 (some .int), Cond.methodLink RL 111 yL_band, Cond.static yL_band, Cond.codeWith yL_band cL_band 5 (some .int) [(0, 10, 13, 25)], Cond.methodLink RL 46 yX5_band, Cond.instanceMethod yX5_band, Cond.selects RX5 yX5_band yX5_band, Cond.code yX5_band cX5_band 4 (some .int), Cond.methodLink RX5 140 yX0_tell, Cond.instanceMethod yX0_tell, Cond.selects RX0 yX0_tell yX0_tell, Cond.code yX0_tell cX0_tell 2 (some .int), Cond.fieldLink RX0 41 "BandDay$Band" "points" "I", Cond.fieldLink RX0 44 "BandDay$Band" "outs" "I", Cond.methodLink RX0 72 yX0_members, Cond.instanceMethod yX0_members]
def wsL_law0_r17 : List Cond := [Cond.selects RX0 yX0_members yX0_members, Cond.code yX0_members cX0_members 3 (some .int), Cond.fieldLink RX0 59 "BandDay$Chair" "member" "I", Cond.methodLink RL 113 yX7_band, Cond.instanceMethod yX7_band, Cond.selects RX7 yX7_band yX7_band, Cond.code yX7_band cX7_band 3 (some .int), Cond.methodLink RX7 122 yX7_bandTold, Cond.instanceMethod yX7_bandTold, Cond.selects RX7 yX7_bandTold yX7_bandTold, Cond.code yX7_bandTold cX7_bandTold 4 (some .int), Cond.methodLink RX7 113 yX6_members, Cond.instanceMethod yX6_members, Cond.selects RX6 yX6_members yX6_members, Cond.code yX6_members cX6_members 4 (some .int), Cond.methodLink RL 114 yL_chair, Cond.static yL_chair, Cond.codeWith yL_chair cL_chair 6 (some .int) [(0, 12, 15, 25)], Cond.methodLink RL 49 yX5_chair, Cond.instanceMethod yX5_chair, Cond.selects RX5 yX5_chair yX5_chair, Cond.code yX5_chair cX5_chair 5 (some .int), Cond.methodLink RX5 141 yX1_tell, Cond.instanceMethod yX1_tell]
def wsL_law0_r18 : List Cond := [Cond.selects RX1 yX1_tell yX1_tell, Cond.code yX1_tell cX1_tell 2 (some .int), Cond.fieldLink RX1 18 "BandDay$Chair" "instrument" "I", Cond.methodLink RL 116 yX7_chair, Cond.instanceMethod yX7_chair, Cond.selects RX7 yX7_chair yX7_chair, Cond.code yX7_chair cX7_chair 4 (some .int), Cond.methodLink RX7 125 yX7_chairTold, Cond.instanceMethod yX7_chairTold, Cond.selects RX7 yX7_chairTold yX7_chairTold, Cond.code yX7_chairTold cX7_chairTold 3 (some .int), Cond.methodLink RL 117 yL_contest, Cond.static yL_contest, Cond.codeWith yL_contest cL_contest 3 (some .int) [(0, 8, 11, 15)], Cond.methodLink RL 52 yX5_contest, Cond.instanceMethod yX5_contest, Cond.selects RX5 yX5_contest yX5_contest, Cond.code yX5_contest cX5_contest 1 (some .int), Cond.methodLink RX5 144 yX2_hold, Cond.instanceMethod yX2_hold, Cond.selects RX2 yX2_hold yX2_hold, Cond.code yX2_hold cX2_hold 4 (some .int), Cond.fieldLink RX2 18 "BandDay$Season" "bandCount" "I", Cond.fieldLink RX2 36 "BandDay$Season" "bands" "[LBandDay$Band;"]
def wsL_law0_r19 : List Cond := [Cond.fieldLink RX2 51 "BandDay$Season" "playerCount" "I", Cond.fieldLink RX2 54 "BandDay$Season" "players" "[LBandDay$Player;", Cond.fieldLink RX2 58 "BandDay$Player" "absences" "I", Cond.methodLink RX2 63 Lib.Math.max.name, Cond.fieldLink RX2 69 "BandDay$Season" "contests" "I", Cond.methodLink RX2 15 yX2_forgetDeputies, Cond.instanceMethod yX2_forgetDeputies, Cond.selects RX2 yX2_forgetDeputies yX2_forgetDeputies, Cond.code yX2_forgetDeputies cX2_forgetDeputies 2 none, Cond.fieldLink RX2 87 "BandDay$Player" "deputyToday" "I", Cond.methodLink RX2 24 yX2_bandInTurn, Cond.instanceMethod yX2_bandInTurn, Cond.selects RX2 yX2_bandInTurn yX2_bandInTurn, Cond.code yX2_bandInTurn cX2_bandInTurn 3 (some .int), Cond.methodLink RX2 28 yX2_play, Cond.instanceMethod yX2_play, Cond.selects RX2 yX2_play yX2_play, Cond.code yX2_play cX2_play 3 none, Cond.fieldLink RX2 90 "BandDay$Band" "marks" "I", Cond.fieldLink RX2 93 "BandDay$Band" "deputies" "I", Cond.fieldLink RX2 99 "BandDay$Band" "empties" "I", Cond.fieldLink RX2 106 "BandDay$Band" "outs" "I", Cond.fieldLink RX2 109 "BandDay$Season" "deputies" "I", Cond.fieldLink RX2 110 "BandDay$Season" "empties" "I"]
def wsL_law0_r20 : List Cond := [Cond.methodLink RX2 72 yX4_bandAt, Cond.methodLink RX2 76 yX2_marksOnceSeated, Cond.instanceMethod yX2_marksOnceSeated, Cond.selects RX2 yX2_marksOnceSeated yX2_marksOnceSeated, Cond.code yX2_marksOnceSeated cX2_marksOnceSeated 3 (some .int), Cond.fieldLink RX2 118 "BandDay$Player" "sits" "Z", Cond.methodLink RX2 122 yX2_seatMembers, Cond.instanceMethod yX2_seatMembers, Cond.selects RX2 yX2_seatMembers yX2_seatMembers, Cond.code yX2_seatMembers cX2_seatMembers 5 none, Cond.fieldLink RX2 80 "BandDay$Band" "size" "I", Cond.fieldLink RX2 131 "BandDay$Band" "chairs" "[LBandDay$Chair;", Cond.fieldLink RX2 135 "BandDay$Chair" "member" "I", Cond.fieldLink RX2 144 "BandDay$Chair" "sitter" "I", Cond.methodLink RX2 140 yX4_playerAt, Cond.methodLink RX2 147 yX3_isThere, Cond.methodLink RX2 125 yX2_seatDeputies, Cond.instanceMethod yX2_seatDeputies, Cond.selects RX2 yX2_seatDeputies yX2_seatDeputies, Cond.code yX2_seatDeputies cX2_seatDeputies 5 none, Cond.methodLink RX2 151 yX1_isEmpty, Cond.instanceMethod yX1_isEmpty, Cond.selects RX1 yX1_isEmpty yX1_isEmpty, Cond.code yX1_isEmpty cX1_isEmpty 1 (some .boolean)]
def wsL_law0_r21 : List Cond := [Cond.methodLink RX2 154 yX2_deputyFor, Cond.instanceMethod yX2_deputyFor, Cond.selects RX2 yX2_deputyFor yX2_deputyFor, Cond.code yX2_deputyFor cX2_deputyFor 12 (some .int), Cond.fieldLink RX2 158 "BandDay$Chair" "instrument" "I", Cond.fieldLink RX2 167 "BandDay$Player" "tired" "I", Cond.methodLink RX2 161 yX3_skillFor, Cond.methodLink RX2 164 yX3_mayBeDeputy, Cond.instanceMethod yX3_mayBeDeputy, Cond.selects RX3 yX3_mayBeDeputy yX3_mayBeDeputy, Cond.code yX3_mayBeDeputy cX3_mayBeDeputy 1 (some .boolean), Cond.fieldLink RX3 40 "BandDay$Player" "sits" "Z", Cond.fieldLink RX3 44 "BandDay$Player" "deputyToday" "I", Cond.methodLink RX2 102 yX2_isOut, Cond.instanceMethod yX2_isOut, Cond.selects RX2 yX2_isOut yX2_isOut, Cond.code yX2_isOut cX2_isOut 2 (some .boolean), Cond.methodLink RX2 45 yX0_deputiesSitting, Cond.instanceMethod yX0_deputiesSitting, Cond.selects RX0 yX0_deputiesSitting yX0_deputiesSitting, Cond.code yX0_deputiesSitting cX0_deputiesSitting 3 (some .int), Cond.methodLink RX0 66 yX1_hasDeputy, Cond.instanceMethod yX1_hasDeputy, Cond.selects RX1 yX1_hasDeputy yX1_hasDeputy]
def wsL_law0_r22 : List Cond := [Cond.code yX1_hasDeputy cX1_hasDeputy 1 (some .boolean), Cond.methodLink RX2 128 yX2_marksAsSeated, Cond.instanceMethod yX2_marksAsSeated, Cond.selects RX2 yX2_marksAsSeated yX2_marksAsSeated, Cond.code yX2_marksAsSeated cX2_marksAsSeated 6 (some .int), Cond.fieldLink RX2 170 "BandDay$Band" "spirit" "I", Cond.methodLink RX2 173 yX2_marksFor, Cond.instanceMethod yX2_marksFor, Cond.selects RX2 yX2_marksFor yX2_marksFor, Cond.code yX2_marksFor cX2_marksFor 4 (some .int), Cond.methodLink RX2 180 yX4_hardFor, Cond.instanceMethod yX4_hardFor, Cond.selects RX4 yX4_hardFor yX4_hardFor, Cond.code yX4_hardFor cX4_hardFor 2 (some .int), Cond.methodLink RX2 183 yX4_weightFor, Cond.instanceMethod yX4_weightFor, Cond.selects RX4 yX4_weightFor yX4_weightFor, Cond.code yX4_weightFor cX4_weightFor 2 (some .int), Cond.methodLink RX2 177 yX1_hasOwn, Cond.instanceMethod yX1_hasOwn, Cond.selects RX1 yX1_hasOwn yX1_hasOwn, Cond.code yX1_hasOwn cX1_hasOwn 1 (some .boolean), Cond.methodLink RX2 96 yX0_emptyChairs, Cond.instanceMethod yX0_emptyChairs]
def wsL_law0_r23 : List Cond := [Cond.selects RX0 yX0_emptyChairs yX0_emptyChairs, Cond.code yX0_emptyChairs cX0_emptyChairs 3 (some .int), Cond.methodLink RX0 69 yX1_isEmpty, Cond.methodLink RX2 111 yX2_noteSittings, Cond.instanceMethod yX2_noteSittings, Cond.selects RX2 yX2_noteSittings yX2_noteSittings, Cond.code yX2_noteSittings cX2_noteSittings 5 none, Cond.fieldLink RX2 186 "BandDay$Player" "sittings" "I", Cond.fieldLink RX2 192 "BandDay$Player" "deputySittings" "I", Cond.methodLink RX2 189 yX1_hasDeputy, Cond.methodLink RX2 115 yX2_moveLips, Cond.instanceMethod yX2_moveLips, Cond.selects RX2 yX2_moveLips yX2_moveLips, Cond.code yX2_moveLips cX2_moveLips 3 none, Cond.methodLink RX2 195 yX3_tire, Cond.methodLink RX2 198 yX3_rest, Cond.instanceMethod yX3_rest, Cond.selects RX3 yX3_rest yX3_rest, Cond.code yX3_rest cX3_rest 2 none, Cond.methodLink RX3 53 Lib.Math.max.name, Cond.methodLink RX2 32 yX2_givePlaces, Cond.instanceMethod yX2_givePlaces, Cond.selects RX2 yX2_givePlaces yX2_givePlaces, Cond.code yX2_givePlaces cX2_givePlaces 4 (some .int)]
def wsL_law0_r24 : List Cond := [Cond.fieldLink RX2 204 "BandDay$Band" "place" "I", Cond.fieldLink RX2 207 "BandDay$Band" "points" "I", Cond.methodLink RX2 201 yX2_aheadByMarks, Cond.instanceMethod yX2_aheadByMarks, Cond.selects RX2 yX2_aheadByMarks yX2_aheadByMarks, Cond.code yX2_aheadByMarks cX2_aheadByMarks 4 (some .int), Cond.methodLink RX2 213 yX2_isAhead, Cond.instanceMethod yX2_isAhead, Cond.selects RX2 yX2_isAhead yX2_isAhead, Cond.code yX2_isAhead cX2_isAhead 5 (some .boolean), Cond.methodLink RX2 210 yX2_pointsFor, Cond.static yX2_pointsFor, Cond.code yX2_pointsFor cX2_pointsFor 1 (some .int), Cond.methodLink RX2 40 yX0_ownSitting, Cond.instanceMethod yX0_ownSitting, Cond.selects RX0 yX0_ownSitting yX0_ownSitting, Cond.code yX0_ownSitting cX0_ownSitting 3 (some .int), Cond.methodLink RX0 62 yX1_hasOwn, Cond.methodLink RX2 48 yX0_raiseSpirit, Cond.methodLink RL 120 yX7_contest, Cond.instanceMethod yX7_contest, Cond.selects RX7 yX7_contest yX7_contest, Cond.code yX7_contest cX7_contest 1 (some .int), Cond.methodLink RX7 128 yX6_contest]
def wsL_law0_r25 : List Cond := [Cond.instanceMethod yX6_contest, Cond.selects RX6 yX6_contest yX6_contest, Cond.code yX6_contest cX6_contest 6 (some .int), Cond.fieldLink RX6 55 "BandDayModel$State" "contests" "I", Cond.methodLink RX6 100 Lib.Math.min.name, Cond.methodLink RX6 95 Lib.Math.max.name, Cond.methodLink RX6 106 yX6_play, Cond.instanceMethod yX6_play, Cond.selects RX6 yX6_play yX6_play, Cond.code yX6_play cX6_play 12 none, Cond.methodLink RX6 49 arraycopyName, Cond.fieldLink RX6 59 "BandDayModel$State" "deputies" "I", Cond.fieldLink RX6 62 "BandDayModel$State" "empties" "I", Cond.methodLink RX6 85 yX6_find, Cond.instanceMethod yX6_find, Cond.selects RX6 yX6_find yX6_find, Cond.code yX6_find cX6_find 9 (some .int), Cond.methodLink RX6 81 yX6_sits, Cond.instanceMethod yX6_sits, Cond.selects RX6 yX6_sits yX6_sits, Cond.code yX6_sits cX6_sits 5 (some .boolean), Cond.methodLink RX6 110 yX6_isAhead, Cond.instanceMethod yX6_isAhead, Cond.selects RX6 yX6_isAhead yX6_isAhead]
def wsL_law0_r26 : List Cond := [Cond.code yX6_isAhead cX6_isAhead 3 (some .boolean), Cond.methodLink RL 121 yL_rank, Cond.static yL_rank, Cond.codeWith yL_rank cL_rank 4 (some .int) [(0, 9, 12, 25)], Cond.methodLink RL 56 yX5_rank, Cond.instanceMethod yX5_rank, Cond.selects RX5 yX5_rank yX5_rank, Cond.code yX5_rank cX5_rank 2 (some .int), Cond.methodLink RX5 153 yX4_bandByPoints, Cond.instanceMethod yX4_bandByPoints, Cond.selects RX4 yX4_bandByPoints yX4_bandByPoints, Cond.code yX4_bandByPoints cX4_bandByPoints 3 (some .int), Cond.methodLink RX4 123 yX4_aheadByPoints, Cond.instanceMethod yX4_aheadByPoints, Cond.selects RX4 yX4_aheadByPoints yX4_aheadByPoints, Cond.code yX4_aheadByPoints cX4_aheadByPoints 5 (some .int), Cond.fieldLink RX4 127 "BandDay$Band" "points" "I", Cond.methodLink RL 123 yX7_rank, Cond.instanceMethod yX7_rank, Cond.selects RX7 yX7_rank yX7_rank, Cond.code yX7_rank cX7_rank 5 (some .int), Cond.methodLink RL 124 yL_count, Cond.static yL_count, Cond.codeWith yL_count cL_count 4 (some .int) [(0, 9, 12, 25)]]
def wsL_law0_r27 : List Cond := [Cond.methodLink RL 59 yX5_count, Cond.instanceMethod yX5_count, Cond.selects RX5 yX5_count yX5_count, Cond.code yX5_count cX5_count 2 (some .int), Cond.methodLink RX5 156 yX4_tell, Cond.instanceMethod yX4_tell, Cond.selects RX4 yX4_tell yX4_tell, Cond.code yX4_tell cX4_tell 2 (some .int), Cond.fieldLink RX4 52 "BandDay$Season" "contests" "I", Cond.fieldLink RX4 55 "BandDay$Season" "deputies" "I", Cond.fieldLink RX4 58 "BandDay$Season" "empties" "I", Cond.methodLink RX4 117 yX4_membersInAll, Cond.instanceMethod yX4_membersInAll, Cond.selects RX4 yX4_membersInAll yX4_membersInAll, Cond.code yX4_membersInAll cX4_membersInAll 3 (some .int), Cond.methodLink RX4 113 yX0_members, Cond.methodLink RX4 120 yX4_absentInAll, Cond.instanceMethod yX4_absentInAll, Cond.selects RX4 yX4_absentInAll yX4_absentInAll, Cond.code yX4_absentInAll cX4_absentInAll 3 (some .int), Cond.methodLink RL 126 yX7_count, Cond.instanceMethod yX7_count, Cond.selects RX7 yX7_count yX7_count, Cond.code yX7_count cX7_count 2 (some .int)]
def wsL_law0_r28 : List Cond := [Cond.methodLink RX7 141 yX7_counted, Cond.instanceMethod yX7_counted, Cond.selects RX7 yX7_counted yX7_counted, Cond.code yX7_counted cX7_counted 5 (some .int), Cond.methodLink RL 127 yL_foresee, Cond.static yL_foresee, Cond.codeWith yL_foresee cL_foresee 6 (some .int) [(0, 12, 15, 25), (0, 12, 19, 13)], Cond.methodLink RL 62 yX5_foresee, Cond.instanceMethod yX5_foresee, Cond.selects RX5 yX5_foresee yX5_foresee, Cond.code yX5_foresee cX5_foresee 5 (some .int), Cond.methodLink RX5 159 yX4_copyFrom, Cond.instanceMethod yX4_copyFrom, Cond.selects RX4 yX4_copyFrom yX4_copyFrom, Cond.code yX4_copyFrom cX4_copyFrom 3 none, Cond.methodLink RX4 46 arraycopyName, Cond.methodLink RX4 36 yX3_copyFrom, Cond.instanceMethod yX3_copyFrom, Cond.selects RX3 yX3_copyFrom yX3_copyFrom, Cond.code yX3_copyFrom cX3_copyFrom 2 none, Cond.methodLink RX3 22 arraycopyName, Cond.methodLink RX4 43 yX0_copyFrom, Cond.instanceMethod yX0_copyFrom, Cond.selects RX0 yX0_copyFrom yX0_copyFrom]
def wsL_law0_r29 : List Cond := [Cond.code yX0_copyFrom cX0_copyFrom 3 none, Cond.methodLink RX0 34 yX1_copyFrom, Cond.instanceMethod yX1_copyFrom, Cond.selects RX1 yX1_copyFrom yX1_copyFrom, Cond.code yX1_copyFrom cX1_copyFrom 2 none, Cond.methodLink RX5 165 yX0_outlook, Cond.instanceMethod yX0_outlook, Cond.selects RX0 yX0_outlook yX0_outlook, Cond.code yX0_outlook cX0_outlook 2 (some .int), Cond.methodLink RL 129 yX7_foresee, Cond.instanceMethod yX7_foresee, Cond.selects RX7 yX7_foresee yX7_foresee, Cond.code yX7_foresee cX7_foresee 5 (some .int), Cond.methodLink RX7 144 yX6_become, Cond.instanceMethod yX6_become, Cond.selects RX6 yX6_become yX6_become, Cond.code yX6_become cX6_become 2 none, Cond.methodLink RX6 65 yX6_copy, Cond.instanceMethod yX6_copy, Cond.selects RX6 yX6_copy yX6_copy, Cond.code yX6_copy cX6_copy 3 none, Cond.methodLink RL 130 yL_advise, Cond.static yL_advise, Cond.codeWith yL_advise cL_advise 4 (some .int) [(0, 9, 12, 25)]]
def wsL_law0_r30 : List Cond := [Cond.methodLink RL 65 yX5_advise, Cond.instanceMethod yX5_advise, Cond.selects RX5 yX5_advise yX5_advise, Cond.code yX5_advise cX5_advise 2 (some .int), Cond.methodLink RX5 168 yX2_playAllAheadOf, Cond.instanceMethod yX2_playAllAheadOf, Cond.selects RX2 yX2_playAllAheadOf yX2_playAllAheadOf, Cond.code yX2_playAllAheadOf cX2_playAllAheadOf 4 none, Cond.methodLink RX5 171 yX2_bestChange, Cond.instanceMethod yX2_bestChange, Cond.selects RX2 yX2_bestChange yX2_bestChange, Cond.code yX2_bestChange cX2_bestChange 8 (some .int), Cond.methodLink RX2 83 yX4_swapMembers, Cond.methodLink RL 132 yX7_advise, Cond.instanceMethod yX7_advise, Cond.selects RX7 yX7_advise yX7_advise, Cond.code yX7_advise cX7_advise 6 (some .int), Cond.methodLink RL 133 yL_free, Cond.static yL_free, Cond.codeWith yL_free cL_free 4 (some .int) [(0, 9, 12, 25)], Cond.methodLink RL 68 yX5_free, Cond.instanceMethod yX5_free, Cond.selects RX5 yX5_free yX5_free, Cond.code yX5_free cX5_free 2 (some .int)]
def wsL_law0_r31 : List Cond := [Cond.methodLink RX5 174 yX4_bestFree, Cond.instanceMethod yX4_bestFree, Cond.selects RX4 yX4_bestFree yX4_bestFree, Cond.code yX4_bestFree cX4_bestFree 6 (some .int), Cond.methodLink RX4 130 yX3_skillFor, Cond.methodLink RL 135 yX7_free, Cond.instanceMethod yX7_free, Cond.selects RX7 yX7_free yX7_free, Cond.code yX7_free cX7_free 4 (some .int), Cond.methodLink RL 136 yX5_mean, Cond.instanceMethod yX5_mean, Cond.selects RX5 yX5_mean yX5_mean, Cond.code yX5_mean cX5_mean 1 (some .double), Cond.methodLink RX5 177 yX4_meanMarks, Cond.instanceMethod yX4_meanMarks, Cond.selects RX4 yX4_meanMarks yX4_meanMarks, Cond.code yX4_meanMarks cX4_meanMarks 4 (some .double), Cond.fieldLink RX4 133 "BandDay$Band" "marks" "I", Cond.methodLink RL 140 yX7_mean, Cond.instanceMethod yX7_mean, Cond.selects RX7 yX7_mean yX7_mean, Cond.code yX7_mean cX7_mean 4 (some .double), Cond.methodLink RL 141 yX5_digest, Cond.instanceMethod yX5_digest]
def wsL_law0_r32 : List Cond := [Cond.selects RX5 yX5_digest yX5_digest, Cond.code yX5_digest cX5_digest 1 (some .long), Cond.methodLink RX5 181 yX4_checksum, Cond.instanceMethod yX4_checksum, Cond.selects RX4 yX4_checksum yX4_checksum, Cond.code yX4_checksum cX4_checksum 5 (some .long), Cond.constantLong RX4 136 (613), Cond.constantLong RX4 138 (31), Cond.methodLink RX4 140 yX4_tell, Cond.methodLink RX4 143 yX3_tell, Cond.methodLink RX4 144 yX4_withBand, Cond.instanceMethod yX4_withBand, Cond.selects RX4 yX4_withBand yX4_withBand, Cond.code yX4_withBand cX4_withBand 8 (some .long), Cond.methodLink RX4 148 yX0_tell, Cond.methodLink RX4 149 yX1_tell, Cond.methodLink RL 145 yX7_digest, Cond.instanceMethod yX7_digest, Cond.selects RX7 yX7_digest yX7_digest, Cond.code yX7_digest cX7_digest 6 (some .long), Cond.constantLong RX7 148 (613), Cond.constantLong RX7 150 (31)]
def wsL_law0 : List Cond := (wsL_law0_r1 ++ (wsL_law0_r2 ++ (wsL_law0_r3 ++ (wsL_law0_r4 ++ (wsL_law0_r5 ++ (wsL_law0_r6 ++ (wsL_law0_r7 ++ (wsL_law0_r8 ++ (wsL_law0_r9 ++ (wsL_law0_r10 ++ (wsL_law0_r11 ++ (wsL_law0_r12 ++ (wsL_law0_r13 ++ (wsL_law0_r14 ++ (wsL_law0_r15 ++ (wsL_law0_r16 ++ (wsL_law0_r17 ++ (wsL_law0_r18 ++ (wsL_law0_r19 ++ (wsL_law0_r20 ++ (wsL_law0_r21 ++ (wsL_law0_r22 ++ (wsL_law0_r23 ++ (wsL_law0_r24 ++ (wsL_law0_r25 ++ (wsL_law0_r26 ++ (wsL_law0_r27 ++ (wsL_law0_r28 ++ (wsL_law0_r29 ++ (wsL_law0_r30 ++ (wsL_law0_r31 ++ wsL_law0_r32))))))))))))))))))))))))))))))) ++ wsX50 ++ wsX70 ++ wsX40 ++ wsX20 ++ wsX30 ++ wsX00 ++ wsX10 ++ wsX60 ++ ([] : List Cond)
def wsL_law : List Cond := wsL_law0 ++ (vx_atS RX5 39 "java/lang/IllegalArgumentException" ["java/lang/RuntimeException", "java/lang/Exception"]).filter goodWord ++ (vx_atS RX5 50 "java/lang/IllegalStateException" ["java/lang/RuntimeException", "java/lang/Exception"]).filter goodWord ++ (vx_atS RX5 152 "java/lang/IndexOutOfBoundsException" ["java/lang/RuntimeException", "java/lang/Exception"]).filter goodWord
theorem inlX0 : ∀ w ∈ wsX00, w ∈ wsL_law := fun _ h => List.mem_append_left _ (List.mem_append_left _ (List.mem_append_left _ (List.mem_append_left _ (List.mem_append_left _ (List.mem_append_left _ (List.mem_append_right _ h))))))
theorem inlX1 : ∀ w ∈ wsX10, w ∈ wsL_law := fun _ h => List.mem_append_left _ (List.mem_append_left _ (List.mem_append_left _ (List.mem_append_left _ (List.mem_append_left _ (List.mem_append_right _ h)))))
theorem inlX2 : ∀ w ∈ wsX20, w ∈ wsL_law := fun _ h => List.mem_append_left _ (List.mem_append_left _ (List.mem_append_left _ (List.mem_append_left _ (List.mem_append_left _ (List.mem_append_left _ (List.mem_append_left _ (List.mem_append_left _ (List.mem_append_right _ h))))))))
theorem inlX3 : ∀ w ∈ wsX30, w ∈ wsL_law := fun _ h => List.mem_append_left _ (List.mem_append_left _ (List.mem_append_left _ (List.mem_append_left _ (List.mem_append_left _ (List.mem_append_left _ (List.mem_append_left _ (List.mem_append_right _ h)))))))
theorem inlX4 : ∀ w ∈ wsX40, w ∈ wsL_law := fun _ h => List.mem_append_left _ (List.mem_append_left _ (List.mem_append_left _ (List.mem_append_left _ (List.mem_append_left _ (List.mem_append_left _ (List.mem_append_left _ (List.mem_append_left _ (List.mem_append_left _ (List.mem_append_right _ h)))))))))
theorem inlX5 : ∀ w ∈ wsX50, w ∈ wsL_law := fun _ h => List.mem_append_left _ (List.mem_append_left _ (List.mem_append_left _ (List.mem_append_left _ (List.mem_append_left _ (List.mem_append_left _ (List.mem_append_left _ (List.mem_append_left _ (List.mem_append_left _ (List.mem_append_left _ (List.mem_append_left _ (List.mem_append_right _ h)))))))))))
theorem inlX6 : ∀ w ∈ wsX60, w ∈ wsL_law := fun _ h => List.mem_append_left _ (List.mem_append_left _ (List.mem_append_left _ (List.mem_append_left _ (List.mem_append_right _ h))))
theorem inlX7 : ∀ w ∈ wsX70, w ∈ wsL_law := fun _ h => List.mem_append_left _ (List.mem_append_left _ (List.mem_append_left _ (List.mem_append_left _ (List.mem_append_left _ (List.mem_append_left _ (List.mem_append_left _ (List.mem_append_left _ (List.mem_append_left _ (List.mem_append_left _ (List.mem_append_right _ h))))))))))
abbrev vwCl : List vw_C := [(RX0, TX0, 9), (RX1, TX1, 3), (RX2, TX2, 1), (RX3, TX3, 9), (RX4, TX4, 9), (RX5, TX5, 4), (RX6, TX6, 15), (RX7, TX7, 10)]
end
section
set_option maxRecDepth 20000 in
theorem bd_good : wsL_law.all goodWord = true := by decide +kernel
theorem bd_goodW : ∀ w ∈ wsL_law, (w.onTables && w.keeps) = true ∨ ∃ ty, w = .arrayClass ty := fun w h => good_of_word (List.all_eq_true.mp bd_good w h)
theorem qr_0 : ∀ w ∈ wsL_law0, w ∈ wsL_law := fun _ h => List.mem_append_left _ (List.mem_append_left _ (List.mem_append_left _ h))
theorem qr_1 : ∀ w ∈ wsL_law0_r1, w ∈ wsL_law := fun w h => qr_0 w (List.mem_append_left _ (List.mem_append_left _ (List.mem_append_left _ (List.mem_append_left _ (List.mem_append_left _ (List.mem_append_left _ (List.mem_append_left _ (List.mem_append_left _ (List.mem_append_left _ (List.mem_append_left _ h))))))))))
theorem qr_2 : ∀ w ∈ wsL_law0_r2, w ∈ wsL_law := fun w h => qr_0 w (List.mem_append_left _ (List.mem_append_left _ (List.mem_append_left _ (List.mem_append_left _ (List.mem_append_left _ (List.mem_append_left _ (List.mem_append_left _ (List.mem_append_left _ (List.mem_append_left _ (List.mem_append_right _ (List.mem_append_left _ h)))))))))))
theorem qr_3 : ∀ w ∈ wsL_law0_r3, w ∈ wsL_law := fun w h => qr_0 w (List.mem_append_left _ (List.mem_append_left _ (List.mem_append_left _ (List.mem_append_left _ (List.mem_append_left _ (List.mem_append_left _ (List.mem_append_left _ (List.mem_append_left _ (List.mem_append_left _ (List.mem_append_right _ (List.mem_append_right _ (List.mem_append_left _ h))))))))))))
theorem qr_4 : ∀ w ∈ wsL_law0_r4, w ∈ wsL_law := fun w h => qr_0 w (List.mem_append_left _ (List.mem_append_left _ (List.mem_append_left _ (List.mem_append_left _ (List.mem_append_left _ (List.mem_append_left _ (List.mem_append_left _ (List.mem_append_left _ (List.mem_append_left _ (List.mem_append_right _ (List.mem_append_right _ (List.mem_append_right _ (List.mem_append_left _ h)))))))))))))
theorem qr_5 : ∀ w ∈ wsL_law0_r5, w ∈ wsL_law := fun w h => qr_0 w (List.mem_append_left _ (List.mem_append_left _ (List.mem_append_left _ (List.mem_append_left _ (List.mem_append_left _ (List.mem_append_left _ (List.mem_append_left _ (List.mem_append_left _ (List.mem_append_left _ (List.mem_append_right _ (List.mem_append_right _ (List.mem_append_right _ (List.mem_append_right _ (List.mem_append_left _ h))))))))))))))
theorem qr_6 : ∀ w ∈ wsL_law0_r6, w ∈ wsL_law := fun w h => qr_0 w (List.mem_append_left _ (List.mem_append_left _ (List.mem_append_left _ (List.mem_append_left _ (List.mem_append_left _ (List.mem_append_left _ (List.mem_append_left _ (List.mem_append_left _ (List.mem_append_left _ (List.mem_append_right _ (List.mem_append_right _ (List.mem_append_right _ (List.mem_append_right _ (List.mem_append_right _ (List.mem_append_left _ h)))))))))))))))
theorem qr_7 : ∀ w ∈ wsL_law0_r7, w ∈ wsL_law := fun w h => qr_0 w (List.mem_append_left _ (List.mem_append_left _ (List.mem_append_left _ (List.mem_append_left _ (List.mem_append_left _ (List.mem_append_left _ (List.mem_append_left _ (List.mem_append_left _ (List.mem_append_left _ (List.mem_append_right _ (List.mem_append_right _ (List.mem_append_right _ (List.mem_append_right _ (List.mem_append_right _ (List.mem_append_right _ (List.mem_append_left _ h))))))))))))))))
theorem qr_8 : ∀ w ∈ wsL_law0_r8, w ∈ wsL_law := fun w h => qr_0 w (List.mem_append_left _ (List.mem_append_left _ (List.mem_append_left _ (List.mem_append_left _ (List.mem_append_left _ (List.mem_append_left _ (List.mem_append_left _ (List.mem_append_left _ (List.mem_append_left _ (List.mem_append_right _ (List.mem_append_right _ (List.mem_append_right _ (List.mem_append_right _ (List.mem_append_right _ (List.mem_append_right _ (List.mem_append_right _ (List.mem_append_left _ h)))))))))))))))))
theorem qr_9 : ∀ w ∈ wsL_law0_r9, w ∈ wsL_law := fun w h => qr_0 w (List.mem_append_left _ (List.mem_append_left _ (List.mem_append_left _ (List.mem_append_left _ (List.mem_append_left _ (List.mem_append_left _ (List.mem_append_left _ (List.mem_append_left _ (List.mem_append_left _ (List.mem_append_right _ (List.mem_append_right _ (List.mem_append_right _ (List.mem_append_right _ (List.mem_append_right _ (List.mem_append_right _ (List.mem_append_right _ (List.mem_append_right _ (List.mem_append_left _ h))))))))))))))))))
theorem qr_10 : ∀ w ∈ wsL_law0_r10, w ∈ wsL_law := fun w h => qr_0 w (List.mem_append_left _ (List.mem_append_left _ (List.mem_append_left _ (List.mem_append_left _ (List.mem_append_left _ (List.mem_append_left _ (List.mem_append_left _ (List.mem_append_left _ (List.mem_append_left _ (List.mem_append_right _ (List.mem_append_right _ (List.mem_append_right _ (List.mem_append_right _ (List.mem_append_right _ (List.mem_append_right _ (List.mem_append_right _ (List.mem_append_right _ (List.mem_append_right _ (List.mem_append_left _ h)))))))))))))))))))
theorem qr_11 : ∀ w ∈ wsL_law0_r11, w ∈ wsL_law := fun w h => qr_0 w (List.mem_append_left _ (List.mem_append_left _ (List.mem_append_left _ (List.mem_append_left _ (List.mem_append_left _ (List.mem_append_left _ (List.mem_append_left _ (List.mem_append_left _ (List.mem_append_left _ (List.mem_append_right _ (List.mem_append_right _ (List.mem_append_right _ (List.mem_append_right _ (List.mem_append_right _ (List.mem_append_right _ (List.mem_append_right _ (List.mem_append_right _ (List.mem_append_right _ (List.mem_append_right _ (List.mem_append_left _ h))))))))))))))))))))
theorem qr_12 : ∀ w ∈ wsL_law0_r12, w ∈ wsL_law := fun w h => qr_0 w (List.mem_append_left _ (List.mem_append_left _ (List.mem_append_left _ (List.mem_append_left _ (List.mem_append_left _ (List.mem_append_left _ (List.mem_append_left _ (List.mem_append_left _ (List.mem_append_left _ (List.mem_append_right _ (List.mem_append_right _ (List.mem_append_right _ (List.mem_append_right _ (List.mem_append_right _ (List.mem_append_right _ (List.mem_append_right _ (List.mem_append_right _ (List.mem_append_right _ (List.mem_append_right _ (List.mem_append_right _ (List.mem_append_left _ h)))))))))))))))))))))
theorem qr_13 : ∀ w ∈ wsL_law0_r13, w ∈ wsL_law := fun w h => qr_0 w (List.mem_append_left _ (List.mem_append_left _ (List.mem_append_left _ (List.mem_append_left _ (List.mem_append_left _ (List.mem_append_left _ (List.mem_append_left _ (List.mem_append_left _ (List.mem_append_left _ (List.mem_append_right _ (List.mem_append_right _ (List.mem_append_right _ (List.mem_append_right _ (List.mem_append_right _ (List.mem_append_right _ (List.mem_append_right _ (List.mem_append_right _ (List.mem_append_right _ (List.mem_append_right _ (List.mem_append_right _ (List.mem_append_right _ (List.mem_append_left _ h))))))))))))))))))))))
theorem qr_14 : ∀ w ∈ wsL_law0_r14, w ∈ wsL_law := fun w h => qr_0 w (List.mem_append_left _ (List.mem_append_left _ (List.mem_append_left _ (List.mem_append_left _ (List.mem_append_left _ (List.mem_append_left _ (List.mem_append_left _ (List.mem_append_left _ (List.mem_append_left _ (List.mem_append_right _ (List.mem_append_right _ (List.mem_append_right _ (List.mem_append_right _ (List.mem_append_right _ (List.mem_append_right _ (List.mem_append_right _ (List.mem_append_right _ (List.mem_append_right _ (List.mem_append_right _ (List.mem_append_right _ (List.mem_append_right _ (List.mem_append_right _ (List.mem_append_left _ h)))))))))))))))))))))))
theorem qr_15 : ∀ w ∈ wsL_law0_r15, w ∈ wsL_law := fun w h => qr_0 w (List.mem_append_left _ (List.mem_append_left _ (List.mem_append_left _ (List.mem_append_left _ (List.mem_append_left _ (List.mem_append_left _ (List.mem_append_left _ (List.mem_append_left _ (List.mem_append_left _ (List.mem_append_right _ (List.mem_append_right _ (List.mem_append_right _ (List.mem_append_right _ (List.mem_append_right _ (List.mem_append_right _ (List.mem_append_right _ (List.mem_append_right _ (List.mem_append_right _ (List.mem_append_right _ (List.mem_append_right _ (List.mem_append_right _ (List.mem_append_right _ (List.mem_append_right _ (List.mem_append_left _ h))))))))))))))))))))))))
theorem qr_16 : ∀ w ∈ wsL_law0_r16, w ∈ wsL_law := fun w h => qr_0 w (List.mem_append_left _ (List.mem_append_left _ (List.mem_append_left _ (List.mem_append_left _ (List.mem_append_left _ (List.mem_append_left _ (List.mem_append_left _ (List.mem_append_left _ (List.mem_append_left _ (List.mem_append_right _ (List.mem_append_right _ (List.mem_append_right _ (List.mem_append_right _ (List.mem_append_right _ (List.mem_append_right _ (List.mem_append_right _ (List.mem_append_right _ (List.mem_append_right _ (List.mem_append_right _ (List.mem_append_right _ (List.mem_append_right _ (List.mem_append_right _ (List.mem_append_right _ (List.mem_append_right _ (List.mem_append_left _ h)))))))))))))))))))))))))
theorem qr_17 : ∀ w ∈ wsL_law0_r17, w ∈ wsL_law := fun w h => qr_0 w (List.mem_append_left _ (List.mem_append_left _ (List.mem_append_left _ (List.mem_append_left _ (List.mem_append_left _ (List.mem_append_left _ (List.mem_append_left _ (List.mem_append_left _ (List.mem_append_left _ (List.mem_append_right _ (List.mem_append_right _ (List.mem_append_right _ (List.mem_append_right _ (List.mem_append_right _ (List.mem_append_right _ (List.mem_append_right _ (List.mem_append_right _ (List.mem_append_right _ (List.mem_append_right _ (List.mem_append_right _ (List.mem_append_right _ (List.mem_append_right _ (List.mem_append_right _ (List.mem_append_right _ (List.mem_append_right _ (List.mem_append_left _ h))))))))))))))))))))))))))
theorem qr_18 : ∀ w ∈ wsL_law0_r18, w ∈ wsL_law := fun w h => qr_0 w (List.mem_append_left _ (List.mem_append_left _ (List.mem_append_left _ (List.mem_append_left _ (List.mem_append_left _ (List.mem_append_left _ (List.mem_append_left _ (List.mem_append_left _ (List.mem_append_left _ (List.mem_append_right _ (List.mem_append_right _ (List.mem_append_right _ (List.mem_append_right _ (List.mem_append_right _ (List.mem_append_right _ (List.mem_append_right _ (List.mem_append_right _ (List.mem_append_right _ (List.mem_append_right _ (List.mem_append_right _ (List.mem_append_right _ (List.mem_append_right _ (List.mem_append_right _ (List.mem_append_right _ (List.mem_append_right _ (List.mem_append_right _ (List.mem_append_left _ h)))))))))))))))))))))))))))
theorem qr_19 : ∀ w ∈ wsL_law0_r19, w ∈ wsL_law := fun w h => qr_0 w (List.mem_append_left _ (List.mem_append_left _ (List.mem_append_left _ (List.mem_append_left _ (List.mem_append_left _ (List.mem_append_left _ (List.mem_append_left _ (List.mem_append_left _ (List.mem_append_left _ (List.mem_append_right _ (List.mem_append_right _ (List.mem_append_right _ (List.mem_append_right _ (List.mem_append_right _ (List.mem_append_right _ (List.mem_append_right _ (List.mem_append_right _ (List.mem_append_right _ (List.mem_append_right _ (List.mem_append_right _ (List.mem_append_right _ (List.mem_append_right _ (List.mem_append_right _ (List.mem_append_right _ (List.mem_append_right _ (List.mem_append_right _ (List.mem_append_right _ (List.mem_append_left _ h))))))))))))))))))))))))))))
theorem qr_20 : ∀ w ∈ wsL_law0_r20, w ∈ wsL_law := fun w h => qr_0 w (List.mem_append_left _ (List.mem_append_left _ (List.mem_append_left _ (List.mem_append_left _ (List.mem_append_left _ (List.mem_append_left _ (List.mem_append_left _ (List.mem_append_left _ (List.mem_append_left _ (List.mem_append_right _ (List.mem_append_right _ (List.mem_append_right _ (List.mem_append_right _ (List.mem_append_right _ (List.mem_append_right _ (List.mem_append_right _ (List.mem_append_right _ (List.mem_append_right _ (List.mem_append_right _ (List.mem_append_right _ (List.mem_append_right _ (List.mem_append_right _ (List.mem_append_right _ (List.mem_append_right _ (List.mem_append_right _ (List.mem_append_right _ (List.mem_append_right _ (List.mem_append_right _ (List.mem_append_left _ h)))))))))))))))))))))))))))))
theorem qr_21 : ∀ w ∈ wsL_law0_r21, w ∈ wsL_law := fun w h => qr_0 w (List.mem_append_left _ (List.mem_append_left _ (List.mem_append_left _ (List.mem_append_left _ (List.mem_append_left _ (List.mem_append_left _ (List.mem_append_left _ (List.mem_append_left _ (List.mem_append_left _ (List.mem_append_right _ (List.mem_append_right _ (List.mem_append_right _ (List.mem_append_right _ (List.mem_append_right _ (List.mem_append_right _ (List.mem_append_right _ (List.mem_append_right _ (List.mem_append_right _ (List.mem_append_right _ (List.mem_append_right _ (List.mem_append_right _ (List.mem_append_right _ (List.mem_append_right _ (List.mem_append_right _ (List.mem_append_right _ (List.mem_append_right _ (List.mem_append_right _ (List.mem_append_right _ (List.mem_append_right _ (List.mem_append_left _ h))))))))))))))))))))))))))))))
theorem qr_22 : ∀ w ∈ wsL_law0_r22, w ∈ wsL_law := fun w h => qr_0 w (List.mem_append_left _ (List.mem_append_left _ (List.mem_append_left _ (List.mem_append_left _ (List.mem_append_left _ (List.mem_append_left _ (List.mem_append_left _ (List.mem_append_left _ (List.mem_append_left _ (List.mem_append_right _ (List.mem_append_right _ (List.mem_append_right _ (List.mem_append_right _ (List.mem_append_right _ (List.mem_append_right _ (List.mem_append_right _ (List.mem_append_right _ (List.mem_append_right _ (List.mem_append_right _ (List.mem_append_right _ (List.mem_append_right _ (List.mem_append_right _ (List.mem_append_right _ (List.mem_append_right _ (List.mem_append_right _ (List.mem_append_right _ (List.mem_append_right _ (List.mem_append_right _ (List.mem_append_right _ (List.mem_append_right _ (List.mem_append_left _ h)))))))))))))))))))))))))))))))
theorem qr_23 : ∀ w ∈ wsL_law0_r23, w ∈ wsL_law := fun w h => qr_0 w (List.mem_append_left _ (List.mem_append_left _ (List.mem_append_left _ (List.mem_append_left _ (List.mem_append_left _ (List.mem_append_left _ (List.mem_append_left _ (List.mem_append_left _ (List.mem_append_left _ (List.mem_append_right _ (List.mem_append_right _ (List.mem_append_right _ (List.mem_append_right _ (List.mem_append_right _ (List.mem_append_right _ (List.mem_append_right _ (List.mem_append_right _ (List.mem_append_right _ (List.mem_append_right _ (List.mem_append_right _ (List.mem_append_right _ (List.mem_append_right _ (List.mem_append_right _ (List.mem_append_right _ (List.mem_append_right _ (List.mem_append_right _ (List.mem_append_right _ (List.mem_append_right _ (List.mem_append_right _ (List.mem_append_right _ (List.mem_append_right _ (List.mem_append_left _ h))))))))))))))))))))))))))))))))
theorem qr_24 : ∀ w ∈ wsL_law0_r24, w ∈ wsL_law := fun w h => qr_0 w (List.mem_append_left _ (List.mem_append_left _ (List.mem_append_left _ (List.mem_append_left _ (List.mem_append_left _ (List.mem_append_left _ (List.mem_append_left _ (List.mem_append_left _ (List.mem_append_left _ (List.mem_append_right _ (List.mem_append_right _ (List.mem_append_right _ (List.mem_append_right _ (List.mem_append_right _ (List.mem_append_right _ (List.mem_append_right _ (List.mem_append_right _ (List.mem_append_right _ (List.mem_append_right _ (List.mem_append_right _ (List.mem_append_right _ (List.mem_append_right _ (List.mem_append_right _ (List.mem_append_right _ (List.mem_append_right _ (List.mem_append_right _ (List.mem_append_right _ (List.mem_append_right _ (List.mem_append_right _ (List.mem_append_right _ (List.mem_append_right _ (List.mem_append_right _ (List.mem_append_left _ h)))))))))))))))))))))))))))))))))
theorem qr_25 : ∀ w ∈ wsL_law0_r25, w ∈ wsL_law := fun w h => qr_0 w (List.mem_append_left _ (List.mem_append_left _ (List.mem_append_left _ (List.mem_append_left _ (List.mem_append_left _ (List.mem_append_left _ (List.mem_append_left _ (List.mem_append_left _ (List.mem_append_left _ (List.mem_append_right _ (List.mem_append_right _ (List.mem_append_right _ (List.mem_append_right _ (List.mem_append_right _ (List.mem_append_right _ (List.mem_append_right _ (List.mem_append_right _ (List.mem_append_right _ (List.mem_append_right _ (List.mem_append_right _ (List.mem_append_right _ (List.mem_append_right _ (List.mem_append_right _ (List.mem_append_right _ (List.mem_append_right _ (List.mem_append_right _ (List.mem_append_right _ (List.mem_append_right _ (List.mem_append_right _ (List.mem_append_right _ (List.mem_append_right _ (List.mem_append_right _ (List.mem_append_right _ (List.mem_append_left _ h))))))))))))))))))))))))))))))))))
theorem qr_26 : ∀ w ∈ wsL_law0_r26, w ∈ wsL_law := fun w h => qr_0 w (List.mem_append_left _ (List.mem_append_left _ (List.mem_append_left _ (List.mem_append_left _ (List.mem_append_left _ (List.mem_append_left _ (List.mem_append_left _ (List.mem_append_left _ (List.mem_append_left _ (List.mem_append_right _ (List.mem_append_right _ (List.mem_append_right _ (List.mem_append_right _ (List.mem_append_right _ (List.mem_append_right _ (List.mem_append_right _ (List.mem_append_right _ (List.mem_append_right _ (List.mem_append_right _ (List.mem_append_right _ (List.mem_append_right _ (List.mem_append_right _ (List.mem_append_right _ (List.mem_append_right _ (List.mem_append_right _ (List.mem_append_right _ (List.mem_append_right _ (List.mem_append_right _ (List.mem_append_right _ (List.mem_append_right _ (List.mem_append_right _ (List.mem_append_right _ (List.mem_append_right _ (List.mem_append_right _ (List.mem_append_left _ h)))))))))))))))))))))))))))))))))))
theorem qr_27 : ∀ w ∈ wsL_law0_r27, w ∈ wsL_law := fun w h => qr_0 w (List.mem_append_left _ (List.mem_append_left _ (List.mem_append_left _ (List.mem_append_left _ (List.mem_append_left _ (List.mem_append_left _ (List.mem_append_left _ (List.mem_append_left _ (List.mem_append_left _ (List.mem_append_right _ (List.mem_append_right _ (List.mem_append_right _ (List.mem_append_right _ (List.mem_append_right _ (List.mem_append_right _ (List.mem_append_right _ (List.mem_append_right _ (List.mem_append_right _ (List.mem_append_right _ (List.mem_append_right _ (List.mem_append_right _ (List.mem_append_right _ (List.mem_append_right _ (List.mem_append_right _ (List.mem_append_right _ (List.mem_append_right _ (List.mem_append_right _ (List.mem_append_right _ (List.mem_append_right _ (List.mem_append_right _ (List.mem_append_right _ (List.mem_append_right _ (List.mem_append_right _ (List.mem_append_right _ (List.mem_append_right _ (List.mem_append_left _ h))))))))))))))))))))))))))))))))))))
theorem qr_28 : ∀ w ∈ wsL_law0_r28, w ∈ wsL_law := fun w h => qr_0 w (List.mem_append_left _ (List.mem_append_left _ (List.mem_append_left _ (List.mem_append_left _ (List.mem_append_left _ (List.mem_append_left _ (List.mem_append_left _ (List.mem_append_left _ (List.mem_append_left _ (List.mem_append_right _ (List.mem_append_right _ (List.mem_append_right _ (List.mem_append_right _ (List.mem_append_right _ (List.mem_append_right _ (List.mem_append_right _ (List.mem_append_right _ (List.mem_append_right _ (List.mem_append_right _ (List.mem_append_right _ (List.mem_append_right _ (List.mem_append_right _ (List.mem_append_right _ (List.mem_append_right _ (List.mem_append_right _ (List.mem_append_right _ (List.mem_append_right _ (List.mem_append_right _ (List.mem_append_right _ (List.mem_append_right _ (List.mem_append_right _ (List.mem_append_right _ (List.mem_append_right _ (List.mem_append_right _ (List.mem_append_right _ (List.mem_append_right _ (List.mem_append_left _ h)))))))))))))))))))))))))))))))))))))
theorem qr_29 : ∀ w ∈ wsL_law0_r29, w ∈ wsL_law := fun w h => qr_0 w (List.mem_append_left _ (List.mem_append_left _ (List.mem_append_left _ (List.mem_append_left _ (List.mem_append_left _ (List.mem_append_left _ (List.mem_append_left _ (List.mem_append_left _ (List.mem_append_left _ (List.mem_append_right _ (List.mem_append_right _ (List.mem_append_right _ (List.mem_append_right _ (List.mem_append_right _ (List.mem_append_right _ (List.mem_append_right _ (List.mem_append_right _ (List.mem_append_right _ (List.mem_append_right _ (List.mem_append_right _ (List.mem_append_right _ (List.mem_append_right _ (List.mem_append_right _ (List.mem_append_right _ (List.mem_append_right _ (List.mem_append_right _ (List.mem_append_right _ (List.mem_append_right _ (List.mem_append_right _ (List.mem_append_right _ (List.mem_append_right _ (List.mem_append_right _ (List.mem_append_right _ (List.mem_append_right _ (List.mem_append_right _ (List.mem_append_right _ (List.mem_append_right _ (List.mem_append_left _ h))))))))))))))))))))))))))))))))))))))
theorem qr_30 : ∀ w ∈ wsL_law0_r30, w ∈ wsL_law := fun w h => qr_0 w (List.mem_append_left _ (List.mem_append_left _ (List.mem_append_left _ (List.mem_append_left _ (List.mem_append_left _ (List.mem_append_left _ (List.mem_append_left _ (List.mem_append_left _ (List.mem_append_left _ (List.mem_append_right _ (List.mem_append_right _ (List.mem_append_right _ (List.mem_append_right _ (List.mem_append_right _ (List.mem_append_right _ (List.mem_append_right _ (List.mem_append_right _ (List.mem_append_right _ (List.mem_append_right _ (List.mem_append_right _ (List.mem_append_right _ (List.mem_append_right _ (List.mem_append_right _ (List.mem_append_right _ (List.mem_append_right _ (List.mem_append_right _ (List.mem_append_right _ (List.mem_append_right _ (List.mem_append_right _ (List.mem_append_right _ (List.mem_append_right _ (List.mem_append_right _ (List.mem_append_right _ (List.mem_append_right _ (List.mem_append_right _ (List.mem_append_right _ (List.mem_append_right _ (List.mem_append_right _ (List.mem_append_left _ h)))))))))))))))))))))))))))))))))))))))
theorem qr_31 : ∀ w ∈ wsL_law0_r31, w ∈ wsL_law := fun w h => qr_0 w (List.mem_append_left _ (List.mem_append_left _ (List.mem_append_left _ (List.mem_append_left _ (List.mem_append_left _ (List.mem_append_left _ (List.mem_append_left _ (List.mem_append_left _ (List.mem_append_left _ (List.mem_append_right _ (List.mem_append_right _ (List.mem_append_right _ (List.mem_append_right _ (List.mem_append_right _ (List.mem_append_right _ (List.mem_append_right _ (List.mem_append_right _ (List.mem_append_right _ (List.mem_append_right _ (List.mem_append_right _ (List.mem_append_right _ (List.mem_append_right _ (List.mem_append_right _ (List.mem_append_right _ (List.mem_append_right _ (List.mem_append_right _ (List.mem_append_right _ (List.mem_append_right _ (List.mem_append_right _ (List.mem_append_right _ (List.mem_append_right _ (List.mem_append_right _ (List.mem_append_right _ (List.mem_append_right _ (List.mem_append_right _ (List.mem_append_right _ (List.mem_append_right _ (List.mem_append_right _ (List.mem_append_right _ (List.mem_append_left _ h))))))))))))))))))))))))))))))))))))))))
theorem qr_32 : ∀ w ∈ wsL_law0_r32, w ∈ wsL_law := fun w h => qr_0 w (List.mem_append_left _ (List.mem_append_left _ (List.mem_append_left _ (List.mem_append_left _ (List.mem_append_left _ (List.mem_append_left _ (List.mem_append_left _ (List.mem_append_left _ (List.mem_append_left _ (List.mem_append_right _ (List.mem_append_right _ (List.mem_append_right _ (List.mem_append_right _ (List.mem_append_right _ (List.mem_append_right _ (List.mem_append_right _ (List.mem_append_right _ (List.mem_append_right _ (List.mem_append_right _ (List.mem_append_right _ (List.mem_append_right _ (List.mem_append_right _ (List.mem_append_right _ (List.mem_append_right _ (List.mem_append_right _ (List.mem_append_right _ (List.mem_append_right _ (List.mem_append_right _ (List.mem_append_right _ (List.mem_append_right _ (List.mem_append_right _ (List.mem_append_right _ (List.mem_append_right _ (List.mem_append_right _ (List.mem_append_right _ (List.mem_append_right _ (List.mem_append_right _ (List.mem_append_right _ (List.mem_append_right _ (List.mem_append_right _ (h)))))))))))))))))))))))))))))))))))))))))
theorem qk_L_8 : Cond.classLink RL 8 RX5 ∈ wsL_law := qr_1 _ (List.mem_of_getElem? (i := 0) rfl)
theorem qa_X5 : Cond.instantiable RX5 4 ∈ wsL_law := qr_1 _ (List.mem_of_getElem? (i := 1) rfl)
theorem qz_X5 : Cond.initialized RX5 ∈ wsL_law := qr_1 _ (List.mem_of_getElem? (i := 2) rfl)
theorem qk_L_72 : Cond.classLink RL 72 RX7 ∈ wsL_law := qr_1 _ (List.mem_of_getElem? (i := 3) rfl)
theorem qa_X7 : Cond.instantiable RX7 10 ∈ wsL_law := qr_1 _ (List.mem_of_getElem? (i := 4) rfl)
theorem qz_X7 : Cond.initialized RX7 ∈ wsL_law := qr_1 _ (List.mem_of_getElem? (i := 5) rfl)
theorem qy_long : Cond.arrayClass .long ∈ wsL_law := qr_1 _ (List.mem_of_getElem? (i := 6) rfl)
theorem qm_L_71 : Cond.methodLink RL 71 yX5_init ∈ wsL_law := qr_1 _ (List.mem_of_getElem? (i := 7) rfl)
theorem qi_X5_init : Cond.instanceMethod yX5_init ∈ wsL_law := qr_1 _ (List.mem_of_getElem? (i := 8) rfl)
theorem qc_X5_init : Cond.code yX5_init cX5_init 1 none ∈ wsL_law := qr_1 _ (List.mem_of_getElem? (i := 9) rfl)
theorem qm_X5_1 : Cond.methodLink RX5 1 objectInit ∈ wsL_law := qr_1 _ (List.mem_of_getElem? (i := 10) rfl)
theorem qi_obj : Cond.instanceMethod objectInit ∈ wsL_law := qr_1 _ (List.mem_of_getElem? (i := 11) rfl)
theorem qc_obj : Cond.code objectInit ⟨#[0xb1]⟩ 1 none ∈ wsL_law := qr_1 _ (List.mem_of_getElem? (i := 12) rfl)
theorem qk_X5_7 : Cond.classLink RX5 7 RX4 ∈ wsL_law := qr_1 _ (List.mem_of_getElem? (i := 13) rfl)
theorem qa_X4 : Cond.instantiable RX4 9 ∈ wsL_law := qr_1 _ (List.mem_of_getElem? (i := 14) rfl)
theorem qz_X4 : Cond.initialized RX4 ∈ wsL_law := qr_1 _ (List.mem_of_getElem? (i := 15) rfl)
theorem qf_X5_10 : Cond.fieldLink RX5 10 "BandDay" "season" "LBandDay$Season;" ∈ wsL_law := qr_1 _ (List.mem_of_getElem? (i := 16) rfl)
theorem qk_X5_16 : Cond.classLink RX5 16 RX2 ∈ wsL_law := qr_1 _ (List.mem_of_getElem? (i := 17) rfl)
theorem qa_X2 : Cond.instantiable RX2 1 ∈ wsL_law := qr_1 _ (List.mem_of_getElem? (i := 18) rfl)
theorem qz_X2 : Cond.initialized RX2 ∈ wsL_law := qr_1 _ (List.mem_of_getElem? (i := 19) rfl)
theorem qf_X5_21 : Cond.fieldLink RX5 21 "BandDay" "contest" "LBandDay$Contest;" ∈ wsL_law := qr_1 _ (List.mem_of_getElem? (i := 20) rfl)
theorem qf_X5_25 : Cond.fieldLink RX5 25 "BandDay" "trial" "LBandDay$Season;" ∈ wsL_law := qr_1 _ (List.mem_of_getElem? (i := 21) rfl)
theorem qf_X5_28 : Cond.fieldLink RX5 28 "BandDay" "trialContest" "LBandDay$Contest;" ∈ wsL_law := qr_1 _ (List.mem_of_getElem? (i := 22) rfl)
theorem qm_X5_9 : Cond.methodLink RX5 9 yX4_init ∈ wsL_law := qr_1 _ (List.mem_of_getElem? (i := 23) rfl)
theorem qi_X4_init : Cond.instanceMethod yX4_init ∈ wsL_law := qr_2 _ (List.mem_of_getElem? (i := 0) rfl)
theorem qc_X4_init : Cond.code yX4_init cX4_init 2 none ∈ wsL_law := qr_2 _ (List.mem_of_getElem? (i := 1) rfl)
theorem qm_X4_3 : Cond.methodLink RX4 3 objectInit ∈ wsL_law := qr_2 _ (List.mem_of_getElem? (i := 2) rfl)
theorem qk_X4_9 : Cond.classLink RX4 9 RX3 ∈ wsL_law := qr_2 _ (List.mem_of_getElem? (i := 3) rfl)
theorem qf_X4_11 : Cond.fieldLink RX4 11 "BandDay$Season" "players" "[LBandDay$Player;" ∈ wsL_law := qr_2 _ (List.mem_of_getElem? (i := 4) rfl)
theorem qk_X4_17 : Cond.classLink RX4 17 RX0 ∈ wsL_law := qr_2 _ (List.mem_of_getElem? (i := 5) rfl)
theorem qf_X4_19 : Cond.fieldLink RX4 19 "BandDay$Season" "bands" "[LBandDay$Band;" ∈ wsL_law := qr_2 _ (List.mem_of_getElem? (i := 6) rfl)
theorem qy_int : Cond.arrayClass .int ∈ wsL_law := qr_2 _ (List.mem_of_getElem? (i := 7) rfl)
theorem qf_X4_23 : Cond.fieldLink RX4 23 "BandDay$Season" "hard" "[I" ∈ wsL_law := qr_2 _ (List.mem_of_getElem? (i := 8) rfl)
theorem qf_X4_27 : Cond.fieldLink RX4 27 "BandDay$Season" "weight" "[I" ∈ wsL_law := qr_2 _ (List.mem_of_getElem? (i := 9) rfl)
theorem qa_X3 : Cond.instantiable RX3 9 ∈ wsL_law := qr_2 _ (List.mem_of_getElem? (i := 10) rfl)
theorem qz_X3 : Cond.initialized RX3 ∈ wsL_law := qr_2 _ (List.mem_of_getElem? (i := 11) rfl)
theorem qa_X0 : Cond.instantiable RX0 9 ∈ wsL_law := qr_2 _ (List.mem_of_getElem? (i := 12) rfl)
theorem qz_X0 : Cond.initialized RX0 ∈ wsL_law := qr_2 _ (List.mem_of_getElem? (i := 13) rfl)
theorem qi_X3_init : Cond.instanceMethod yX3_init ∈ wsL_law := qr_2 _ (List.mem_of_getElem? (i := 14) rfl)
theorem qc_X3_init : Cond.code yX3_init cX3_init 1 none ∈ wsL_law := qr_2 _ (List.mem_of_getElem? (i := 15) rfl)
theorem qm_X3_3 : Cond.methodLink RX3 3 objectInit ∈ wsL_law := qr_2 _ (List.mem_of_getElem? (i := 16) rfl)
theorem qf_X3_9 : Cond.fieldLink RX3 9 "BandDay$Player" "skills" "[I" ∈ wsL_law := qr_2 _ (List.mem_of_getElem? (i := 17) rfl)
theorem qf_X3_15 : Cond.fieldLink RX3 15 "BandDay$Player" "band" "I" ∈ wsL_law := qr_2 _ (List.mem_of_getElem? (i := 18) rfl)
theorem qf_X3_19 : Cond.fieldLink RX3 19 "BandDay$Player" "seat" "I" ∈ wsL_law := qr_2 _ (List.mem_of_getElem? (i := 19) rfl)
theorem qm_X4_31 : Cond.methodLink RX4 31 yX0_init ∈ wsL_law := qr_2 _ (List.mem_of_getElem? (i := 20) rfl)
theorem qi_X0_init : Cond.instanceMethod yX0_init ∈ wsL_law := qr_2 _ (List.mem_of_getElem? (i := 21) rfl)
theorem qc_X0_init : Cond.code yX0_init cX0_init 2 none ∈ wsL_law := qr_2 _ (List.mem_of_getElem? (i := 22) rfl)
theorem qm_X0_3 : Cond.methodLink RX0 3 objectInit ∈ wsL_law := qr_2 _ (List.mem_of_getElem? (i := 23) rfl)
theorem qk_X0_9 : Cond.classLink RX0 9 RX1 ∈ wsL_law := qr_3 _ (List.mem_of_getElem? (i := 0) rfl)
theorem qf_X0_11 : Cond.fieldLink RX0 11 "BandDay$Band" "chairs" "[LBandDay$Chair;" ∈ wsL_law := qr_3 _ (List.mem_of_getElem? (i := 1) rfl)
theorem qf_X0_17 : Cond.fieldLink RX0 17 "BandDay$Band" "marks" "I" ∈ wsL_law := qr_3 _ (List.mem_of_getElem? (i := 2) rfl)
theorem qf_X0_21 : Cond.fieldLink RX0 21 "BandDay$Band" "place" "I" ∈ wsL_law := qr_3 _ (List.mem_of_getElem? (i := 3) rfl)
theorem qf_X0_24 : Cond.fieldLink RX0 24 "BandDay$Band" "deputies" "I" ∈ wsL_law := qr_3 _ (List.mem_of_getElem? (i := 4) rfl)
theorem qf_X0_27 : Cond.fieldLink RX0 27 "BandDay$Band" "empties" "I" ∈ wsL_law := qr_3 _ (List.mem_of_getElem? (i := 5) rfl)
theorem qa_X1 : Cond.instantiable RX1 3 ∈ wsL_law := qr_3 _ (List.mem_of_getElem? (i := 6) rfl)
theorem qz_X1 : Cond.initialized RX1 ∈ wsL_law := qr_3 _ (List.mem_of_getElem? (i := 7) rfl)
theorem qi_X1_init : Cond.instanceMethod yX1_init ∈ wsL_law := qr_3 _ (List.mem_of_getElem? (i := 8) rfl)
theorem qc_X1_init : Cond.code yX1_init cX1_init 1 none ∈ wsL_law := qr_3 _ (List.mem_of_getElem? (i := 9) rfl)
theorem qm_X1_3 : Cond.methodLink RX1 3 objectInit ∈ wsL_law := qr_3 _ (List.mem_of_getElem? (i := 10) rfl)
theorem qf_X1_9 : Cond.fieldLink RX1 9 "BandDay$Chair" "member" "I" ∈ wsL_law := qr_3 _ (List.mem_of_getElem? (i := 11) rfl)
theorem qf_X1_15 : Cond.fieldLink RX1 15 "BandDay$Chair" "sitter" "I" ∈ wsL_law := qr_3 _ (List.mem_of_getElem? (i := 12) rfl)
theorem qm_X5_18 : Cond.methodLink RX5 18 yX2_init ∈ wsL_law := qr_3 _ (List.mem_of_getElem? (i := 13) rfl)
theorem qi_X2_init : Cond.instanceMethod yX2_init ∈ wsL_law := qr_3 _ (List.mem_of_getElem? (i := 14) rfl)
theorem qc_X2_init : Cond.code yX2_init cX2_init 2 none ∈ wsL_law := qr_3 _ (List.mem_of_getElem? (i := 15) rfl)
theorem qm_X2_3 : Cond.methodLink RX2 3 objectInit ∈ wsL_law := qr_3 _ (List.mem_of_getElem? (i := 16) rfl)
theorem qf_X2_9 : Cond.fieldLink RX2 9 "BandDay$Contest" "season" "LBandDay$Season;" ∈ wsL_law := qr_3 _ (List.mem_of_getElem? (i := 17) rfl)
theorem qm_L_74 : Cond.methodLink RL 74 yX7_init ∈ wsL_law := qr_3 _ (List.mem_of_getElem? (i := 18) rfl)
theorem qi_X7_init : Cond.instanceMethod yX7_init ∈ wsL_law := qr_3 _ (List.mem_of_getElem? (i := 19) rfl)
theorem qc_X7_init : Cond.code yX7_init cX7_init 1 none ∈ wsL_law := qr_3 _ (List.mem_of_getElem? (i := 20) rfl)
theorem qm_X7_1 : Cond.methodLink RX7 1 objectInit ∈ wsL_law := qr_3 _ (List.mem_of_getElem? (i := 21) rfl)
theorem qf_X7_9 : Cond.fieldLink RX7 9 "BandDayModel" "skill" "[I" ∈ wsL_law := qr_3 _ (List.mem_of_getElem? (i := 22) rfl)
theorem qf_X7_13 : Cond.fieldLink RX7 13 "BandDayModel" "seats" "[I" ∈ wsL_law := qr_3 _ (List.mem_of_getElem? (i := 23) rfl)
theorem qf_X7_16 : Cond.fieldLink RX7 16 "BandDayModel" "instrument" "[I" ∈ wsL_law := qr_4 _ (List.mem_of_getElem? (i := 0) rfl)
theorem qf_X7_19 : Cond.fieldLink RX7 19 "BandDayModel" "hard" "[I" ∈ wsL_law := qr_4 _ (List.mem_of_getElem? (i := 1) rfl)
theorem qf_X7_22 : Cond.fieldLink RX7 22 "BandDayModel" "weight" "[I" ∈ wsL_law := qr_4 _ (List.mem_of_getElem? (i := 2) rfl)
theorem qk_X7_25 : Cond.classLink RX7 25 RX6 ∈ wsL_law := qr_4 _ (List.mem_of_getElem? (i := 3) rfl)
theorem qa_X6 : Cond.instantiable RX6 15 ∈ wsL_law := qr_4 _ (List.mem_of_getElem? (i := 4) rfl)
theorem qz_X6 : Cond.initialized RX6 ∈ wsL_law := qr_4 _ (List.mem_of_getElem? (i := 5) rfl)
theorem qf_X7_30 : Cond.fieldLink RX7 30 "BandDayModel" "s" "LBandDayModel$State;" ∈ wsL_law := qr_4 _ (List.mem_of_getElem? (i := 6) rfl)
theorem qf_X7_34 : Cond.fieldLink RX7 34 "BandDayModel" "ahead" "LBandDayModel$State;" ∈ wsL_law := qr_4 _ (List.mem_of_getElem? (i := 7) rfl)
theorem qi_X6_init : Cond.instanceMethod yX6_init ∈ wsL_law := qr_4 _ (List.mem_of_getElem? (i := 8) rfl)
theorem qc_X6_init : Cond.code yX6_init cX6_init 2 none ∈ wsL_law := qr_4 _ (List.mem_of_getElem? (i := 9) rfl)
theorem qf_X6_3 : Cond.fieldLink RX6 3 "BandDayModel$State" "this$0" "LBandDayModel;" ∈ wsL_law := qr_4 _ (List.mem_of_getElem? (i := 10) rfl)
theorem qm_X6_9 : Cond.methodLink RX6 9 objectInit ∈ wsL_law := qr_4 _ (List.mem_of_getElem? (i := 11) rfl)
theorem qf_X6_15 : Cond.fieldLink RX6 15 "BandDayModel$State" "tired" "[I" ∈ wsL_law := qr_4 _ (List.mem_of_getElem? (i := 12) rfl)
theorem qf_X6_19 : Cond.fieldLink RX6 19 "BandDayModel$State" "absent" "[I" ∈ wsL_law := qr_4 _ (List.mem_of_getElem? (i := 13) rfl)
theorem qf_X6_22 : Cond.fieldLink RX6 22 "BandDayModel$State" "sat" "[I" ∈ wsL_law := qr_4 _ (List.mem_of_getElem? (i := 14) rfl)
theorem qf_X6_25 : Cond.fieldLink RX6 25 "BandDayModel$State" "deputy" "[I" ∈ wsL_law := qr_4 _ (List.mem_of_getElem? (i := 15) rfl)
theorem qf_X6_28 : Cond.fieldLink RX6 28 "BandDayModel$State" "member" "[I" ∈ wsL_law := qr_4 _ (List.mem_of_getElem? (i := 16) rfl)
theorem qf_X6_31 : Cond.fieldLink RX6 31 "BandDayModel$State" "who" "[I" ∈ wsL_law := qr_4 _ (List.mem_of_getElem? (i := 17) rfl)
theorem qf_X6_34 : Cond.fieldLink RX6 34 "BandDayModel$State" "spirit" "[I" ∈ wsL_law := qr_4 _ (List.mem_of_getElem? (i := 18) rfl)
theorem qf_X6_37 : Cond.fieldLink RX6 37 "BandDayModel$State" "points" "[I" ∈ wsL_law := qr_4 _ (List.mem_of_getElem? (i := 19) rfl)
theorem qf_X6_40 : Cond.fieldLink RX6 40 "BandDayModel$State" "outs" "[I" ∈ wsL_law := qr_4 _ (List.mem_of_getElem? (i := 20) rfl)
theorem qf_X6_43 : Cond.fieldLink RX6 43 "BandDayModel$State" "latest" "[I" ∈ wsL_law := qr_4 _ (List.mem_of_getElem? (i := 21) rfl)
theorem qf_X6_46 : Cond.fieldLink RX6 46 "BandDayModel$State" "times" "[I" ∈ wsL_law := qr_4 _ (List.mem_of_getElem? (i := 22) rfl)
theorem qm_L_75 : Cond.methodLink RL 75 yL_addPlayer ∈ wsL_law := qr_4 _ (List.mem_of_getElem? (i := 23) rfl)
theorem qt_L_addPlayer : Cond.static yL_addPlayer ∈ wsL_law := qr_5 _ (List.mem_of_getElem? (i := 0) rfl)
theorem qz_L : Cond.initialized RL ∈ wsL_law := qr_5 _ (List.mem_of_getElem? (i := 1) rfl)
theorem qc_L_addPlayer : Cond.codeWith yL_addPlayer cL_addPlayer 7 (some .int) [(0, 14, 17, 13), (0, 14, 21, 15)] ∈ wsL_law := qr_5 _ (List.mem_of_getElem? (i := 2) rfl)
theorem qk_L_13 : Cond.classLink RL 13 "java/lang/IllegalArgumentException" ∈ wsL_law := qr_5 _ (List.mem_of_getElem? (i := 3) rfl)
theorem qk_L_15 : Cond.classLink RL 15 "java/lang/IllegalStateException" ∈ wsL_law := qr_5 _ (List.mem_of_getElem? (i := 4) rfl)
theorem qm_L_7 : Cond.methodLink RL 7 yX5_addPlayer ∈ wsL_law := qr_5 _ (List.mem_of_getElem? (i := 5) rfl)
theorem qi_X5_addPlayer : Cond.instanceMethod yX5_addPlayer ∈ wsL_law := qr_5 _ (List.mem_of_getElem? (i := 6) rfl)
theorem qs_X5_addPlayer : Cond.selects RX5 yX5_addPlayer yX5_addPlayer ∈ wsL_law := qr_5 _ (List.mem_of_getElem? (i := 7) rfl)
theorem qc_X5_addPlayer : Cond.code yX5_addPlayer cX5_addPlayer 5 (some .int) ∈ wsL_law := qr_5 _ (List.mem_of_getElem? (i := 8) rfl)
theorem qk_X5_35 : Cond.classLink RX5 35 "java/lang/IllegalArgumentException" ∈ wsL_law := qr_5 _ (List.mem_of_getElem? (i := 9) rfl)
theorem qz_IllegalArgumentException : Cond.initialized "java/lang/IllegalArgumentException" ∈ wsL_law := qr_5 _ (List.mem_of_getElem? (i := 10) rfl)
theorem qk_X5_46 : Cond.classLink RX5 46 "java/lang/IllegalStateException" ∈ wsL_law := qr_5 _ (List.mem_of_getElem? (i := 11) rfl)
theorem qz_IllegalStateException : Cond.initialized "java/lang/IllegalStateException" ∈ wsL_law := qr_5 _ (List.mem_of_getElem? (i := 12) rfl)
theorem qf_X5_42 : Cond.fieldLink RX5 42 "BandDay$Season" "playerCount" "I" ∈ wsL_law := qr_5 _ (List.mem_of_getElem? (i := 13) rfl)
theorem qm_X5_31 : Cond.methodLink RX5 31 yX5_isSkill ∈ wsL_law := qr_5 _ (List.mem_of_getElem? (i := 14) rfl)
theorem qt_X5_isSkill : Cond.static yX5_isSkill ∈ wsL_law := qr_5 _ (List.mem_of_getElem? (i := 15) rfl)
theorem qc_X5_isSkill : Cond.code yX5_isSkill cX5_isSkill 1 (some .boolean) ∈ wsL_law := qr_5 _ (List.mem_of_getElem? (i := 16) rfl)
theorem qm_X5_51 : Cond.methodLink RX5 51 yX4_enrol ∈ wsL_law := qr_5 _ (List.mem_of_getElem? (i := 17) rfl)
theorem qi_X4_enrol : Cond.instanceMethod yX4_enrol ∈ wsL_law := qr_5 _ (List.mem_of_getElem? (i := 18) rfl)
theorem qs_X4_enrol : Cond.selects RX4 yX4_enrol yX4_enrol ∈ wsL_law := qr_5 _ (List.mem_of_getElem? (i := 19) rfl)
theorem qc_X4_enrol : Cond.code yX4_enrol cX4_enrol 6 (some .int) ∈ wsL_law := qr_5 _ (List.mem_of_getElem? (i := 20) rfl)
theorem qf_X4_32 : Cond.fieldLink RX4 32 "BandDay$Season" "playerCount" "I" ∈ wsL_law := qr_5 _ (List.mem_of_getElem? (i := 21) rfl)
theorem qf_X4_69 : Cond.fieldLink RX4 69 "BandDay$Player" "skills" "[I" ∈ wsL_law := qr_5 _ (List.mem_of_getElem? (i := 22) rfl)
theorem qm_L_80 : Cond.methodLink RL 80 yX7_addPlayer ∈ wsL_law := qr_5 _ (List.mem_of_getElem? (i := 23) rfl)
theorem qi_X7_addPlayer : Cond.instanceMethod yX7_addPlayer ∈ wsL_law := qr_6 _ (List.mem_of_getElem? (i := 0) rfl)
theorem qs_X7_addPlayer : Cond.selects RX7 yX7_addPlayer yX7_addPlayer ∈ wsL_law := qr_6 _ (List.mem_of_getElem? (i := 1) rfl)
theorem qc_X7_addPlayer : Cond.code yX7_addPlayer cX7_addPlayer 6 (some .int) ∈ wsL_law := qr_6 _ (List.mem_of_getElem? (i := 2) rfl)
theorem qf_X7_37 : Cond.fieldLink RX7 37 "BandDayModel" "thrown" "I" ∈ wsL_law := qr_6 _ (List.mem_of_getElem? (i := 3) rfl)
theorem qf_X7_41 : Cond.fieldLink RX7 41 "BandDayModel" "players" "I" ∈ wsL_law := qr_6 _ (List.mem_of_getElem? (i := 4) rfl)
theorem qm_X7_59 : Cond.methodLink RX7 59 arraycopyName ∈ wsL_law := qr_6 _ (List.mem_of_getElem? (i := 5) rfl)
theorem qn_arraycopyName : Cond.native arraycopyName ∈ wsL_law := qr_6 _ (List.mem_of_getElem? (i := 6) rfl)
theorem qt_arraycopyName : Cond.static arraycopyName ∈ wsL_law := qr_6 _ (List.mem_of_getElem? (i := 7) rfl)
theorem qz_System : Cond.initialized "java/lang/System" ∈ wsL_law := qr_6 _ (List.mem_of_getElem? (i := 8) rfl)
theorem qm_X7_44 : Cond.methodLink RX7 44 yX7_isIn ∈ wsL_law := qr_6 _ (List.mem_of_getElem? (i := 9) rfl)
theorem qt_X7_isIn : Cond.static yX7_isIn ∈ wsL_law := qr_6 _ (List.mem_of_getElem? (i := 10) rfl)
theorem qc_X7_isIn : Cond.code yX7_isIn cX7_isIn 3 (some .boolean) ∈ wsL_law := qr_6 _ (List.mem_of_getElem? (i := 11) rfl)
theorem qm_X7_55 : Cond.methodLink RX7 55 yX7_no ∈ wsL_law := qr_6 _ (List.mem_of_getElem? (i := 12) rfl)
theorem qi_X7_no : Cond.instanceMethod yX7_no ∈ wsL_law := qr_6 _ (List.mem_of_getElem? (i := 13) rfl)
theorem qs_X7_no : Cond.selects RX7 yX7_no yX7_no ∈ wsL_law := qr_6 _ (List.mem_of_getElem? (i := 14) rfl)
theorem qc_X7_no : Cond.code yX7_no cX7_no 2 (some .int) ∈ wsL_law := qr_6 _ (List.mem_of_getElem? (i := 15) rfl)
theorem qm_L_81 : Cond.methodLink RL 81 yX7_thrown ∈ wsL_law := qr_6 _ (List.mem_of_getElem? (i := 16) rfl)
theorem qi_X7_thrown : Cond.instanceMethod yX7_thrown ∈ wsL_law := qr_6 _ (List.mem_of_getElem? (i := 17) rfl)
theorem qs_X7_thrown : Cond.selects RX7 yX7_thrown yX7_thrown ∈ wsL_law := qr_6 _ (List.mem_of_getElem? (i := 18) rfl)
theorem qc_X7_thrown : Cond.code yX7_thrown cX7_thrown 1 (some .int) ∈ wsL_law := qr_6 _ (List.mem_of_getElem? (i := 19) rfl)
theorem qm_L_84 : Cond.methodLink RL 84 yL_found ∈ wsL_law := qr_6 _ (List.mem_of_getElem? (i := 20) rfl)
theorem qt_L_found : Cond.static yL_found ∈ wsL_law := qr_6 _ (List.mem_of_getElem? (i := 21) rfl)
theorem qc_L_found : Cond.codeWith yL_found cL_found 4 (some .int) [(0, 9, 12, 13), (0, 9, 15, 15)] ∈ wsL_law := qr_6 _ (List.mem_of_getElem? (i := 22) rfl)
theorem qm_L_17 : Cond.methodLink RL 17 yX5_found ∈ wsL_law := qr_6 _ (List.mem_of_getElem? (i := 23) rfl)
theorem qi_X5_found : Cond.instanceMethod yX5_found ∈ wsL_law := qr_7 _ (List.mem_of_getElem? (i := 0) rfl)
theorem qs_X5_found : Cond.selects RX5 yX5_found yX5_found ∈ wsL_law := qr_7 _ (List.mem_of_getElem? (i := 1) rfl)
theorem qc_X5_found : Cond.code yX5_found cX5_found 3 (some .int) ∈ wsL_law := qr_7 _ (List.mem_of_getElem? (i := 2) rfl)
theorem qf_X5_61 : Cond.fieldLink RX5 61 "BandDay$Season" "bandCount" "I" ∈ wsL_law := qr_7 _ (List.mem_of_getElem? (i := 3) rfl)
theorem qm_X5_55 : Cond.methodLink RX5 55 yX5_seatsIn ∈ wsL_law := qr_7 _ (List.mem_of_getElem? (i := 4) rfl)
theorem qt_X5_seatsIn : Cond.static yX5_seatsIn ∈ wsL_law := qr_7 _ (List.mem_of_getElem? (i := 5) rfl)
theorem qc_X5_seatsIn : Cond.code yX5_seatsIn cX5_seatsIn 4 (some .int) ∈ wsL_law := qr_7 _ (List.mem_of_getElem? (i := 6) rfl)
theorem qm_X5_66 : Cond.methodLink RX5 66 yX4_open ∈ wsL_law := qr_7 _ (List.mem_of_getElem? (i := 7) rfl)
theorem qi_X4_open : Cond.instanceMethod yX4_open ∈ wsL_law := qr_7 _ (List.mem_of_getElem? (i := 8) rfl)
theorem qs_X4_open : Cond.selects RX4 yX4_open yX4_open ∈ wsL_law := qr_7 _ (List.mem_of_getElem? (i := 9) rfl)
theorem qc_X4_open : Cond.code yX4_open cX4_open 3 (some .int) ∈ wsL_law := qr_7 _ (List.mem_of_getElem? (i := 10) rfl)
theorem qf_X4_40 : Cond.fieldLink RX4 40 "BandDay$Season" "bandCount" "I" ∈ wsL_law := qr_7 _ (List.mem_of_getElem? (i := 11) rfl)
theorem qm_X4_72 : Cond.methodLink RX4 72 yX0_furnish ∈ wsL_law := qr_7 _ (List.mem_of_getElem? (i := 12) rfl)
theorem qi_X0_furnish : Cond.instanceMethod yX0_furnish ∈ wsL_law := qr_7 _ (List.mem_of_getElem? (i := 13) rfl)
theorem qs_X0_furnish : Cond.selects RX0 yX0_furnish yX0_furnish ∈ wsL_law := qr_7 _ (List.mem_of_getElem? (i := 14) rfl)
theorem qc_X0_furnish : Cond.code yX0_furnish cX0_furnish 5 none ∈ wsL_law := qr_7 _ (List.mem_of_getElem? (i := 15) rfl)
theorem qm_X0_47 : Cond.methodLink RX0 47 Lib.Math.min.name ∈ wsL_law := qr_7 _ (List.mem_of_getElem? (i := 16) rfl)
theorem qt_Lib_Math_min_name : Cond.static Lib.Math.min.name ∈ wsL_law := qr_7 _ (List.mem_of_getElem? (i := 17) rfl)
theorem qz_Math : Cond.initialized "java/lang/Math" ∈ wsL_law := qr_7 _ (List.mem_of_getElem? (i := 18) rfl)
theorem qc_Lib_Math_min_name : Cond.code Lib.Math.min.name Lib.Math.min.code 2 (some .int) ∈ wsL_law := qr_7 _ (List.mem_of_getElem? (i := 19) rfl)
theorem qf_X0_31 : Cond.fieldLink RX0 31 "BandDay$Band" "size" "I" ∈ wsL_law := qr_7 _ (List.mem_of_getElem? (i := 20) rfl)
theorem qf_X0_53 : Cond.fieldLink RX0 53 "BandDay$Chair" "instrument" "I" ∈ wsL_law := qr_7 _ (List.mem_of_getElem? (i := 21) rfl)
theorem qm_L_87 : Cond.methodLink RL 87 yX7_found ∈ wsL_law := qr_7 _ (List.mem_of_getElem? (i := 22) rfl)
theorem qi_X7_found : Cond.instanceMethod yX7_found ∈ wsL_law := qr_7 _ (List.mem_of_getElem? (i := 23) rfl)
theorem qs_X7_found : Cond.selects RX7 yX7_found yX7_found ∈ wsL_law := qr_8 _ (List.mem_of_getElem? (i := 0) rfl)
theorem qc_X7_found : Cond.code yX7_found cX7_found 6 (some .int) ∈ wsL_law := qr_8 _ (List.mem_of_getElem? (i := 1) rfl)
theorem qd_X7_65 : Cond.constant RX7 65 (100000000) ∈ wsL_law := qr_8 _ (List.mem_of_getElem? (i := 2) rfl)
theorem qf_X7_48 : Cond.fieldLink RX7 48 "BandDayModel" "bands" "I" ∈ wsL_law := qr_8 _ (List.mem_of_getElem? (i := 3) rfl)
theorem qm_L_88 : Cond.methodLink RL 88 yL_seat ∈ wsL_law := qr_8 _ (List.mem_of_getElem? (i := 4) rfl)
theorem qt_L_seat : Cond.static yL_seat ∈ wsL_law := qr_8 _ (List.mem_of_getElem? (i := 5) rfl)
theorem qc_L_seat : Cond.codeWith yL_seat cL_seat 6 (some .int) [(0, 12, 15, 25), (0, 12, 19, 15)] ∈ wsL_law := qr_8 _ (List.mem_of_getElem? (i := 6) rfl)
theorem qk_L_25 : Cond.classLink RL 25 "java/lang/IndexOutOfBoundsException" ∈ wsL_law := qr_8 _ (List.mem_of_getElem? (i := 7) rfl)
theorem qm_L_21 : Cond.methodLink RL 21 yX5_seat ∈ wsL_law := qr_8 _ (List.mem_of_getElem? (i := 8) rfl)
theorem qi_X5_seat : Cond.instanceMethod yX5_seat ∈ wsL_law := qr_8 _ (List.mem_of_getElem? (i := 9) rfl)
theorem qs_X5_seat : Cond.selects RX5 yX5_seat yX5_seat ∈ wsL_law := qr_8 _ (List.mem_of_getElem? (i := 10) rfl)
theorem qc_X5_seat : Cond.code yX5_seat cX5_seat 6 (some .int) ∈ wsL_law := qr_8 _ (List.mem_of_getElem? (i := 11) rfl)
theorem qf_X5_78 : Cond.fieldLink RX5 78 "BandDay$Chair" "member" "I" ∈ wsL_law := qr_8 _ (List.mem_of_getElem? (i := 12) rfl)
theorem qm_X5_70 : Cond.methodLink RX5 70 yX5_needChair ∈ wsL_law := qr_8 _ (List.mem_of_getElem? (i := 13) rfl)
theorem qi_X5_needChair : Cond.instanceMethod yX5_needChair ∈ wsL_law := qr_8 _ (List.mem_of_getElem? (i := 14) rfl)
theorem qs_X5_needChair : Cond.selects RX5 yX5_needChair yX5_needChair ∈ wsL_law := qr_8 _ (List.mem_of_getElem? (i := 15) rfl)
theorem qc_X5_needChair : Cond.code yX5_needChair cX5_needChair 4 (some (.object "BandDay$Chair")) ∈ wsL_law := qr_8 _ (List.mem_of_getElem? (i := 16) rfl)
theorem qk_X5_148 : Cond.classLink RX5 148 "java/lang/IndexOutOfBoundsException" ∈ wsL_law := qr_8 _ (List.mem_of_getElem? (i := 17) rfl)
theorem qz_IndexOutOfBoundsException : Cond.initialized "java/lang/IndexOutOfBoundsException" ∈ wsL_law := qr_8 _ (List.mem_of_getElem? (i := 18) rfl)
theorem qm_X5_103 : Cond.methodLink RX5 103 yX5_needBand ∈ wsL_law := qr_8 _ (List.mem_of_getElem? (i := 19) rfl)
theorem qi_X5_needBand : Cond.instanceMethod yX5_needBand ∈ wsL_law := qr_8 _ (List.mem_of_getElem? (i := 20) rfl)
theorem qs_X5_needBand : Cond.selects RX5 yX5_needBand yX5_needBand ∈ wsL_law := qr_8 _ (List.mem_of_getElem? (i := 21) rfl)
theorem qc_X5_needBand : Cond.code yX5_needBand cX5_needBand 3 (some (.object "BandDay$Band")) ∈ wsL_law := qr_8 _ (List.mem_of_getElem? (i := 22) rfl)
theorem qm_X5_162 : Cond.methodLink RX5 162 yX4_bandAt ∈ wsL_law := qr_8 _ (List.mem_of_getElem? (i := 23) rfl)
theorem qi_X4_bandAt : Cond.instanceMethod yX4_bandAt ∈ wsL_law := qr_9 _ (List.mem_of_getElem? (i := 0) rfl)
theorem qs_X4_bandAt : Cond.selects RX4 yX4_bandAt yX4_bandAt ∈ wsL_law := qr_9 _ (List.mem_of_getElem? (i := 1) rfl)
theorem qc_X4_bandAt : Cond.code yX4_bandAt cX4_bandAt 2 (some (.object "BandDay$Band")) ∈ wsL_law := qr_9 _ (List.mem_of_getElem? (i := 2) rfl)
theorem qm_X5_196 : Cond.methodLink RX5 196 yX0_chairAt ∈ wsL_law := qr_9 _ (List.mem_of_getElem? (i := 3) rfl)
theorem qi_X0_chairAt : Cond.instanceMethod yX0_chairAt ∈ wsL_law := qr_9 _ (List.mem_of_getElem? (i := 4) rfl)
theorem qs_X0_chairAt : Cond.selects RX0 yX0_chairAt yX0_chairAt ∈ wsL_law := qr_9 _ (List.mem_of_getElem? (i := 5) rfl)
theorem qc_X0_chairAt : Cond.code yX0_chairAt cX0_chairAt 2 (some (.object "BandDay$Chair")) ∈ wsL_law := qr_9 _ (List.mem_of_getElem? (i := 6) rfl)
theorem qm_X5_74 : Cond.methodLink RX5 74 yX5_needPlayer ∈ wsL_law := qr_9 _ (List.mem_of_getElem? (i := 7) rfl)
theorem qi_X5_needPlayer : Cond.instanceMethod yX5_needPlayer ∈ wsL_law := qr_9 _ (List.mem_of_getElem? (i := 8) rfl)
theorem qs_X5_needPlayer : Cond.selects RX5 yX5_needPlayer yX5_needPlayer ∈ wsL_law := qr_9 _ (List.mem_of_getElem? (i := 9) rfl)
theorem qc_X5_needPlayer : Cond.code yX5_needPlayer cX5_needPlayer 3 (some (.object "BandDay$Player")) ∈ wsL_law := qr_9 _ (List.mem_of_getElem? (i := 10) rfl)
theorem qm_X5_189 : Cond.methodLink RX5 189 yX4_playerAt ∈ wsL_law := qr_9 _ (List.mem_of_getElem? (i := 11) rfl)
theorem qi_X4_playerAt : Cond.instanceMethod yX4_playerAt ∈ wsL_law := qr_9 _ (List.mem_of_getElem? (i := 12) rfl)
theorem qs_X4_playerAt : Cond.selects RX4 yX4_playerAt yX4_playerAt ∈ wsL_law := qr_9 _ (List.mem_of_getElem? (i := 13) rfl)
theorem qc_X4_playerAt : Cond.code yX4_playerAt cX4_playerAt 2 (some (.object "BandDay$Player")) ∈ wsL_law := qr_9 _ (List.mem_of_getElem? (i := 14) rfl)
theorem qm_X5_85 : Cond.methodLink RX5 85 yX4_leave ∈ wsL_law := qr_9 _ (List.mem_of_getElem? (i := 15) rfl)
theorem qi_X4_leave : Cond.instanceMethod yX4_leave ∈ wsL_law := qr_9 _ (List.mem_of_getElem? (i := 16) rfl)
theorem qs_X4_leave : Cond.selects RX4 yX4_leave yX4_leave ∈ wsL_law := qr_9 _ (List.mem_of_getElem? (i := 17) rfl)
theorem qc_X4_leave : Cond.code yX4_leave cX4_leave 4 none ∈ wsL_law := qr_9 _ (List.mem_of_getElem? (i := 18) rfl)
theorem qf_X4_80 : Cond.fieldLink RX4 80 "BandDay$Player" "band" "I" ∈ wsL_law := qr_9 _ (List.mem_of_getElem? (i := 19) rfl)
theorem qf_X4_83 : Cond.fieldLink RX4 83 "BandDay$Player" "seat" "I" ∈ wsL_law := qr_9 _ (List.mem_of_getElem? (i := 20) rfl)
theorem qf_X4_89 : Cond.fieldLink RX4 89 "BandDay$Chair" "member" "I" ∈ wsL_law := qr_9 _ (List.mem_of_getElem? (i := 21) rfl)
theorem qm_X4_76 : Cond.methodLink RX4 76 yX4_playerAt ∈ wsL_law := qr_9 _ (List.mem_of_getElem? (i := 22) rfl)
theorem qm_X4_86 : Cond.methodLink RX4 86 yX4_chairAt ∈ wsL_law := qr_9 _ (List.mem_of_getElem? (i := 23) rfl)
theorem qi_X4_chairAt : Cond.instanceMethod yX4_chairAt ∈ wsL_law := qr_10 _ (List.mem_of_getElem? (i := 0) rfl)
theorem qs_X4_chairAt : Cond.selects RX4 yX4_chairAt yX4_chairAt ∈ wsL_law := qr_10 _ (List.mem_of_getElem? (i := 1) rfl)
theorem qc_X4_chairAt : Cond.code yX4_chairAt cX4_chairAt 4 (some (.object "BandDay$Chair")) ∈ wsL_law := qr_10 _ (List.mem_of_getElem? (i := 2) rfl)
theorem qm_X4_61 : Cond.methodLink RX4 61 yX4_bandAt ∈ wsL_law := qr_10 _ (List.mem_of_getElem? (i := 3) rfl)
theorem qm_X4_65 : Cond.methodLink RX4 65 yX0_chairAt ∈ wsL_law := qr_10 _ (List.mem_of_getElem? (i := 4) rfl)
theorem qm_X5_89 : Cond.methodLink RX5 89 yX4_putOn ∈ wsL_law := qr_10 _ (List.mem_of_getElem? (i := 5) rfl)
theorem qi_X4_putOn : Cond.instanceMethod yX4_putOn ∈ wsL_law := qr_10 _ (List.mem_of_getElem? (i := 6) rfl)
theorem qs_X4_putOn : Cond.selects RX4 yX4_putOn yX4_putOn ∈ wsL_law := qr_10 _ (List.mem_of_getElem? (i := 7) rfl)
theorem qc_X4_putOn : Cond.code yX4_putOn cX4_putOn 6 none ∈ wsL_law := qr_10 _ (List.mem_of_getElem? (i := 8) rfl)
theorem qm_L_91 : Cond.methodLink RL 91 yX7_seat ∈ wsL_law := qr_10 _ (List.mem_of_getElem? (i := 9) rfl)
theorem qi_X7_seat : Cond.instanceMethod yX7_seat ∈ wsL_law := qr_10 _ (List.mem_of_getElem? (i := 10) rfl)
theorem qs_X7_seat : Cond.selects RX7 yX7_seat yX7_seat ∈ wsL_law := qr_10 _ (List.mem_of_getElem? (i := 11) rfl)
theorem qc_X7_seat : Cond.code yX7_seat cX7_seat 7 (some .int) ∈ wsL_law := qr_10 _ (List.mem_of_getElem? (i := 12) rfl)
theorem qm_X7_75 : Cond.methodLink RX7 75 yX7_isSeat ∈ wsL_law := qr_10 _ (List.mem_of_getElem? (i := 13) rfl)
theorem qi_X7_isSeat : Cond.instanceMethod yX7_isSeat ∈ wsL_law := qr_10 _ (List.mem_of_getElem? (i := 14) rfl)
theorem qs_X7_isSeat : Cond.selects RX7 yX7_isSeat yX7_isSeat ∈ wsL_law := qr_10 _ (List.mem_of_getElem? (i := 15) rfl)
theorem qc_X7_isSeat : Cond.code yX7_isSeat cX7_isSeat 3 (some .boolean) ∈ wsL_law := qr_10 _ (List.mem_of_getElem? (i := 16) rfl)
theorem qm_X7_51 : Cond.methodLink RX7 51 yX7_isBand ∈ wsL_law := qr_10 _ (List.mem_of_getElem? (i := 17) rfl)
theorem qi_X7_isBand : Cond.instanceMethod yX7_isBand ∈ wsL_law := qr_10 _ (List.mem_of_getElem? (i := 18) rfl)
theorem qs_X7_isBand : Cond.selects RX7 yX7_isBand yX7_isBand ∈ wsL_law := qr_10 _ (List.mem_of_getElem? (i := 19) rfl)
theorem qc_X7_isBand : Cond.code yX7_isBand cX7_isBand 2 (some .boolean) ∈ wsL_law := qr_10 _ (List.mem_of_getElem? (i := 20) rfl)
theorem qm_X7_79 : Cond.methodLink RX7 79 yX7_isPlayer ∈ wsL_law := qr_10 _ (List.mem_of_getElem? (i := 21) rfl)
theorem qi_X7_isPlayer : Cond.instanceMethod yX7_isPlayer ∈ wsL_law := qr_10 _ (List.mem_of_getElem? (i := 22) rfl)
theorem qs_X7_isPlayer : Cond.selects RX7 yX7_isPlayer yX7_isPlayer ∈ wsL_law := qr_10 _ (List.mem_of_getElem? (i := 23) rfl)
theorem qc_X7_isPlayer : Cond.code yX7_isPlayer cX7_isPlayer 2 (some .boolean) ∈ wsL_law := qr_11 _ (List.mem_of_getElem? (i := 0) rfl)
theorem qm_X7_82 : Cond.methodLink RX7 82 yX6_seatOf ∈ wsL_law := qr_11 _ (List.mem_of_getElem? (i := 1) rfl)
theorem qi_X6_seatOf : Cond.instanceMethod yX6_seatOf ∈ wsL_law := qr_11 _ (List.mem_of_getElem? (i := 2) rfl)
theorem qs_X6_seatOf : Cond.selects RX6 yX6_seatOf yX6_seatOf ∈ wsL_law := qr_11 _ (List.mem_of_getElem? (i := 3) rfl)
theorem qc_X6_seatOf : Cond.code yX6_seatOf cX6_seatOf 3 (some .int) ∈ wsL_law := qr_11 _ (List.mem_of_getElem? (i := 4) rfl)
theorem qm_L_92 : Cond.methodLink RL 92 yL_change ∈ wsL_law := qr_11 _ (List.mem_of_getElem? (i := 5) rfl)
theorem qt_L_change : Cond.static yL_change ∈ wsL_law := qr_11 _ (List.mem_of_getElem? (i := 6) rfl)
theorem qc_L_change : Cond.codeWith yL_change cL_change 6 (some .int) [(0, 12, 15, 25)] ∈ wsL_law := qr_11 _ (List.mem_of_getElem? (i := 7) rfl)
theorem qm_L_27 : Cond.methodLink RL 27 yX5_change ∈ wsL_law := qr_11 _ (List.mem_of_getElem? (i := 8) rfl)
theorem qi_X5_change : Cond.instanceMethod yX5_change ∈ wsL_law := qr_11 _ (List.mem_of_getElem? (i := 9) rfl)
theorem qs_X5_change : Cond.selects RX5 yX5_change yX5_change ∈ wsL_law := qr_11 _ (List.mem_of_getElem? (i := 10) rfl)
theorem qc_X5_change : Cond.code yX5_change cX5_change 5 (some .int) ∈ wsL_law := qr_11 _ (List.mem_of_getElem? (i := 11) rfl)
theorem qm_X5_93 : Cond.methodLink RX5 93 yX4_swapMembers ∈ wsL_law := qr_11 _ (List.mem_of_getElem? (i := 12) rfl)
theorem qi_X4_swapMembers : Cond.instanceMethod yX4_swapMembers ∈ wsL_law := qr_11 _ (List.mem_of_getElem? (i := 13) rfl)
theorem qs_X4_swapMembers : Cond.selects RX4 yX4_swapMembers yX4_swapMembers ∈ wsL_law := qr_11 _ (List.mem_of_getElem? (i := 14) rfl)
theorem qc_X4_swapMembers : Cond.code yX4_swapMembers cX4_swapMembers 8 none ∈ wsL_law := qr_11 _ (List.mem_of_getElem? (i := 15) rfl)
theorem qm_X4_94 : Cond.methodLink RX4 94 yX4_putOn ∈ wsL_law := qr_11 _ (List.mem_of_getElem? (i := 16) rfl)
theorem qm_L_94 : Cond.methodLink RL 94 yX7_change ∈ wsL_law := qr_11 _ (List.mem_of_getElem? (i := 17) rfl)
theorem qi_X7_change : Cond.instanceMethod yX7_change ∈ wsL_law := qr_11 _ (List.mem_of_getElem? (i := 18) rfl)
theorem qs_X7_change : Cond.selects RX7 yX7_change yX7_change ∈ wsL_law := qr_11 _ (List.mem_of_getElem? (i := 19) rfl)
theorem qc_X7_change : Cond.code yX7_change cX7_change 4 (some .int) ∈ wsL_law := qr_11 _ (List.mem_of_getElem? (i := 20) rfl)
theorem qm_X7_85 : Cond.methodLink RX7 85 yX7_swap ∈ wsL_law := qr_11 _ (List.mem_of_getElem? (i := 21) rfl)
theorem qt_X7_swap : Cond.static yX7_swap ∈ wsL_law := qr_11 _ (List.mem_of_getElem? (i := 22) rfl)
theorem qc_X7_swap : Cond.code yX7_swap cX7_swap 4 none ∈ wsL_law := qr_11 _ (List.mem_of_getElem? (i := 23) rfl)
theorem qm_L_95 : Cond.methodLink RL 95 yL_absent ∈ wsL_law := qr_12 _ (List.mem_of_getElem? (i := 0) rfl)
theorem qt_L_absent : Cond.static yL_absent ∈ wsL_law := qr_12 _ (List.mem_of_getElem? (i := 1) rfl)
theorem qc_L_absent : Cond.codeWith yL_absent cL_absent 5 (some .int) [(0, 10, 13, 25), (0, 10, 17, 13)] ∈ wsL_law := qr_12 _ (List.mem_of_getElem? (i := 2) rfl)
theorem qm_L_30 : Cond.methodLink RL 30 yX5_absent ∈ wsL_law := qr_12 _ (List.mem_of_getElem? (i := 3) rfl)
theorem qi_X5_absent : Cond.instanceMethod yX5_absent ∈ wsL_law := qr_12 _ (List.mem_of_getElem? (i := 4) rfl)
theorem qs_X5_absent : Cond.selects RX5 yX5_absent yX5_absent ∈ wsL_law := qr_12 _ (List.mem_of_getElem? (i := 5) rfl)
theorem qc_X5_absent : Cond.code yX5_absent cX5_absent 5 (some .int) ∈ wsL_law := qr_12 _ (List.mem_of_getElem? (i := 6) rfl)
theorem qf_X5_98 : Cond.fieldLink RX5 98 "BandDay$Player" "absences" "I" ∈ wsL_law := qr_12 _ (List.mem_of_getElem? (i := 7) rfl)
theorem qm_L_98 : Cond.methodLink RL 98 yX7_absent ∈ wsL_law := qr_12 _ (List.mem_of_getElem? (i := 8) rfl)
theorem qi_X7_absent : Cond.instanceMethod yX7_absent ∈ wsL_law := qr_12 _ (List.mem_of_getElem? (i := 9) rfl)
theorem qs_X7_absent : Cond.selects RX7 yX7_absent yX7_absent ∈ wsL_law := qr_12 _ (List.mem_of_getElem? (i := 10) rfl)
theorem qc_X7_absent : Cond.code yX7_absent cX7_absent 4 (some .int) ∈ wsL_law := qr_12 _ (List.mem_of_getElem? (i := 11) rfl)
theorem qm_L_99 : Cond.methodLink RL 99 yL_rehearse ∈ wsL_law := qr_12 _ (List.mem_of_getElem? (i := 12) rfl)
theorem qt_L_rehearse : Cond.static yL_rehearse ∈ wsL_law := qr_12 _ (List.mem_of_getElem? (i := 13) rfl)
theorem qc_L_rehearse : Cond.codeWith yL_rehearse cL_rehearse 4 (some .int) [(0, 9, 12, 25)] ∈ wsL_law := qr_12 _ (List.mem_of_getElem? (i := 14) rfl)
theorem qm_L_34 : Cond.methodLink RL 34 yX5_rehearse ∈ wsL_law := qr_12 _ (List.mem_of_getElem? (i := 15) rfl)
theorem qi_X5_rehearse : Cond.instanceMethod yX5_rehearse ∈ wsL_law := qr_12 _ (List.mem_of_getElem? (i := 16) rfl)
theorem qs_X5_rehearse : Cond.selects RX5 yX5_rehearse yX5_rehearse ∈ wsL_law := qr_12 _ (List.mem_of_getElem? (i := 17) rfl)
theorem qc_X5_rehearse : Cond.code yX5_rehearse cX5_rehearse 3 (some .int) ∈ wsL_law := qr_12 _ (List.mem_of_getElem? (i := 18) rfl)
theorem qf_X5_116 : Cond.fieldLink RX5 116 "BandDay$Band" "spirit" "I" ∈ wsL_law := qr_12 _ (List.mem_of_getElem? (i := 19) rfl)
theorem qm_X5_107 : Cond.methodLink RX5 107 yX0_raiseSpirit ∈ wsL_law := qr_12 _ (List.mem_of_getElem? (i := 20) rfl)
theorem qi_X0_raiseSpirit : Cond.instanceMethod yX0_raiseSpirit ∈ wsL_law := qr_12 _ (List.mem_of_getElem? (i := 21) rfl)
theorem qs_X0_raiseSpirit : Cond.selects RX0 yX0_raiseSpirit yX0_raiseSpirit ∈ wsL_law := qr_12 _ (List.mem_of_getElem? (i := 22) rfl)
theorem qc_X0_raiseSpirit : Cond.code yX0_raiseSpirit cX0_raiseSpirit 2 none ∈ wsL_law := qr_12 _ (List.mem_of_getElem? (i := 23) rfl)
theorem qf_X0_38 : Cond.fieldLink RX0 38 "BandDay$Band" "spirit" "I" ∈ wsL_law := qr_13 _ (List.mem_of_getElem? (i := 0) rfl)
theorem qm_X0_56 : Cond.methodLink RX0 56 Lib.Math.max.name ∈ wsL_law := qr_13 _ (List.mem_of_getElem? (i := 1) rfl)
theorem qt_Lib_Math_max_name : Cond.static Lib.Math.max.name ∈ wsL_law := qr_13 _ (List.mem_of_getElem? (i := 2) rfl)
theorem qc_Lib_Math_max_name : Cond.code Lib.Math.max.name Lib.Math.max.code 2 (some .int) ∈ wsL_law := qr_13 _ (List.mem_of_getElem? (i := 3) rfl)
theorem qm_X5_112 : Cond.methodLink RX5 112 yX4_tireMembers ∈ wsL_law := qr_13 _ (List.mem_of_getElem? (i := 4) rfl)
theorem qi_X4_tireMembers : Cond.instanceMethod yX4_tireMembers ∈ wsL_law := qr_13 _ (List.mem_of_getElem? (i := 5) rfl)
theorem qs_X4_tireMembers : Cond.selects RX4 yX4_tireMembers yX4_tireMembers ∈ wsL_law := qr_13 _ (List.mem_of_getElem? (i := 6) rfl)
theorem qc_X4_tireMembers : Cond.code yX4_tireMembers cX4_tireMembers 5 none ∈ wsL_law := qr_13 _ (List.mem_of_getElem? (i := 7) rfl)
theorem qf_X4_98 : Cond.fieldLink RX4 98 "BandDay$Band" "size" "I" ∈ wsL_law := qr_13 _ (List.mem_of_getElem? (i := 8) rfl)
theorem qf_X4_101 : Cond.fieldLink RX4 101 "BandDay$Band" "chairs" "[LBandDay$Chair;" ∈ wsL_law := qr_13 _ (List.mem_of_getElem? (i := 9) rfl)
theorem qm_X4_105 : Cond.methodLink RX4 105 yX3_isThere ∈ wsL_law := qr_13 _ (List.mem_of_getElem? (i := 10) rfl)
theorem qi_X3_isThere : Cond.instanceMethod yX3_isThere ∈ wsL_law := qr_13 _ (List.mem_of_getElem? (i := 11) rfl)
theorem qs_X3_isThere : Cond.selects RX3 yX3_isThere yX3_isThere ∈ wsL_law := qr_13 _ (List.mem_of_getElem? (i := 12) rfl)
theorem qc_X3_isThere : Cond.code yX3_isThere cX3_isThere 1 (some .boolean) ∈ wsL_law := qr_13 _ (List.mem_of_getElem? (i := 13) rfl)
theorem qf_X3_31 : Cond.fieldLink RX3 31 "BandDay$Player" "absences" "I" ∈ wsL_law := qr_13 _ (List.mem_of_getElem? (i := 14) rfl)
theorem qm_X4_109 : Cond.methodLink RX4 109 yX3_tire ∈ wsL_law := qr_13 _ (List.mem_of_getElem? (i := 15) rfl)
theorem qi_X3_tire : Cond.instanceMethod yX3_tire ∈ wsL_law := qr_13 _ (List.mem_of_getElem? (i := 16) rfl)
theorem qs_X3_tire : Cond.selects RX3 yX3_tire yX3_tire ∈ wsL_law := qr_13 _ (List.mem_of_getElem? (i := 17) rfl)
theorem qc_X3_tire : Cond.code yX3_tire cX3_tire 2 none ∈ wsL_law := qr_13 _ (List.mem_of_getElem? (i := 18) rfl)
theorem qf_X3_28 : Cond.fieldLink RX3 28 "BandDay$Player" "tired" "I" ∈ wsL_law := qr_13 _ (List.mem_of_getElem? (i := 19) rfl)
theorem qm_X3_47 : Cond.methodLink RX3 47 Lib.Math.min.name ∈ wsL_law := qr_13 _ (List.mem_of_getElem? (i := 20) rfl)
theorem qm_L_101 : Cond.methodLink RL 101 yX7_rehearse ∈ wsL_law := qr_13 _ (List.mem_of_getElem? (i := 21) rfl)
theorem qi_X7_rehearse : Cond.instanceMethod yX7_rehearse ∈ wsL_law := qr_13 _ (List.mem_of_getElem? (i := 22) rfl)
theorem qs_X7_rehearse : Cond.selects RX7 yX7_rehearse yX7_rehearse ∈ wsL_law := qr_13 _ (List.mem_of_getElem? (i := 23) rfl)
theorem qc_X7_rehearse : Cond.code yX7_rehearse cX7_rehearse 4 (some .int) ∈ wsL_law := qr_14 _ (List.mem_of_getElem? (i := 0) rfl)
theorem qm_X7_95 : Cond.methodLink RX7 95 Lib.Math.min.name ∈ wsL_law := qr_14 _ (List.mem_of_getElem? (i := 1) rfl)
theorem qm_L_102 : Cond.methodLink RL 102 yL_setPiece ∈ wsL_law := qr_14 _ (List.mem_of_getElem? (i := 2) rfl)
theorem qt_L_setPiece : Cond.static yL_setPiece ∈ wsL_law := qr_14 _ (List.mem_of_getElem? (i := 3) rfl)
theorem qc_L_setPiece : Cond.codeWith yL_setPiece cL_setPiece 5 (some .int) [(0, 10, 13, 25), (0, 10, 17, 13)] ∈ wsL_law := qr_14 _ (List.mem_of_getElem? (i := 4) rfl)
theorem qm_L_37 : Cond.methodLink RL 37 yX5_setPiece ∈ wsL_law := qr_14 _ (List.mem_of_getElem? (i := 5) rfl)
theorem qi_X5_setPiece : Cond.instanceMethod yX5_setPiece ∈ wsL_law := qr_14 _ (List.mem_of_getElem? (i := 6) rfl)
theorem qs_X5_setPiece : Cond.selects RX5 yX5_setPiece yX5_setPiece ∈ wsL_law := qr_14 _ (List.mem_of_getElem? (i := 7) rfl)
theorem qc_X5_setPiece : Cond.code yX5_setPiece cX5_setPiece 4 (some .int) ∈ wsL_law := qr_14 _ (List.mem_of_getElem? (i := 8) rfl)
theorem qf_X5_124 : Cond.fieldLink RX5 124 "BandDay$Season" "hard" "[I" ∈ wsL_law := qr_14 _ (List.mem_of_getElem? (i := 9) rfl)
theorem qm_X5_119 : Cond.methodLink RX5 119 yX5_needInstrument ∈ wsL_law := qr_14 _ (List.mem_of_getElem? (i := 10) rfl)
theorem qt_X5_needInstrument : Cond.static yX5_needInstrument ∈ wsL_law := qr_14 _ (List.mem_of_getElem? (i := 11) rfl)
theorem qc_X5_needInstrument : Cond.code yX5_needInstrument cX5_needInstrument 1 none ∈ wsL_law := qr_14 _ (List.mem_of_getElem? (i := 12) rfl)
theorem qm_L_104 : Cond.methodLink RL 104 yX7_setPiece ∈ wsL_law := qr_14 _ (List.mem_of_getElem? (i := 13) rfl)
theorem qi_X7_setPiece : Cond.instanceMethod yX7_setPiece ∈ wsL_law := qr_14 _ (List.mem_of_getElem? (i := 14) rfl)
theorem qs_X7_setPiece : Cond.selects RX7 yX7_setPiece yX7_setPiece ∈ wsL_law := qr_14 _ (List.mem_of_getElem? (i := 15) rfl)
theorem qc_X7_setPiece : Cond.code yX7_setPiece cX7_setPiece 4 (some .int) ∈ wsL_law := qr_14 _ (List.mem_of_getElem? (i := 16) rfl)
theorem qm_L_105 : Cond.methodLink RL 105 yL_setTaste ∈ wsL_law := qr_14 _ (List.mem_of_getElem? (i := 17) rfl)
theorem qt_L_setTaste : Cond.static yL_setTaste ∈ wsL_law := qr_14 _ (List.mem_of_getElem? (i := 18) rfl)
theorem qc_L_setTaste : Cond.codeWith yL_setTaste cL_setTaste 5 (some .int) [(0, 10, 13, 25), (0, 10, 17, 13)] ∈ wsL_law := qr_14 _ (List.mem_of_getElem? (i := 19) rfl)
theorem qm_L_40 : Cond.methodLink RL 40 yX5_setTaste ∈ wsL_law := qr_14 _ (List.mem_of_getElem? (i := 20) rfl)
theorem qi_X5_setTaste : Cond.instanceMethod yX5_setTaste ∈ wsL_law := qr_14 _ (List.mem_of_getElem? (i := 21) rfl)
theorem qs_X5_setTaste : Cond.selects RX5 yX5_setTaste yX5_setTaste ∈ wsL_law := qr_14 _ (List.mem_of_getElem? (i := 22) rfl)
theorem qc_X5_setTaste : Cond.code yX5_setTaste cX5_setTaste 4 (some .int) ∈ wsL_law := qr_14 _ (List.mem_of_getElem? (i := 23) rfl)
theorem qf_X5_130 : Cond.fieldLink RX5 130 "BandDay$Season" "weight" "[I" ∈ wsL_law := qr_15 _ (List.mem_of_getElem? (i := 0) rfl)
theorem qm_L_107 : Cond.methodLink RL 107 yX7_setTaste ∈ wsL_law := qr_15 _ (List.mem_of_getElem? (i := 1) rfl)
theorem qi_X7_setTaste : Cond.instanceMethod yX7_setTaste ∈ wsL_law := qr_15 _ (List.mem_of_getElem? (i := 2) rfl)
theorem qs_X7_setTaste : Cond.selects RX7 yX7_setTaste yX7_setTaste ∈ wsL_law := qr_15 _ (List.mem_of_getElem? (i := 3) rfl)
theorem qc_X7_setTaste : Cond.code yX7_setTaste cX7_setTaste 4 (some .int) ∈ wsL_law := qr_15 _ (List.mem_of_getElem? (i := 4) rfl)
theorem qm_L_108 : Cond.methodLink RL 108 yL_player ∈ wsL_law := qr_15 _ (List.mem_of_getElem? (i := 5) rfl)
theorem qt_L_player : Cond.static yL_player ∈ wsL_law := qr_15 _ (List.mem_of_getElem? (i := 6) rfl)
theorem qc_L_player : Cond.codeWith yL_player cL_player 5 (some .int) [(0, 10, 13, 25)] ∈ wsL_law := qr_15 _ (List.mem_of_getElem? (i := 7) rfl)
theorem qm_L_43 : Cond.methodLink RL 43 yX5_player ∈ wsL_law := qr_15 _ (List.mem_of_getElem? (i := 8) rfl)
theorem qi_X5_player : Cond.instanceMethod yX5_player ∈ wsL_law := qr_15 _ (List.mem_of_getElem? (i := 9) rfl)
theorem qs_X5_player : Cond.selects RX5 yX5_player yX5_player ∈ wsL_law := qr_15 _ (List.mem_of_getElem? (i := 10) rfl)
theorem qc_X5_player : Cond.code yX5_player cX5_player 4 (some .int) ∈ wsL_law := qr_15 _ (List.mem_of_getElem? (i := 11) rfl)
theorem qm_X5_133 : Cond.methodLink RX5 133 yX5_needWhat ∈ wsL_law := qr_15 _ (List.mem_of_getElem? (i := 12) rfl)
theorem qt_X5_needWhat : Cond.static yX5_needWhat ∈ wsL_law := qr_15 _ (List.mem_of_getElem? (i := 13) rfl)
theorem qc_X5_needWhat : Cond.code yX5_needWhat cX5_needWhat 2 none ∈ wsL_law := qr_15 _ (List.mem_of_getElem? (i := 14) rfl)
theorem qm_X5_137 : Cond.methodLink RX5 137 yX3_tell ∈ wsL_law := qr_15 _ (List.mem_of_getElem? (i := 15) rfl)
theorem qi_X3_tell : Cond.instanceMethod yX3_tell ∈ wsL_law := qr_15 _ (List.mem_of_getElem? (i := 16) rfl)
theorem qs_X3_tell : Cond.selects RX3 yX3_tell yX3_tell ∈ wsL_law := qr_15 _ (List.mem_of_getElem? (i := 17) rfl)
theorem qc_X3_tell : Cond.code yX3_tell cX3_tell 2 (some .int) ∈ wsL_law := qr_15 _ (List.mem_of_getElem? (i := 18) rfl)
theorem qf_X3_34 : Cond.fieldLink RX3 34 "BandDay$Player" "sittings" "I" ∈ wsL_law := qr_15 _ (List.mem_of_getElem? (i := 19) rfl)
theorem qf_X3_37 : Cond.fieldLink RX3 37 "BandDay$Player" "deputySittings" "I" ∈ wsL_law := qr_15 _ (List.mem_of_getElem? (i := 20) rfl)
theorem qm_X3_56 : Cond.methodLink RX3 56 yX3_skillFor ∈ wsL_law := qr_15 _ (List.mem_of_getElem? (i := 21) rfl)
theorem qi_X3_skillFor : Cond.instanceMethod yX3_skillFor ∈ wsL_law := qr_15 _ (List.mem_of_getElem? (i := 22) rfl)
theorem qs_X3_skillFor : Cond.selects RX3 yX3_skillFor yX3_skillFor ∈ wsL_law := qr_15 _ (List.mem_of_getElem? (i := 23) rfl)
theorem qc_X3_skillFor : Cond.code yX3_skillFor cX3_skillFor 2 (some .int) ∈ wsL_law := qr_16 _ (List.mem_of_getElem? (i := 0) rfl)
theorem qm_L_110 : Cond.methodLink RL 110 yX7_player ∈ wsL_law := qr_16 _ (List.mem_of_getElem? (i := 1) rfl)
theorem qi_X7_player : Cond.instanceMethod yX7_player ∈ wsL_law := qr_16 _ (List.mem_of_getElem? (i := 2) rfl)
theorem qs_X7_player : Cond.selects RX7 yX7_player yX7_player ∈ wsL_law := qr_16 _ (List.mem_of_getElem? (i := 3) rfl)
theorem qc_X7_player : Cond.code yX7_player cX7_player 3 (some .int) ∈ wsL_law := qr_16 _ (List.mem_of_getElem? (i := 4) rfl)
theorem qm_X7_110 : Cond.methodLink RX7 110 yX7_playerTold ∈ wsL_law := qr_16 _ (List.mem_of_getElem? (i := 5) rfl)
theorem qi_X7_playerTold : Cond.instanceMethod yX7_playerTold ∈ wsL_law := qr_16 _ (List.mem_of_getElem? (i := 6) rfl)
theorem qs_X7_playerTold : Cond.selects RX7 yX7_playerTold yX7_playerTold ∈ wsL_law := qr_16 _ (List.mem_of_getElem? (i := 7) rfl)
theorem qc_X7_playerTold : Cond.code yX7_playerTold cX7_playerTold 4 (some .int) ∈ wsL_law := qr_16 _ (List.mem_of_getElem? (i := 8) rfl)
theorem qm_L_111 : Cond.methodLink RL 111 yL_band ∈ wsL_law := qr_16 _ (List.mem_of_getElem? (i := 9) rfl)
theorem qt_L_band : Cond.static yL_band ∈ wsL_law := qr_16 _ (List.mem_of_getElem? (i := 10) rfl)
theorem qc_L_band : Cond.codeWith yL_band cL_band 5 (some .int) [(0, 10, 13, 25)] ∈ wsL_law := qr_16 _ (List.mem_of_getElem? (i := 11) rfl)
theorem qm_L_46 : Cond.methodLink RL 46 yX5_band ∈ wsL_law := qr_16 _ (List.mem_of_getElem? (i := 12) rfl)
theorem qi_X5_band : Cond.instanceMethod yX5_band ∈ wsL_law := qr_16 _ (List.mem_of_getElem? (i := 13) rfl)
theorem qs_X5_band : Cond.selects RX5 yX5_band yX5_band ∈ wsL_law := qr_16 _ (List.mem_of_getElem? (i := 14) rfl)
theorem qc_X5_band : Cond.code yX5_band cX5_band 4 (some .int) ∈ wsL_law := qr_16 _ (List.mem_of_getElem? (i := 15) rfl)
theorem qm_X5_140 : Cond.methodLink RX5 140 yX0_tell ∈ wsL_law := qr_16 _ (List.mem_of_getElem? (i := 16) rfl)
theorem qi_X0_tell : Cond.instanceMethod yX0_tell ∈ wsL_law := qr_16 _ (List.mem_of_getElem? (i := 17) rfl)
theorem qs_X0_tell : Cond.selects RX0 yX0_tell yX0_tell ∈ wsL_law := qr_16 _ (List.mem_of_getElem? (i := 18) rfl)
theorem qc_X0_tell : Cond.code yX0_tell cX0_tell 2 (some .int) ∈ wsL_law := qr_16 _ (List.mem_of_getElem? (i := 19) rfl)
theorem qf_X0_41 : Cond.fieldLink RX0 41 "BandDay$Band" "points" "I" ∈ wsL_law := qr_16 _ (List.mem_of_getElem? (i := 20) rfl)
theorem qf_X0_44 : Cond.fieldLink RX0 44 "BandDay$Band" "outs" "I" ∈ wsL_law := qr_16 _ (List.mem_of_getElem? (i := 21) rfl)
theorem qm_X0_72 : Cond.methodLink RX0 72 yX0_members ∈ wsL_law := qr_16 _ (List.mem_of_getElem? (i := 22) rfl)
theorem qi_X0_members : Cond.instanceMethod yX0_members ∈ wsL_law := qr_16 _ (List.mem_of_getElem? (i := 23) rfl)
theorem qs_X0_members : Cond.selects RX0 yX0_members yX0_members ∈ wsL_law := qr_17 _ (List.mem_of_getElem? (i := 0) rfl)
theorem qc_X0_members : Cond.code yX0_members cX0_members 3 (some .int) ∈ wsL_law := qr_17 _ (List.mem_of_getElem? (i := 1) rfl)
theorem qf_X0_59 : Cond.fieldLink RX0 59 "BandDay$Chair" "member" "I" ∈ wsL_law := qr_17 _ (List.mem_of_getElem? (i := 2) rfl)
theorem qm_L_113 : Cond.methodLink RL 113 yX7_band ∈ wsL_law := qr_17 _ (List.mem_of_getElem? (i := 3) rfl)
theorem qi_X7_band : Cond.instanceMethod yX7_band ∈ wsL_law := qr_17 _ (List.mem_of_getElem? (i := 4) rfl)
theorem qs_X7_band : Cond.selects RX7 yX7_band yX7_band ∈ wsL_law := qr_17 _ (List.mem_of_getElem? (i := 5) rfl)
theorem qc_X7_band : Cond.code yX7_band cX7_band 3 (some .int) ∈ wsL_law := qr_17 _ (List.mem_of_getElem? (i := 6) rfl)
theorem qm_X7_122 : Cond.methodLink RX7 122 yX7_bandTold ∈ wsL_law := qr_17 _ (List.mem_of_getElem? (i := 7) rfl)
theorem qi_X7_bandTold : Cond.instanceMethod yX7_bandTold ∈ wsL_law := qr_17 _ (List.mem_of_getElem? (i := 8) rfl)
theorem qs_X7_bandTold : Cond.selects RX7 yX7_bandTold yX7_bandTold ∈ wsL_law := qr_17 _ (List.mem_of_getElem? (i := 9) rfl)
theorem qc_X7_bandTold : Cond.code yX7_bandTold cX7_bandTold 4 (some .int) ∈ wsL_law := qr_17 _ (List.mem_of_getElem? (i := 10) rfl)
theorem qm_X7_113 : Cond.methodLink RX7 113 yX6_members ∈ wsL_law := qr_17 _ (List.mem_of_getElem? (i := 11) rfl)
theorem qi_X6_members : Cond.instanceMethod yX6_members ∈ wsL_law := qr_17 _ (List.mem_of_getElem? (i := 12) rfl)
theorem qs_X6_members : Cond.selects RX6 yX6_members yX6_members ∈ wsL_law := qr_17 _ (List.mem_of_getElem? (i := 13) rfl)
theorem qc_X6_members : Cond.code yX6_members cX6_members 4 (some .int) ∈ wsL_law := qr_17 _ (List.mem_of_getElem? (i := 14) rfl)
theorem qm_L_114 : Cond.methodLink RL 114 yL_chair ∈ wsL_law := qr_17 _ (List.mem_of_getElem? (i := 15) rfl)
theorem qt_L_chair : Cond.static yL_chair ∈ wsL_law := qr_17 _ (List.mem_of_getElem? (i := 16) rfl)
theorem qc_L_chair : Cond.codeWith yL_chair cL_chair 6 (some .int) [(0, 12, 15, 25)] ∈ wsL_law := qr_17 _ (List.mem_of_getElem? (i := 17) rfl)
theorem qm_L_49 : Cond.methodLink RL 49 yX5_chair ∈ wsL_law := qr_17 _ (List.mem_of_getElem? (i := 18) rfl)
theorem qi_X5_chair : Cond.instanceMethod yX5_chair ∈ wsL_law := qr_17 _ (List.mem_of_getElem? (i := 19) rfl)
theorem qs_X5_chair : Cond.selects RX5 yX5_chair yX5_chair ∈ wsL_law := qr_17 _ (List.mem_of_getElem? (i := 20) rfl)
theorem qc_X5_chair : Cond.code yX5_chair cX5_chair 5 (some .int) ∈ wsL_law := qr_17 _ (List.mem_of_getElem? (i := 21) rfl)
theorem qm_X5_141 : Cond.methodLink RX5 141 yX1_tell ∈ wsL_law := qr_17 _ (List.mem_of_getElem? (i := 22) rfl)
theorem qi_X1_tell : Cond.instanceMethod yX1_tell ∈ wsL_law := qr_17 _ (List.mem_of_getElem? (i := 23) rfl)
theorem qs_X1_tell : Cond.selects RX1 yX1_tell yX1_tell ∈ wsL_law := qr_18 _ (List.mem_of_getElem? (i := 0) rfl)
theorem qc_X1_tell : Cond.code yX1_tell cX1_tell 2 (some .int) ∈ wsL_law := qr_18 _ (List.mem_of_getElem? (i := 1) rfl)
theorem qf_X1_18 : Cond.fieldLink RX1 18 "BandDay$Chair" "instrument" "I" ∈ wsL_law := qr_18 _ (List.mem_of_getElem? (i := 2) rfl)
theorem qm_L_116 : Cond.methodLink RL 116 yX7_chair ∈ wsL_law := qr_18 _ (List.mem_of_getElem? (i := 3) rfl)
theorem qi_X7_chair : Cond.instanceMethod yX7_chair ∈ wsL_law := qr_18 _ (List.mem_of_getElem? (i := 4) rfl)
theorem qs_X7_chair : Cond.selects RX7 yX7_chair yX7_chair ∈ wsL_law := qr_18 _ (List.mem_of_getElem? (i := 5) rfl)
theorem qc_X7_chair : Cond.code yX7_chair cX7_chair 4 (some .int) ∈ wsL_law := qr_18 _ (List.mem_of_getElem? (i := 6) rfl)
theorem qm_X7_125 : Cond.methodLink RX7 125 yX7_chairTold ∈ wsL_law := qr_18 _ (List.mem_of_getElem? (i := 7) rfl)
theorem qi_X7_chairTold : Cond.instanceMethod yX7_chairTold ∈ wsL_law := qr_18 _ (List.mem_of_getElem? (i := 8) rfl)
theorem qs_X7_chairTold : Cond.selects RX7 yX7_chairTold yX7_chairTold ∈ wsL_law := qr_18 _ (List.mem_of_getElem? (i := 9) rfl)
theorem qc_X7_chairTold : Cond.code yX7_chairTold cX7_chairTold 3 (some .int) ∈ wsL_law := qr_18 _ (List.mem_of_getElem? (i := 10) rfl)
theorem qm_L_117 : Cond.methodLink RL 117 yL_contest ∈ wsL_law := qr_18 _ (List.mem_of_getElem? (i := 11) rfl)
theorem qt_L_contest : Cond.static yL_contest ∈ wsL_law := qr_18 _ (List.mem_of_getElem? (i := 12) rfl)
theorem qc_L_contest : Cond.codeWith yL_contest cL_contest 3 (some .int) [(0, 8, 11, 15)] ∈ wsL_law := qr_18 _ (List.mem_of_getElem? (i := 13) rfl)
theorem qm_L_52 : Cond.methodLink RL 52 yX5_contest ∈ wsL_law := qr_18 _ (List.mem_of_getElem? (i := 14) rfl)
theorem qi_X5_contest : Cond.instanceMethod yX5_contest ∈ wsL_law := qr_18 _ (List.mem_of_getElem? (i := 15) rfl)
theorem qs_X5_contest : Cond.selects RX5 yX5_contest yX5_contest ∈ wsL_law := qr_18 _ (List.mem_of_getElem? (i := 16) rfl)
theorem qc_X5_contest : Cond.code yX5_contest cX5_contest 1 (some .int) ∈ wsL_law := qr_18 _ (List.mem_of_getElem? (i := 17) rfl)
theorem qm_X5_144 : Cond.methodLink RX5 144 yX2_hold ∈ wsL_law := qr_18 _ (List.mem_of_getElem? (i := 18) rfl)
theorem qi_X2_hold : Cond.instanceMethod yX2_hold ∈ wsL_law := qr_18 _ (List.mem_of_getElem? (i := 19) rfl)
theorem qs_X2_hold : Cond.selects RX2 yX2_hold yX2_hold ∈ wsL_law := qr_18 _ (List.mem_of_getElem? (i := 20) rfl)
theorem qc_X2_hold : Cond.code yX2_hold cX2_hold 4 (some .int) ∈ wsL_law := qr_18 _ (List.mem_of_getElem? (i := 21) rfl)
theorem qf_X2_18 : Cond.fieldLink RX2 18 "BandDay$Season" "bandCount" "I" ∈ wsL_law := qr_18 _ (List.mem_of_getElem? (i := 22) rfl)
theorem qf_X2_36 : Cond.fieldLink RX2 36 "BandDay$Season" "bands" "[LBandDay$Band;" ∈ wsL_law := qr_18 _ (List.mem_of_getElem? (i := 23) rfl)
theorem qf_X2_51 : Cond.fieldLink RX2 51 "BandDay$Season" "playerCount" "I" ∈ wsL_law := qr_19 _ (List.mem_of_getElem? (i := 0) rfl)
theorem qf_X2_54 : Cond.fieldLink RX2 54 "BandDay$Season" "players" "[LBandDay$Player;" ∈ wsL_law := qr_19 _ (List.mem_of_getElem? (i := 1) rfl)
theorem qf_X2_58 : Cond.fieldLink RX2 58 "BandDay$Player" "absences" "I" ∈ wsL_law := qr_19 _ (List.mem_of_getElem? (i := 2) rfl)
theorem qm_X2_63 : Cond.methodLink RX2 63 Lib.Math.max.name ∈ wsL_law := qr_19 _ (List.mem_of_getElem? (i := 3) rfl)
theorem qf_X2_69 : Cond.fieldLink RX2 69 "BandDay$Season" "contests" "I" ∈ wsL_law := qr_19 _ (List.mem_of_getElem? (i := 4) rfl)
theorem qm_X2_15 : Cond.methodLink RX2 15 yX2_forgetDeputies ∈ wsL_law := qr_19 _ (List.mem_of_getElem? (i := 5) rfl)
theorem qi_X2_forgetDeputies : Cond.instanceMethod yX2_forgetDeputies ∈ wsL_law := qr_19 _ (List.mem_of_getElem? (i := 6) rfl)
theorem qs_X2_forgetDeputies : Cond.selects RX2 yX2_forgetDeputies yX2_forgetDeputies ∈ wsL_law := qr_19 _ (List.mem_of_getElem? (i := 7) rfl)
theorem qc_X2_forgetDeputies : Cond.code yX2_forgetDeputies cX2_forgetDeputies 2 none ∈ wsL_law := qr_19 _ (List.mem_of_getElem? (i := 8) rfl)
theorem qf_X2_87 : Cond.fieldLink RX2 87 "BandDay$Player" "deputyToday" "I" ∈ wsL_law := qr_19 _ (List.mem_of_getElem? (i := 9) rfl)
theorem qm_X2_24 : Cond.methodLink RX2 24 yX2_bandInTurn ∈ wsL_law := qr_19 _ (List.mem_of_getElem? (i := 10) rfl)
theorem qi_X2_bandInTurn : Cond.instanceMethod yX2_bandInTurn ∈ wsL_law := qr_19 _ (List.mem_of_getElem? (i := 11) rfl)
theorem qs_X2_bandInTurn : Cond.selects RX2 yX2_bandInTurn yX2_bandInTurn ∈ wsL_law := qr_19 _ (List.mem_of_getElem? (i := 12) rfl)
theorem qc_X2_bandInTurn : Cond.code yX2_bandInTurn cX2_bandInTurn 3 (some .int) ∈ wsL_law := qr_19 _ (List.mem_of_getElem? (i := 13) rfl)
theorem qm_X2_28 : Cond.methodLink RX2 28 yX2_play ∈ wsL_law := qr_19 _ (List.mem_of_getElem? (i := 14) rfl)
theorem qi_X2_play : Cond.instanceMethod yX2_play ∈ wsL_law := qr_19 _ (List.mem_of_getElem? (i := 15) rfl)
theorem qs_X2_play : Cond.selects RX2 yX2_play yX2_play ∈ wsL_law := qr_19 _ (List.mem_of_getElem? (i := 16) rfl)
theorem qc_X2_play : Cond.code yX2_play cX2_play 3 none ∈ wsL_law := qr_19 _ (List.mem_of_getElem? (i := 17) rfl)
theorem qf_X2_90 : Cond.fieldLink RX2 90 "BandDay$Band" "marks" "I" ∈ wsL_law := qr_19 _ (List.mem_of_getElem? (i := 18) rfl)
theorem qf_X2_93 : Cond.fieldLink RX2 93 "BandDay$Band" "deputies" "I" ∈ wsL_law := qr_19 _ (List.mem_of_getElem? (i := 19) rfl)
theorem qf_X2_99 : Cond.fieldLink RX2 99 "BandDay$Band" "empties" "I" ∈ wsL_law := qr_19 _ (List.mem_of_getElem? (i := 20) rfl)
theorem qf_X2_106 : Cond.fieldLink RX2 106 "BandDay$Band" "outs" "I" ∈ wsL_law := qr_19 _ (List.mem_of_getElem? (i := 21) rfl)
theorem qf_X2_109 : Cond.fieldLink RX2 109 "BandDay$Season" "deputies" "I" ∈ wsL_law := qr_19 _ (List.mem_of_getElem? (i := 22) rfl)
theorem qf_X2_110 : Cond.fieldLink RX2 110 "BandDay$Season" "empties" "I" ∈ wsL_law := qr_19 _ (List.mem_of_getElem? (i := 23) rfl)
theorem qm_X2_72 : Cond.methodLink RX2 72 yX4_bandAt ∈ wsL_law := qr_20 _ (List.mem_of_getElem? (i := 0) rfl)
theorem qm_X2_76 : Cond.methodLink RX2 76 yX2_marksOnceSeated ∈ wsL_law := qr_20 _ (List.mem_of_getElem? (i := 1) rfl)
theorem qi_X2_marksOnceSeated : Cond.instanceMethod yX2_marksOnceSeated ∈ wsL_law := qr_20 _ (List.mem_of_getElem? (i := 2) rfl)
theorem qs_X2_marksOnceSeated : Cond.selects RX2 yX2_marksOnceSeated yX2_marksOnceSeated ∈ wsL_law := qr_20 _ (List.mem_of_getElem? (i := 3) rfl)
theorem qc_X2_marksOnceSeated : Cond.code yX2_marksOnceSeated cX2_marksOnceSeated 3 (some .int) ∈ wsL_law := qr_20 _ (List.mem_of_getElem? (i := 4) rfl)
theorem qf_X2_118 : Cond.fieldLink RX2 118 "BandDay$Player" "sits" "Z" ∈ wsL_law := qr_20 _ (List.mem_of_getElem? (i := 5) rfl)
theorem qm_X2_122 : Cond.methodLink RX2 122 yX2_seatMembers ∈ wsL_law := qr_20 _ (List.mem_of_getElem? (i := 6) rfl)
theorem qi_X2_seatMembers : Cond.instanceMethod yX2_seatMembers ∈ wsL_law := qr_20 _ (List.mem_of_getElem? (i := 7) rfl)
theorem qs_X2_seatMembers : Cond.selects RX2 yX2_seatMembers yX2_seatMembers ∈ wsL_law := qr_20 _ (List.mem_of_getElem? (i := 8) rfl)
theorem qc_X2_seatMembers : Cond.code yX2_seatMembers cX2_seatMembers 5 none ∈ wsL_law := qr_20 _ (List.mem_of_getElem? (i := 9) rfl)
theorem qf_X2_80 : Cond.fieldLink RX2 80 "BandDay$Band" "size" "I" ∈ wsL_law := qr_20 _ (List.mem_of_getElem? (i := 10) rfl)
theorem qf_X2_131 : Cond.fieldLink RX2 131 "BandDay$Band" "chairs" "[LBandDay$Chair;" ∈ wsL_law := qr_20 _ (List.mem_of_getElem? (i := 11) rfl)
theorem qf_X2_135 : Cond.fieldLink RX2 135 "BandDay$Chair" "member" "I" ∈ wsL_law := qr_20 _ (List.mem_of_getElem? (i := 12) rfl)
theorem qf_X2_144 : Cond.fieldLink RX2 144 "BandDay$Chair" "sitter" "I" ∈ wsL_law := qr_20 _ (List.mem_of_getElem? (i := 13) rfl)
theorem qm_X2_140 : Cond.methodLink RX2 140 yX4_playerAt ∈ wsL_law := qr_20 _ (List.mem_of_getElem? (i := 14) rfl)
theorem qm_X2_147 : Cond.methodLink RX2 147 yX3_isThere ∈ wsL_law := qr_20 _ (List.mem_of_getElem? (i := 15) rfl)
theorem qm_X2_125 : Cond.methodLink RX2 125 yX2_seatDeputies ∈ wsL_law := qr_20 _ (List.mem_of_getElem? (i := 16) rfl)
theorem qi_X2_seatDeputies : Cond.instanceMethod yX2_seatDeputies ∈ wsL_law := qr_20 _ (List.mem_of_getElem? (i := 17) rfl)
theorem qs_X2_seatDeputies : Cond.selects RX2 yX2_seatDeputies yX2_seatDeputies ∈ wsL_law := qr_20 _ (List.mem_of_getElem? (i := 18) rfl)
theorem qc_X2_seatDeputies : Cond.code yX2_seatDeputies cX2_seatDeputies 5 none ∈ wsL_law := qr_20 _ (List.mem_of_getElem? (i := 19) rfl)
theorem qm_X2_151 : Cond.methodLink RX2 151 yX1_isEmpty ∈ wsL_law := qr_20 _ (List.mem_of_getElem? (i := 20) rfl)
theorem qi_X1_isEmpty : Cond.instanceMethod yX1_isEmpty ∈ wsL_law := qr_20 _ (List.mem_of_getElem? (i := 21) rfl)
theorem qs_X1_isEmpty : Cond.selects RX1 yX1_isEmpty yX1_isEmpty ∈ wsL_law := qr_20 _ (List.mem_of_getElem? (i := 22) rfl)
theorem qc_X1_isEmpty : Cond.code yX1_isEmpty cX1_isEmpty 1 (some .boolean) ∈ wsL_law := qr_20 _ (List.mem_of_getElem? (i := 23) rfl)
theorem qm_X2_154 : Cond.methodLink RX2 154 yX2_deputyFor ∈ wsL_law := qr_21 _ (List.mem_of_getElem? (i := 0) rfl)
theorem qi_X2_deputyFor : Cond.instanceMethod yX2_deputyFor ∈ wsL_law := qr_21 _ (List.mem_of_getElem? (i := 1) rfl)
theorem qs_X2_deputyFor : Cond.selects RX2 yX2_deputyFor yX2_deputyFor ∈ wsL_law := qr_21 _ (List.mem_of_getElem? (i := 2) rfl)
theorem qc_X2_deputyFor : Cond.code yX2_deputyFor cX2_deputyFor 12 (some .int) ∈ wsL_law := qr_21 _ (List.mem_of_getElem? (i := 3) rfl)
theorem qf_X2_158 : Cond.fieldLink RX2 158 "BandDay$Chair" "instrument" "I" ∈ wsL_law := qr_21 _ (List.mem_of_getElem? (i := 4) rfl)
theorem qf_X2_167 : Cond.fieldLink RX2 167 "BandDay$Player" "tired" "I" ∈ wsL_law := qr_21 _ (List.mem_of_getElem? (i := 5) rfl)
theorem qm_X2_161 : Cond.methodLink RX2 161 yX3_skillFor ∈ wsL_law := qr_21 _ (List.mem_of_getElem? (i := 6) rfl)
theorem qm_X2_164 : Cond.methodLink RX2 164 yX3_mayBeDeputy ∈ wsL_law := qr_21 _ (List.mem_of_getElem? (i := 7) rfl)
theorem qi_X3_mayBeDeputy : Cond.instanceMethod yX3_mayBeDeputy ∈ wsL_law := qr_21 _ (List.mem_of_getElem? (i := 8) rfl)
theorem qs_X3_mayBeDeputy : Cond.selects RX3 yX3_mayBeDeputy yX3_mayBeDeputy ∈ wsL_law := qr_21 _ (List.mem_of_getElem? (i := 9) rfl)
theorem qc_X3_mayBeDeputy : Cond.code yX3_mayBeDeputy cX3_mayBeDeputy 1 (some .boolean) ∈ wsL_law := qr_21 _ (List.mem_of_getElem? (i := 10) rfl)
theorem qf_X3_40 : Cond.fieldLink RX3 40 "BandDay$Player" "sits" "Z" ∈ wsL_law := qr_21 _ (List.mem_of_getElem? (i := 11) rfl)
theorem qf_X3_44 : Cond.fieldLink RX3 44 "BandDay$Player" "deputyToday" "I" ∈ wsL_law := qr_21 _ (List.mem_of_getElem? (i := 12) rfl)
theorem qm_X2_102 : Cond.methodLink RX2 102 yX2_isOut ∈ wsL_law := qr_21 _ (List.mem_of_getElem? (i := 13) rfl)
theorem qi_X2_isOut : Cond.instanceMethod yX2_isOut ∈ wsL_law := qr_21 _ (List.mem_of_getElem? (i := 14) rfl)
theorem qs_X2_isOut : Cond.selects RX2 yX2_isOut yX2_isOut ∈ wsL_law := qr_21 _ (List.mem_of_getElem? (i := 15) rfl)
theorem qc_X2_isOut : Cond.code yX2_isOut cX2_isOut 2 (some .boolean) ∈ wsL_law := qr_21 _ (List.mem_of_getElem? (i := 16) rfl)
theorem qm_X2_45 : Cond.methodLink RX2 45 yX0_deputiesSitting ∈ wsL_law := qr_21 _ (List.mem_of_getElem? (i := 17) rfl)
theorem qi_X0_deputiesSitting : Cond.instanceMethod yX0_deputiesSitting ∈ wsL_law := qr_21 _ (List.mem_of_getElem? (i := 18) rfl)
theorem qs_X0_deputiesSitting : Cond.selects RX0 yX0_deputiesSitting yX0_deputiesSitting ∈ wsL_law := qr_21 _ (List.mem_of_getElem? (i := 19) rfl)
theorem qc_X0_deputiesSitting : Cond.code yX0_deputiesSitting cX0_deputiesSitting 3 (some .int) ∈ wsL_law := qr_21 _ (List.mem_of_getElem? (i := 20) rfl)
theorem qm_X0_66 : Cond.methodLink RX0 66 yX1_hasDeputy ∈ wsL_law := qr_21 _ (List.mem_of_getElem? (i := 21) rfl)
theorem qi_X1_hasDeputy : Cond.instanceMethod yX1_hasDeputy ∈ wsL_law := qr_21 _ (List.mem_of_getElem? (i := 22) rfl)
theorem qs_X1_hasDeputy : Cond.selects RX1 yX1_hasDeputy yX1_hasDeputy ∈ wsL_law := qr_21 _ (List.mem_of_getElem? (i := 23) rfl)
theorem qc_X1_hasDeputy : Cond.code yX1_hasDeputy cX1_hasDeputy 1 (some .boolean) ∈ wsL_law := qr_22 _ (List.mem_of_getElem? (i := 0) rfl)
theorem qm_X2_128 : Cond.methodLink RX2 128 yX2_marksAsSeated ∈ wsL_law := qr_22 _ (List.mem_of_getElem? (i := 1) rfl)
theorem qi_X2_marksAsSeated : Cond.instanceMethod yX2_marksAsSeated ∈ wsL_law := qr_22 _ (List.mem_of_getElem? (i := 2) rfl)
theorem qs_X2_marksAsSeated : Cond.selects RX2 yX2_marksAsSeated yX2_marksAsSeated ∈ wsL_law := qr_22 _ (List.mem_of_getElem? (i := 3) rfl)
theorem qc_X2_marksAsSeated : Cond.code yX2_marksAsSeated cX2_marksAsSeated 6 (some .int) ∈ wsL_law := qr_22 _ (List.mem_of_getElem? (i := 4) rfl)
theorem qf_X2_170 : Cond.fieldLink RX2 170 "BandDay$Band" "spirit" "I" ∈ wsL_law := qr_22 _ (List.mem_of_getElem? (i := 5) rfl)
theorem qm_X2_173 : Cond.methodLink RX2 173 yX2_marksFor ∈ wsL_law := qr_22 _ (List.mem_of_getElem? (i := 6) rfl)
theorem qi_X2_marksFor : Cond.instanceMethod yX2_marksFor ∈ wsL_law := qr_22 _ (List.mem_of_getElem? (i := 7) rfl)
theorem qs_X2_marksFor : Cond.selects RX2 yX2_marksFor yX2_marksFor ∈ wsL_law := qr_22 _ (List.mem_of_getElem? (i := 8) rfl)
theorem qc_X2_marksFor : Cond.code yX2_marksFor cX2_marksFor 4 (some .int) ∈ wsL_law := qr_22 _ (List.mem_of_getElem? (i := 9) rfl)
theorem qm_X2_180 : Cond.methodLink RX2 180 yX4_hardFor ∈ wsL_law := qr_22 _ (List.mem_of_getElem? (i := 10) rfl)
theorem qi_X4_hardFor : Cond.instanceMethod yX4_hardFor ∈ wsL_law := qr_22 _ (List.mem_of_getElem? (i := 11) rfl)
theorem qs_X4_hardFor : Cond.selects RX4 yX4_hardFor yX4_hardFor ∈ wsL_law := qr_22 _ (List.mem_of_getElem? (i := 12) rfl)
theorem qc_X4_hardFor : Cond.code yX4_hardFor cX4_hardFor 2 (some .int) ∈ wsL_law := qr_22 _ (List.mem_of_getElem? (i := 13) rfl)
theorem qm_X2_183 : Cond.methodLink RX2 183 yX4_weightFor ∈ wsL_law := qr_22 _ (List.mem_of_getElem? (i := 14) rfl)
theorem qi_X4_weightFor : Cond.instanceMethod yX4_weightFor ∈ wsL_law := qr_22 _ (List.mem_of_getElem? (i := 15) rfl)
theorem qs_X4_weightFor : Cond.selects RX4 yX4_weightFor yX4_weightFor ∈ wsL_law := qr_22 _ (List.mem_of_getElem? (i := 16) rfl)
theorem qc_X4_weightFor : Cond.code yX4_weightFor cX4_weightFor 2 (some .int) ∈ wsL_law := qr_22 _ (List.mem_of_getElem? (i := 17) rfl)
theorem qm_X2_177 : Cond.methodLink RX2 177 yX1_hasOwn ∈ wsL_law := qr_22 _ (List.mem_of_getElem? (i := 18) rfl)
theorem qi_X1_hasOwn : Cond.instanceMethod yX1_hasOwn ∈ wsL_law := qr_22 _ (List.mem_of_getElem? (i := 19) rfl)
theorem qs_X1_hasOwn : Cond.selects RX1 yX1_hasOwn yX1_hasOwn ∈ wsL_law := qr_22 _ (List.mem_of_getElem? (i := 20) rfl)
theorem qc_X1_hasOwn : Cond.code yX1_hasOwn cX1_hasOwn 1 (some .boolean) ∈ wsL_law := qr_22 _ (List.mem_of_getElem? (i := 21) rfl)
theorem qm_X2_96 : Cond.methodLink RX2 96 yX0_emptyChairs ∈ wsL_law := qr_22 _ (List.mem_of_getElem? (i := 22) rfl)
theorem qi_X0_emptyChairs : Cond.instanceMethod yX0_emptyChairs ∈ wsL_law := qr_22 _ (List.mem_of_getElem? (i := 23) rfl)
theorem qs_X0_emptyChairs : Cond.selects RX0 yX0_emptyChairs yX0_emptyChairs ∈ wsL_law := qr_23 _ (List.mem_of_getElem? (i := 0) rfl)
theorem qc_X0_emptyChairs : Cond.code yX0_emptyChairs cX0_emptyChairs 3 (some .int) ∈ wsL_law := qr_23 _ (List.mem_of_getElem? (i := 1) rfl)
theorem qm_X0_69 : Cond.methodLink RX0 69 yX1_isEmpty ∈ wsL_law := qr_23 _ (List.mem_of_getElem? (i := 2) rfl)
theorem qm_X2_111 : Cond.methodLink RX2 111 yX2_noteSittings ∈ wsL_law := qr_23 _ (List.mem_of_getElem? (i := 3) rfl)
theorem qi_X2_noteSittings : Cond.instanceMethod yX2_noteSittings ∈ wsL_law := qr_23 _ (List.mem_of_getElem? (i := 4) rfl)
theorem qs_X2_noteSittings : Cond.selects RX2 yX2_noteSittings yX2_noteSittings ∈ wsL_law := qr_23 _ (List.mem_of_getElem? (i := 5) rfl)
theorem qc_X2_noteSittings : Cond.code yX2_noteSittings cX2_noteSittings 5 none ∈ wsL_law := qr_23 _ (List.mem_of_getElem? (i := 6) rfl)
theorem qf_X2_186 : Cond.fieldLink RX2 186 "BandDay$Player" "sittings" "I" ∈ wsL_law := qr_23 _ (List.mem_of_getElem? (i := 7) rfl)
theorem qf_X2_192 : Cond.fieldLink RX2 192 "BandDay$Player" "deputySittings" "I" ∈ wsL_law := qr_23 _ (List.mem_of_getElem? (i := 8) rfl)
theorem qm_X2_189 : Cond.methodLink RX2 189 yX1_hasDeputy ∈ wsL_law := qr_23 _ (List.mem_of_getElem? (i := 9) rfl)
theorem qm_X2_115 : Cond.methodLink RX2 115 yX2_moveLips ∈ wsL_law := qr_23 _ (List.mem_of_getElem? (i := 10) rfl)
theorem qi_X2_moveLips : Cond.instanceMethod yX2_moveLips ∈ wsL_law := qr_23 _ (List.mem_of_getElem? (i := 11) rfl)
theorem qs_X2_moveLips : Cond.selects RX2 yX2_moveLips yX2_moveLips ∈ wsL_law := qr_23 _ (List.mem_of_getElem? (i := 12) rfl)
theorem qc_X2_moveLips : Cond.code yX2_moveLips cX2_moveLips 3 none ∈ wsL_law := qr_23 _ (List.mem_of_getElem? (i := 13) rfl)
theorem qm_X2_195 : Cond.methodLink RX2 195 yX3_tire ∈ wsL_law := qr_23 _ (List.mem_of_getElem? (i := 14) rfl)
theorem qm_X2_198 : Cond.methodLink RX2 198 yX3_rest ∈ wsL_law := qr_23 _ (List.mem_of_getElem? (i := 15) rfl)
theorem qi_X3_rest : Cond.instanceMethod yX3_rest ∈ wsL_law := qr_23 _ (List.mem_of_getElem? (i := 16) rfl)
theorem qs_X3_rest : Cond.selects RX3 yX3_rest yX3_rest ∈ wsL_law := qr_23 _ (List.mem_of_getElem? (i := 17) rfl)
theorem qc_X3_rest : Cond.code yX3_rest cX3_rest 2 none ∈ wsL_law := qr_23 _ (List.mem_of_getElem? (i := 18) rfl)
theorem qm_X3_53 : Cond.methodLink RX3 53 Lib.Math.max.name ∈ wsL_law := qr_23 _ (List.mem_of_getElem? (i := 19) rfl)
theorem qm_X2_32 : Cond.methodLink RX2 32 yX2_givePlaces ∈ wsL_law := qr_23 _ (List.mem_of_getElem? (i := 20) rfl)
theorem qi_X2_givePlaces : Cond.instanceMethod yX2_givePlaces ∈ wsL_law := qr_23 _ (List.mem_of_getElem? (i := 21) rfl)
theorem qs_X2_givePlaces : Cond.selects RX2 yX2_givePlaces yX2_givePlaces ∈ wsL_law := qr_23 _ (List.mem_of_getElem? (i := 22) rfl)
theorem qc_X2_givePlaces : Cond.code yX2_givePlaces cX2_givePlaces 4 (some .int) ∈ wsL_law := qr_23 _ (List.mem_of_getElem? (i := 23) rfl)
theorem qf_X2_204 : Cond.fieldLink RX2 204 "BandDay$Band" "place" "I" ∈ wsL_law := qr_24 _ (List.mem_of_getElem? (i := 0) rfl)
theorem qf_X2_207 : Cond.fieldLink RX2 207 "BandDay$Band" "points" "I" ∈ wsL_law := qr_24 _ (List.mem_of_getElem? (i := 1) rfl)
theorem qm_X2_201 : Cond.methodLink RX2 201 yX2_aheadByMarks ∈ wsL_law := qr_24 _ (List.mem_of_getElem? (i := 2) rfl)
theorem qi_X2_aheadByMarks : Cond.instanceMethod yX2_aheadByMarks ∈ wsL_law := qr_24 _ (List.mem_of_getElem? (i := 3) rfl)
theorem qs_X2_aheadByMarks : Cond.selects RX2 yX2_aheadByMarks yX2_aheadByMarks ∈ wsL_law := qr_24 _ (List.mem_of_getElem? (i := 4) rfl)
theorem qc_X2_aheadByMarks : Cond.code yX2_aheadByMarks cX2_aheadByMarks 4 (some .int) ∈ wsL_law := qr_24 _ (List.mem_of_getElem? (i := 5) rfl)
theorem qm_X2_213 : Cond.methodLink RX2 213 yX2_isAhead ∈ wsL_law := qr_24 _ (List.mem_of_getElem? (i := 6) rfl)
theorem qi_X2_isAhead : Cond.instanceMethod yX2_isAhead ∈ wsL_law := qr_24 _ (List.mem_of_getElem? (i := 7) rfl)
theorem qs_X2_isAhead : Cond.selects RX2 yX2_isAhead yX2_isAhead ∈ wsL_law := qr_24 _ (List.mem_of_getElem? (i := 8) rfl)
theorem qc_X2_isAhead : Cond.code yX2_isAhead cX2_isAhead 5 (some .boolean) ∈ wsL_law := qr_24 _ (List.mem_of_getElem? (i := 9) rfl)
theorem qm_X2_210 : Cond.methodLink RX2 210 yX2_pointsFor ∈ wsL_law := qr_24 _ (List.mem_of_getElem? (i := 10) rfl)
theorem qt_X2_pointsFor : Cond.static yX2_pointsFor ∈ wsL_law := qr_24 _ (List.mem_of_getElem? (i := 11) rfl)
theorem qc_X2_pointsFor : Cond.code yX2_pointsFor cX2_pointsFor 1 (some .int) ∈ wsL_law := qr_24 _ (List.mem_of_getElem? (i := 12) rfl)
theorem qm_X2_40 : Cond.methodLink RX2 40 yX0_ownSitting ∈ wsL_law := qr_24 _ (List.mem_of_getElem? (i := 13) rfl)
theorem qi_X0_ownSitting : Cond.instanceMethod yX0_ownSitting ∈ wsL_law := qr_24 _ (List.mem_of_getElem? (i := 14) rfl)
theorem qs_X0_ownSitting : Cond.selects RX0 yX0_ownSitting yX0_ownSitting ∈ wsL_law := qr_24 _ (List.mem_of_getElem? (i := 15) rfl)
theorem qc_X0_ownSitting : Cond.code yX0_ownSitting cX0_ownSitting 3 (some .int) ∈ wsL_law := qr_24 _ (List.mem_of_getElem? (i := 16) rfl)
theorem qm_X0_62 : Cond.methodLink RX0 62 yX1_hasOwn ∈ wsL_law := qr_24 _ (List.mem_of_getElem? (i := 17) rfl)
theorem qm_X2_48 : Cond.methodLink RX2 48 yX0_raiseSpirit ∈ wsL_law := qr_24 _ (List.mem_of_getElem? (i := 18) rfl)
theorem qm_L_120 : Cond.methodLink RL 120 yX7_contest ∈ wsL_law := qr_24 _ (List.mem_of_getElem? (i := 19) rfl)
theorem qi_X7_contest : Cond.instanceMethod yX7_contest ∈ wsL_law := qr_24 _ (List.mem_of_getElem? (i := 20) rfl)
theorem qs_X7_contest : Cond.selects RX7 yX7_contest yX7_contest ∈ wsL_law := qr_24 _ (List.mem_of_getElem? (i := 21) rfl)
theorem qc_X7_contest : Cond.code yX7_contest cX7_contest 1 (some .int) ∈ wsL_law := qr_24 _ (List.mem_of_getElem? (i := 22) rfl)
theorem qm_X7_128 : Cond.methodLink RX7 128 yX6_contest ∈ wsL_law := qr_24 _ (List.mem_of_getElem? (i := 23) rfl)
theorem qi_X6_contest : Cond.instanceMethod yX6_contest ∈ wsL_law := qr_25 _ (List.mem_of_getElem? (i := 0) rfl)
theorem qs_X6_contest : Cond.selects RX6 yX6_contest yX6_contest ∈ wsL_law := qr_25 _ (List.mem_of_getElem? (i := 1) rfl)
theorem qc_X6_contest : Cond.code yX6_contest cX6_contest 6 (some .int) ∈ wsL_law := qr_25 _ (List.mem_of_getElem? (i := 2) rfl)
theorem qf_X6_55 : Cond.fieldLink RX6 55 "BandDayModel$State" "contests" "I" ∈ wsL_law := qr_25 _ (List.mem_of_getElem? (i := 3) rfl)
theorem qm_X6_100 : Cond.methodLink RX6 100 Lib.Math.min.name ∈ wsL_law := qr_25 _ (List.mem_of_getElem? (i := 4) rfl)
theorem qm_X6_95 : Cond.methodLink RX6 95 Lib.Math.max.name ∈ wsL_law := qr_25 _ (List.mem_of_getElem? (i := 5) rfl)
theorem qm_X6_106 : Cond.methodLink RX6 106 yX6_play ∈ wsL_law := qr_25 _ (List.mem_of_getElem? (i := 6) rfl)
theorem qi_X6_play : Cond.instanceMethod yX6_play ∈ wsL_law := qr_25 _ (List.mem_of_getElem? (i := 7) rfl)
theorem qs_X6_play : Cond.selects RX6 yX6_play yX6_play ∈ wsL_law := qr_25 _ (List.mem_of_getElem? (i := 8) rfl)
theorem qc_X6_play : Cond.code yX6_play cX6_play 12 none ∈ wsL_law := qr_25 _ (List.mem_of_getElem? (i := 9) rfl)
theorem qm_X6_49 : Cond.methodLink RX6 49 arraycopyName ∈ wsL_law := qr_25 _ (List.mem_of_getElem? (i := 10) rfl)
theorem qf_X6_59 : Cond.fieldLink RX6 59 "BandDayModel$State" "deputies" "I" ∈ wsL_law := qr_25 _ (List.mem_of_getElem? (i := 11) rfl)
theorem qf_X6_62 : Cond.fieldLink RX6 62 "BandDayModel$State" "empties" "I" ∈ wsL_law := qr_25 _ (List.mem_of_getElem? (i := 12) rfl)
theorem qm_X6_85 : Cond.methodLink RX6 85 yX6_find ∈ wsL_law := qr_25 _ (List.mem_of_getElem? (i := 13) rfl)
theorem qi_X6_find : Cond.instanceMethod yX6_find ∈ wsL_law := qr_25 _ (List.mem_of_getElem? (i := 14) rfl)
theorem qs_X6_find : Cond.selects RX6 yX6_find yX6_find ∈ wsL_law := qr_25 _ (List.mem_of_getElem? (i := 15) rfl)
theorem qc_X6_find : Cond.code yX6_find cX6_find 9 (some .int) ∈ wsL_law := qr_25 _ (List.mem_of_getElem? (i := 16) rfl)
theorem qm_X6_81 : Cond.methodLink RX6 81 yX6_sits ∈ wsL_law := qr_25 _ (List.mem_of_getElem? (i := 17) rfl)
theorem qi_X6_sits : Cond.instanceMethod yX6_sits ∈ wsL_law := qr_25 _ (List.mem_of_getElem? (i := 18) rfl)
theorem qs_X6_sits : Cond.selects RX6 yX6_sits yX6_sits ∈ wsL_law := qr_25 _ (List.mem_of_getElem? (i := 19) rfl)
theorem qc_X6_sits : Cond.code yX6_sits cX6_sits 5 (some .boolean) ∈ wsL_law := qr_25 _ (List.mem_of_getElem? (i := 20) rfl)
theorem qm_X6_110 : Cond.methodLink RX6 110 yX6_isAhead ∈ wsL_law := qr_25 _ (List.mem_of_getElem? (i := 21) rfl)
theorem qi_X6_isAhead : Cond.instanceMethod yX6_isAhead ∈ wsL_law := qr_25 _ (List.mem_of_getElem? (i := 22) rfl)
theorem qs_X6_isAhead : Cond.selects RX6 yX6_isAhead yX6_isAhead ∈ wsL_law := qr_25 _ (List.mem_of_getElem? (i := 23) rfl)
theorem qc_X6_isAhead : Cond.code yX6_isAhead cX6_isAhead 3 (some .boolean) ∈ wsL_law := qr_26 _ (List.mem_of_getElem? (i := 0) rfl)
theorem qm_L_121 : Cond.methodLink RL 121 yL_rank ∈ wsL_law := qr_26 _ (List.mem_of_getElem? (i := 1) rfl)
theorem qt_L_rank : Cond.static yL_rank ∈ wsL_law := qr_26 _ (List.mem_of_getElem? (i := 2) rfl)
theorem qc_L_rank : Cond.codeWith yL_rank cL_rank 4 (some .int) [(0, 9, 12, 25)] ∈ wsL_law := qr_26 _ (List.mem_of_getElem? (i := 3) rfl)
theorem qm_L_56 : Cond.methodLink RL 56 yX5_rank ∈ wsL_law := qr_26 _ (List.mem_of_getElem? (i := 4) rfl)
theorem qi_X5_rank : Cond.instanceMethod yX5_rank ∈ wsL_law := qr_26 _ (List.mem_of_getElem? (i := 5) rfl)
theorem qs_X5_rank : Cond.selects RX5 yX5_rank yX5_rank ∈ wsL_law := qr_26 _ (List.mem_of_getElem? (i := 6) rfl)
theorem qc_X5_rank : Cond.code yX5_rank cX5_rank 2 (some .int) ∈ wsL_law := qr_26 _ (List.mem_of_getElem? (i := 7) rfl)
theorem qm_X5_153 : Cond.methodLink RX5 153 yX4_bandByPoints ∈ wsL_law := qr_26 _ (List.mem_of_getElem? (i := 8) rfl)
theorem qi_X4_bandByPoints : Cond.instanceMethod yX4_bandByPoints ∈ wsL_law := qr_26 _ (List.mem_of_getElem? (i := 9) rfl)
theorem qs_X4_bandByPoints : Cond.selects RX4 yX4_bandByPoints yX4_bandByPoints ∈ wsL_law := qr_26 _ (List.mem_of_getElem? (i := 10) rfl)
theorem qc_X4_bandByPoints : Cond.code yX4_bandByPoints cX4_bandByPoints 3 (some .int) ∈ wsL_law := qr_26 _ (List.mem_of_getElem? (i := 11) rfl)
theorem qm_X4_123 : Cond.methodLink RX4 123 yX4_aheadByPoints ∈ wsL_law := qr_26 _ (List.mem_of_getElem? (i := 12) rfl)
theorem qi_X4_aheadByPoints : Cond.instanceMethod yX4_aheadByPoints ∈ wsL_law := qr_26 _ (List.mem_of_getElem? (i := 13) rfl)
theorem qs_X4_aheadByPoints : Cond.selects RX4 yX4_aheadByPoints yX4_aheadByPoints ∈ wsL_law := qr_26 _ (List.mem_of_getElem? (i := 14) rfl)
theorem qc_X4_aheadByPoints : Cond.code yX4_aheadByPoints cX4_aheadByPoints 5 (some .int) ∈ wsL_law := qr_26 _ (List.mem_of_getElem? (i := 15) rfl)
theorem qf_X4_127 : Cond.fieldLink RX4 127 "BandDay$Band" "points" "I" ∈ wsL_law := qr_26 _ (List.mem_of_getElem? (i := 16) rfl)
theorem qm_L_123 : Cond.methodLink RL 123 yX7_rank ∈ wsL_law := qr_26 _ (List.mem_of_getElem? (i := 17) rfl)
theorem qi_X7_rank : Cond.instanceMethod yX7_rank ∈ wsL_law := qr_26 _ (List.mem_of_getElem? (i := 18) rfl)
theorem qs_X7_rank : Cond.selects RX7 yX7_rank yX7_rank ∈ wsL_law := qr_26 _ (List.mem_of_getElem? (i := 19) rfl)
theorem qc_X7_rank : Cond.code yX7_rank cX7_rank 5 (some .int) ∈ wsL_law := qr_26 _ (List.mem_of_getElem? (i := 20) rfl)
theorem qm_L_124 : Cond.methodLink RL 124 yL_count ∈ wsL_law := qr_26 _ (List.mem_of_getElem? (i := 21) rfl)
theorem qt_L_count : Cond.static yL_count ∈ wsL_law := qr_26 _ (List.mem_of_getElem? (i := 22) rfl)
theorem qc_L_count : Cond.codeWith yL_count cL_count 4 (some .int) [(0, 9, 12, 25)] ∈ wsL_law := qr_26 _ (List.mem_of_getElem? (i := 23) rfl)
theorem qm_L_59 : Cond.methodLink RL 59 yX5_count ∈ wsL_law := qr_27 _ (List.mem_of_getElem? (i := 0) rfl)
theorem qi_X5_count : Cond.instanceMethod yX5_count ∈ wsL_law := qr_27 _ (List.mem_of_getElem? (i := 1) rfl)
theorem qs_X5_count : Cond.selects RX5 yX5_count yX5_count ∈ wsL_law := qr_27 _ (List.mem_of_getElem? (i := 2) rfl)
theorem qc_X5_count : Cond.code yX5_count cX5_count 2 (some .int) ∈ wsL_law := qr_27 _ (List.mem_of_getElem? (i := 3) rfl)
theorem qm_X5_156 : Cond.methodLink RX5 156 yX4_tell ∈ wsL_law := qr_27 _ (List.mem_of_getElem? (i := 4) rfl)
theorem qi_X4_tell : Cond.instanceMethod yX4_tell ∈ wsL_law := qr_27 _ (List.mem_of_getElem? (i := 5) rfl)
theorem qs_X4_tell : Cond.selects RX4 yX4_tell yX4_tell ∈ wsL_law := qr_27 _ (List.mem_of_getElem? (i := 6) rfl)
theorem qc_X4_tell : Cond.code yX4_tell cX4_tell 2 (some .int) ∈ wsL_law := qr_27 _ (List.mem_of_getElem? (i := 7) rfl)
theorem qf_X4_52 : Cond.fieldLink RX4 52 "BandDay$Season" "contests" "I" ∈ wsL_law := qr_27 _ (List.mem_of_getElem? (i := 8) rfl)
theorem qf_X4_55 : Cond.fieldLink RX4 55 "BandDay$Season" "deputies" "I" ∈ wsL_law := qr_27 _ (List.mem_of_getElem? (i := 9) rfl)
theorem qf_X4_58 : Cond.fieldLink RX4 58 "BandDay$Season" "empties" "I" ∈ wsL_law := qr_27 _ (List.mem_of_getElem? (i := 10) rfl)
theorem qm_X4_117 : Cond.methodLink RX4 117 yX4_membersInAll ∈ wsL_law := qr_27 _ (List.mem_of_getElem? (i := 11) rfl)
theorem qi_X4_membersInAll : Cond.instanceMethod yX4_membersInAll ∈ wsL_law := qr_27 _ (List.mem_of_getElem? (i := 12) rfl)
theorem qs_X4_membersInAll : Cond.selects RX4 yX4_membersInAll yX4_membersInAll ∈ wsL_law := qr_27 _ (List.mem_of_getElem? (i := 13) rfl)
theorem qc_X4_membersInAll : Cond.code yX4_membersInAll cX4_membersInAll 3 (some .int) ∈ wsL_law := qr_27 _ (List.mem_of_getElem? (i := 14) rfl)
theorem qm_X4_113 : Cond.methodLink RX4 113 yX0_members ∈ wsL_law := qr_27 _ (List.mem_of_getElem? (i := 15) rfl)
theorem qm_X4_120 : Cond.methodLink RX4 120 yX4_absentInAll ∈ wsL_law := qr_27 _ (List.mem_of_getElem? (i := 16) rfl)
theorem qi_X4_absentInAll : Cond.instanceMethod yX4_absentInAll ∈ wsL_law := qr_27 _ (List.mem_of_getElem? (i := 17) rfl)
theorem qs_X4_absentInAll : Cond.selects RX4 yX4_absentInAll yX4_absentInAll ∈ wsL_law := qr_27 _ (List.mem_of_getElem? (i := 18) rfl)
theorem qc_X4_absentInAll : Cond.code yX4_absentInAll cX4_absentInAll 3 (some .int) ∈ wsL_law := qr_27 _ (List.mem_of_getElem? (i := 19) rfl)
theorem qm_L_126 : Cond.methodLink RL 126 yX7_count ∈ wsL_law := qr_27 _ (List.mem_of_getElem? (i := 20) rfl)
theorem qi_X7_count : Cond.instanceMethod yX7_count ∈ wsL_law := qr_27 _ (List.mem_of_getElem? (i := 21) rfl)
theorem qs_X7_count : Cond.selects RX7 yX7_count yX7_count ∈ wsL_law := qr_27 _ (List.mem_of_getElem? (i := 22) rfl)
theorem qc_X7_count : Cond.code yX7_count cX7_count 2 (some .int) ∈ wsL_law := qr_27 _ (List.mem_of_getElem? (i := 23) rfl)
theorem qm_X7_141 : Cond.methodLink RX7 141 yX7_counted ∈ wsL_law := qr_28 _ (List.mem_of_getElem? (i := 0) rfl)
theorem qi_X7_counted : Cond.instanceMethod yX7_counted ∈ wsL_law := qr_28 _ (List.mem_of_getElem? (i := 1) rfl)
theorem qs_X7_counted : Cond.selects RX7 yX7_counted yX7_counted ∈ wsL_law := qr_28 _ (List.mem_of_getElem? (i := 2) rfl)
theorem qc_X7_counted : Cond.code yX7_counted cX7_counted 5 (some .int) ∈ wsL_law := qr_28 _ (List.mem_of_getElem? (i := 3) rfl)
theorem qm_L_127 : Cond.methodLink RL 127 yL_foresee ∈ wsL_law := qr_28 _ (List.mem_of_getElem? (i := 4) rfl)
theorem qt_L_foresee : Cond.static yL_foresee ∈ wsL_law := qr_28 _ (List.mem_of_getElem? (i := 5) rfl)
theorem qc_L_foresee : Cond.codeWith yL_foresee cL_foresee 6 (some .int) [(0, 12, 15, 25), (0, 12, 19, 13)] ∈ wsL_law := qr_28 _ (List.mem_of_getElem? (i := 6) rfl)
theorem qm_L_62 : Cond.methodLink RL 62 yX5_foresee ∈ wsL_law := qr_28 _ (List.mem_of_getElem? (i := 7) rfl)
theorem qi_X5_foresee : Cond.instanceMethod yX5_foresee ∈ wsL_law := qr_28 _ (List.mem_of_getElem? (i := 8) rfl)
theorem qs_X5_foresee : Cond.selects RX5 yX5_foresee yX5_foresee ∈ wsL_law := qr_28 _ (List.mem_of_getElem? (i := 9) rfl)
theorem qc_X5_foresee : Cond.code yX5_foresee cX5_foresee 5 (some .int) ∈ wsL_law := qr_28 _ (List.mem_of_getElem? (i := 10) rfl)
theorem qm_X5_159 : Cond.methodLink RX5 159 yX4_copyFrom ∈ wsL_law := qr_28 _ (List.mem_of_getElem? (i := 11) rfl)
theorem qi_X4_copyFrom : Cond.instanceMethod yX4_copyFrom ∈ wsL_law := qr_28 _ (List.mem_of_getElem? (i := 12) rfl)
theorem qs_X4_copyFrom : Cond.selects RX4 yX4_copyFrom yX4_copyFrom ∈ wsL_law := qr_28 _ (List.mem_of_getElem? (i := 13) rfl)
theorem qc_X4_copyFrom : Cond.code yX4_copyFrom cX4_copyFrom 3 none ∈ wsL_law := qr_28 _ (List.mem_of_getElem? (i := 14) rfl)
theorem qm_X4_46 : Cond.methodLink RX4 46 arraycopyName ∈ wsL_law := qr_28 _ (List.mem_of_getElem? (i := 15) rfl)
theorem qm_X4_36 : Cond.methodLink RX4 36 yX3_copyFrom ∈ wsL_law := qr_28 _ (List.mem_of_getElem? (i := 16) rfl)
theorem qi_X3_copyFrom : Cond.instanceMethod yX3_copyFrom ∈ wsL_law := qr_28 _ (List.mem_of_getElem? (i := 17) rfl)
theorem qs_X3_copyFrom : Cond.selects RX3 yX3_copyFrom yX3_copyFrom ∈ wsL_law := qr_28 _ (List.mem_of_getElem? (i := 18) rfl)
theorem qc_X3_copyFrom : Cond.code yX3_copyFrom cX3_copyFrom 2 none ∈ wsL_law := qr_28 _ (List.mem_of_getElem? (i := 19) rfl)
theorem qm_X3_22 : Cond.methodLink RX3 22 arraycopyName ∈ wsL_law := qr_28 _ (List.mem_of_getElem? (i := 20) rfl)
theorem qm_X4_43 : Cond.methodLink RX4 43 yX0_copyFrom ∈ wsL_law := qr_28 _ (List.mem_of_getElem? (i := 21) rfl)
theorem qi_X0_copyFrom : Cond.instanceMethod yX0_copyFrom ∈ wsL_law := qr_28 _ (List.mem_of_getElem? (i := 22) rfl)
theorem qs_X0_copyFrom : Cond.selects RX0 yX0_copyFrom yX0_copyFrom ∈ wsL_law := qr_28 _ (List.mem_of_getElem? (i := 23) rfl)
theorem qc_X0_copyFrom : Cond.code yX0_copyFrom cX0_copyFrom 3 none ∈ wsL_law := qr_29 _ (List.mem_of_getElem? (i := 0) rfl)
theorem qm_X0_34 : Cond.methodLink RX0 34 yX1_copyFrom ∈ wsL_law := qr_29 _ (List.mem_of_getElem? (i := 1) rfl)
theorem qi_X1_copyFrom : Cond.instanceMethod yX1_copyFrom ∈ wsL_law := qr_29 _ (List.mem_of_getElem? (i := 2) rfl)
theorem qs_X1_copyFrom : Cond.selects RX1 yX1_copyFrom yX1_copyFrom ∈ wsL_law := qr_29 _ (List.mem_of_getElem? (i := 3) rfl)
theorem qc_X1_copyFrom : Cond.code yX1_copyFrom cX1_copyFrom 2 none ∈ wsL_law := qr_29 _ (List.mem_of_getElem? (i := 4) rfl)
theorem qm_X5_165 : Cond.methodLink RX5 165 yX0_outlook ∈ wsL_law := qr_29 _ (List.mem_of_getElem? (i := 5) rfl)
theorem qi_X0_outlook : Cond.instanceMethod yX0_outlook ∈ wsL_law := qr_29 _ (List.mem_of_getElem? (i := 6) rfl)
theorem qs_X0_outlook : Cond.selects RX0 yX0_outlook yX0_outlook ∈ wsL_law := qr_29 _ (List.mem_of_getElem? (i := 7) rfl)
theorem qc_X0_outlook : Cond.code yX0_outlook cX0_outlook 2 (some .int) ∈ wsL_law := qr_29 _ (List.mem_of_getElem? (i := 8) rfl)
theorem qm_L_129 : Cond.methodLink RL 129 yX7_foresee ∈ wsL_law := qr_29 _ (List.mem_of_getElem? (i := 9) rfl)
theorem qi_X7_foresee : Cond.instanceMethod yX7_foresee ∈ wsL_law := qr_29 _ (List.mem_of_getElem? (i := 10) rfl)
theorem qs_X7_foresee : Cond.selects RX7 yX7_foresee yX7_foresee ∈ wsL_law := qr_29 _ (List.mem_of_getElem? (i := 11) rfl)
theorem qc_X7_foresee : Cond.code yX7_foresee cX7_foresee 5 (some .int) ∈ wsL_law := qr_29 _ (List.mem_of_getElem? (i := 12) rfl)
theorem qm_X7_144 : Cond.methodLink RX7 144 yX6_become ∈ wsL_law := qr_29 _ (List.mem_of_getElem? (i := 13) rfl)
theorem qi_X6_become : Cond.instanceMethod yX6_become ∈ wsL_law := qr_29 _ (List.mem_of_getElem? (i := 14) rfl)
theorem qs_X6_become : Cond.selects RX6 yX6_become yX6_become ∈ wsL_law := qr_29 _ (List.mem_of_getElem? (i := 15) rfl)
theorem qc_X6_become : Cond.code yX6_become cX6_become 2 none ∈ wsL_law := qr_29 _ (List.mem_of_getElem? (i := 16) rfl)
theorem qm_X6_65 : Cond.methodLink RX6 65 yX6_copy ∈ wsL_law := qr_29 _ (List.mem_of_getElem? (i := 17) rfl)
theorem qi_X6_copy : Cond.instanceMethod yX6_copy ∈ wsL_law := qr_29 _ (List.mem_of_getElem? (i := 18) rfl)
theorem qs_X6_copy : Cond.selects RX6 yX6_copy yX6_copy ∈ wsL_law := qr_29 _ (List.mem_of_getElem? (i := 19) rfl)
theorem qc_X6_copy : Cond.code yX6_copy cX6_copy 3 none ∈ wsL_law := qr_29 _ (List.mem_of_getElem? (i := 20) rfl)
theorem qm_L_130 : Cond.methodLink RL 130 yL_advise ∈ wsL_law := qr_29 _ (List.mem_of_getElem? (i := 21) rfl)
theorem qt_L_advise : Cond.static yL_advise ∈ wsL_law := qr_29 _ (List.mem_of_getElem? (i := 22) rfl)
theorem qc_L_advise : Cond.codeWith yL_advise cL_advise 4 (some .int) [(0, 9, 12, 25)] ∈ wsL_law := qr_29 _ (List.mem_of_getElem? (i := 23) rfl)
theorem qm_L_65 : Cond.methodLink RL 65 yX5_advise ∈ wsL_law := qr_30 _ (List.mem_of_getElem? (i := 0) rfl)
theorem qi_X5_advise : Cond.instanceMethod yX5_advise ∈ wsL_law := qr_30 _ (List.mem_of_getElem? (i := 1) rfl)
theorem qs_X5_advise : Cond.selects RX5 yX5_advise yX5_advise ∈ wsL_law := qr_30 _ (List.mem_of_getElem? (i := 2) rfl)
theorem qc_X5_advise : Cond.code yX5_advise cX5_advise 2 (some .int) ∈ wsL_law := qr_30 _ (List.mem_of_getElem? (i := 3) rfl)
theorem qm_X5_168 : Cond.methodLink RX5 168 yX2_playAllAheadOf ∈ wsL_law := qr_30 _ (List.mem_of_getElem? (i := 4) rfl)
theorem qi_X2_playAllAheadOf : Cond.instanceMethod yX2_playAllAheadOf ∈ wsL_law := qr_30 _ (List.mem_of_getElem? (i := 5) rfl)
theorem qs_X2_playAllAheadOf : Cond.selects RX2 yX2_playAllAheadOf yX2_playAllAheadOf ∈ wsL_law := qr_30 _ (List.mem_of_getElem? (i := 6) rfl)
theorem qc_X2_playAllAheadOf : Cond.code yX2_playAllAheadOf cX2_playAllAheadOf 4 none ∈ wsL_law := qr_30 _ (List.mem_of_getElem? (i := 7) rfl)
theorem qm_X5_171 : Cond.methodLink RX5 171 yX2_bestChange ∈ wsL_law := qr_30 _ (List.mem_of_getElem? (i := 8) rfl)
theorem qi_X2_bestChange : Cond.instanceMethod yX2_bestChange ∈ wsL_law := qr_30 _ (List.mem_of_getElem? (i := 9) rfl)
theorem qs_X2_bestChange : Cond.selects RX2 yX2_bestChange yX2_bestChange ∈ wsL_law := qr_30 _ (List.mem_of_getElem? (i := 10) rfl)
theorem qc_X2_bestChange : Cond.code yX2_bestChange cX2_bestChange 8 (some .int) ∈ wsL_law := qr_30 _ (List.mem_of_getElem? (i := 11) rfl)
theorem qm_X2_83 : Cond.methodLink RX2 83 yX4_swapMembers ∈ wsL_law := qr_30 _ (List.mem_of_getElem? (i := 12) rfl)
theorem qm_L_132 : Cond.methodLink RL 132 yX7_advise ∈ wsL_law := qr_30 _ (List.mem_of_getElem? (i := 13) rfl)
theorem qi_X7_advise : Cond.instanceMethod yX7_advise ∈ wsL_law := qr_30 _ (List.mem_of_getElem? (i := 14) rfl)
theorem qs_X7_advise : Cond.selects RX7 yX7_advise yX7_advise ∈ wsL_law := qr_30 _ (List.mem_of_getElem? (i := 15) rfl)
theorem qc_X7_advise : Cond.code yX7_advise cX7_advise 6 (some .int) ∈ wsL_law := qr_30 _ (List.mem_of_getElem? (i := 16) rfl)
theorem qm_L_133 : Cond.methodLink RL 133 yL_free ∈ wsL_law := qr_30 _ (List.mem_of_getElem? (i := 17) rfl)
theorem qt_L_free : Cond.static yL_free ∈ wsL_law := qr_30 _ (List.mem_of_getElem? (i := 18) rfl)
theorem qc_L_free : Cond.codeWith yL_free cL_free 4 (some .int) [(0, 9, 12, 25)] ∈ wsL_law := qr_30 _ (List.mem_of_getElem? (i := 19) rfl)
theorem qm_L_68 : Cond.methodLink RL 68 yX5_free ∈ wsL_law := qr_30 _ (List.mem_of_getElem? (i := 20) rfl)
theorem qi_X5_free : Cond.instanceMethod yX5_free ∈ wsL_law := qr_30 _ (List.mem_of_getElem? (i := 21) rfl)
theorem qs_X5_free : Cond.selects RX5 yX5_free yX5_free ∈ wsL_law := qr_30 _ (List.mem_of_getElem? (i := 22) rfl)
theorem qc_X5_free : Cond.code yX5_free cX5_free 2 (some .int) ∈ wsL_law := qr_30 _ (List.mem_of_getElem? (i := 23) rfl)
theorem qm_X5_174 : Cond.methodLink RX5 174 yX4_bestFree ∈ wsL_law := qr_31 _ (List.mem_of_getElem? (i := 0) rfl)
theorem qi_X4_bestFree : Cond.instanceMethod yX4_bestFree ∈ wsL_law := qr_31 _ (List.mem_of_getElem? (i := 1) rfl)
theorem qs_X4_bestFree : Cond.selects RX4 yX4_bestFree yX4_bestFree ∈ wsL_law := qr_31 _ (List.mem_of_getElem? (i := 2) rfl)
theorem qc_X4_bestFree : Cond.code yX4_bestFree cX4_bestFree 6 (some .int) ∈ wsL_law := qr_31 _ (List.mem_of_getElem? (i := 3) rfl)
theorem qm_X4_130 : Cond.methodLink RX4 130 yX3_skillFor ∈ wsL_law := qr_31 _ (List.mem_of_getElem? (i := 4) rfl)
theorem qm_L_135 : Cond.methodLink RL 135 yX7_free ∈ wsL_law := qr_31 _ (List.mem_of_getElem? (i := 5) rfl)
theorem qi_X7_free : Cond.instanceMethod yX7_free ∈ wsL_law := qr_31 _ (List.mem_of_getElem? (i := 6) rfl)
theorem qs_X7_free : Cond.selects RX7 yX7_free yX7_free ∈ wsL_law := qr_31 _ (List.mem_of_getElem? (i := 7) rfl)
theorem qc_X7_free : Cond.code yX7_free cX7_free 4 (some .int) ∈ wsL_law := qr_31 _ (List.mem_of_getElem? (i := 8) rfl)
theorem qm_L_136 : Cond.methodLink RL 136 yX5_mean ∈ wsL_law := qr_31 _ (List.mem_of_getElem? (i := 9) rfl)
theorem qi_X5_mean : Cond.instanceMethod yX5_mean ∈ wsL_law := qr_31 _ (List.mem_of_getElem? (i := 10) rfl)
theorem qs_X5_mean : Cond.selects RX5 yX5_mean yX5_mean ∈ wsL_law := qr_31 _ (List.mem_of_getElem? (i := 11) rfl)
theorem qc_X5_mean : Cond.code yX5_mean cX5_mean 1 (some .double) ∈ wsL_law := qr_31 _ (List.mem_of_getElem? (i := 12) rfl)
theorem qm_X5_177 : Cond.methodLink RX5 177 yX4_meanMarks ∈ wsL_law := qr_31 _ (List.mem_of_getElem? (i := 13) rfl)
theorem qi_X4_meanMarks : Cond.instanceMethod yX4_meanMarks ∈ wsL_law := qr_31 _ (List.mem_of_getElem? (i := 14) rfl)
theorem qs_X4_meanMarks : Cond.selects RX4 yX4_meanMarks yX4_meanMarks ∈ wsL_law := qr_31 _ (List.mem_of_getElem? (i := 15) rfl)
theorem qc_X4_meanMarks : Cond.code yX4_meanMarks cX4_meanMarks 4 (some .double) ∈ wsL_law := qr_31 _ (List.mem_of_getElem? (i := 16) rfl)
theorem qf_X4_133 : Cond.fieldLink RX4 133 "BandDay$Band" "marks" "I" ∈ wsL_law := qr_31 _ (List.mem_of_getElem? (i := 17) rfl)
theorem qm_L_140 : Cond.methodLink RL 140 yX7_mean ∈ wsL_law := qr_31 _ (List.mem_of_getElem? (i := 18) rfl)
theorem qi_X7_mean : Cond.instanceMethod yX7_mean ∈ wsL_law := qr_31 _ (List.mem_of_getElem? (i := 19) rfl)
theorem qs_X7_mean : Cond.selects RX7 yX7_mean yX7_mean ∈ wsL_law := qr_31 _ (List.mem_of_getElem? (i := 20) rfl)
theorem qc_X7_mean : Cond.code yX7_mean cX7_mean 4 (some .double) ∈ wsL_law := qr_31 _ (List.mem_of_getElem? (i := 21) rfl)
theorem qm_L_141 : Cond.methodLink RL 141 yX5_digest ∈ wsL_law := qr_31 _ (List.mem_of_getElem? (i := 22) rfl)
theorem qi_X5_digest : Cond.instanceMethod yX5_digest ∈ wsL_law := qr_31 _ (List.mem_of_getElem? (i := 23) rfl)
theorem qs_X5_digest : Cond.selects RX5 yX5_digest yX5_digest ∈ wsL_law := qr_32 _ (List.mem_of_getElem? (i := 0) rfl)
theorem qc_X5_digest : Cond.code yX5_digest cX5_digest 1 (some .long) ∈ wsL_law := qr_32 _ (List.mem_of_getElem? (i := 1) rfl)
theorem qm_X5_181 : Cond.methodLink RX5 181 yX4_checksum ∈ wsL_law := qr_32 _ (List.mem_of_getElem? (i := 2) rfl)
theorem qi_X4_checksum : Cond.instanceMethod yX4_checksum ∈ wsL_law := qr_32 _ (List.mem_of_getElem? (i := 3) rfl)
theorem qs_X4_checksum : Cond.selects RX4 yX4_checksum yX4_checksum ∈ wsL_law := qr_32 _ (List.mem_of_getElem? (i := 4) rfl)
theorem qc_X4_checksum : Cond.code yX4_checksum cX4_checksum 5 (some .long) ∈ wsL_law := qr_32 _ (List.mem_of_getElem? (i := 5) rfl)
theorem qd_X4_136 : Cond.constantLong RX4 136 (613) ∈ wsL_law := qr_32 _ (List.mem_of_getElem? (i := 6) rfl)
theorem qd_X4_138 : Cond.constantLong RX4 138 (31) ∈ wsL_law := qr_32 _ (List.mem_of_getElem? (i := 7) rfl)
theorem qm_X4_140 : Cond.methodLink RX4 140 yX4_tell ∈ wsL_law := qr_32 _ (List.mem_of_getElem? (i := 8) rfl)
theorem qm_X4_143 : Cond.methodLink RX4 143 yX3_tell ∈ wsL_law := qr_32 _ (List.mem_of_getElem? (i := 9) rfl)
theorem qm_X4_144 : Cond.methodLink RX4 144 yX4_withBand ∈ wsL_law := qr_32 _ (List.mem_of_getElem? (i := 10) rfl)
theorem qi_X4_withBand : Cond.instanceMethod yX4_withBand ∈ wsL_law := qr_32 _ (List.mem_of_getElem? (i := 11) rfl)
theorem qs_X4_withBand : Cond.selects RX4 yX4_withBand yX4_withBand ∈ wsL_law := qr_32 _ (List.mem_of_getElem? (i := 12) rfl)
theorem qc_X4_withBand : Cond.code yX4_withBand cX4_withBand 8 (some .long) ∈ wsL_law := qr_32 _ (List.mem_of_getElem? (i := 13) rfl)
theorem qm_X4_148 : Cond.methodLink RX4 148 yX0_tell ∈ wsL_law := qr_32 _ (List.mem_of_getElem? (i := 14) rfl)
theorem qm_X4_149 : Cond.methodLink RX4 149 yX1_tell ∈ wsL_law := qr_32 _ (List.mem_of_getElem? (i := 15) rfl)
theorem qm_L_145 : Cond.methodLink RL 145 yX7_digest ∈ wsL_law := qr_32 _ (List.mem_of_getElem? (i := 16) rfl)
theorem qi_X7_digest : Cond.instanceMethod yX7_digest ∈ wsL_law := qr_32 _ (List.mem_of_getElem? (i := 17) rfl)
theorem qs_X7_digest : Cond.selects RX7 yX7_digest yX7_digest ∈ wsL_law := qr_32 _ (List.mem_of_getElem? (i := 18) rfl)
theorem qc_X7_digest : Cond.code yX7_digest cX7_digest 6 (some .long) ∈ wsL_law := qr_32 _ (List.mem_of_getElem? (i := 19) rfl)
theorem qd_X7_148 : Cond.constantLong RX7 148 (613) ∈ wsL_law := qr_32 _ (List.mem_of_getElem? (i := 20) rfl)
theorem qd_X7_150 : Cond.constantLong RX7 150 (31) ∈ wsL_law := qr_32 _ (List.mem_of_getElem? (i := 21) rfl)
end
section
/-! THE WORLD: the class's objects and the reference's, at addresses that never change, over two memories of ints.
xm: the class's memory (field, season, place), ym: the reference's, om: the law's row of one long. -/
abbrev bd_M : Type := Nat → Nat → Nat → Int32
def bd_up (x : bd_M) (f w k : Nat) (v : Int32) : bd_M := fun f' w' k' => if f' = f ∧ w' = w ∧ k' = k then v else x f' w' k'
/-- classes' numbers, places of the fields, classes of the arrays, addresses, the heap's size at the law's start -/
abbrev bd_E : Type := (Nat → ClassId) × (Nat → Nat → Nat) × (Nat → ClassId) × (Nat → Nat → Nat → Nat) × Nat
abbrev bd_eD (E : bd_E) : va_G := (E.1, E.2.1)
abbrev bd_eK (E : bd_E) : Nat → ClassId := E.2.2.1
abbrev bd_ea (E : bd_E) : Nat → Nat → Nat → Nat := E.2.2.2.1
abbrev bd_A (E : bd_E) : Nat → Prop := fun q => E.2.2.2.2 ≤ q
abbrev bd_ty (E : bd_E) : List (ClassId × FieldType) := [(bd_eK E 0, .int), (bd_eK E 1, .object "BandDay$Player"), (bd_eK E 2, .object "BandDay$Band"), (bd_eK E 3, .object "BandDay$Chair"), (bd_eK E 4, .long)]
abbrev bd_iA (E : bd_E) (n : Nat) (f : Nat → Int32) : va_E := .inl (bd_eK E 0, n, .inl f)
abbrev bd_rA (E : bd_E) (t n : Nat) (f : Nat → Option Nat) : va_E := .inl (bd_eK E t, n, .inr (.inr (.inr (.inr f))))
/-- what stands in the cell k of the family f of the season w -/
def bd_ce (E : bd_E) (xm ym : bd_M) (om : Nat → Int64) : Nat → Nat → Nat → va_E
  | 0, _, _ => .inr (5, [.ref (bd_ea E 1 0 0), .ref (bd_ea E 2 0 0), .ref (bd_ea E 1 1 0), .ref (bd_ea E 2 1 0)])
  | 1, w, _ => .inr (4, [.ref (bd_ea E 3 w 0), .ref (bd_ea E 4 w 0), .ref (bd_ea E 5 w 0), .ref (bd_ea E 6 w 0), .int (xm 30 w 0), .int (xm 31 w 0), .int (xm 32 w 0), .int (xm 33 w 0), .int (xm 34 w 0)])
  | 2, w, _ => .inr (2, [.ref (bd_ea E 1 w 0)])
  | 3, w, _ => bd_rA E 1 24 (fun j => some (bd_ea E 7 w j))
  | 4, w, _ => bd_rA E 2 6 (fun j => some (bd_ea E 9 w j))
  | 5, w, _ => bd_iA E 4 (fun j => xm 35 w j)
  | 6, w, _ => bd_iA E 4 (fun j => xm 36 w j)
  | 7, w, k => .inr (3, [.ref (bd_ea E 8 w k), .int (xm 0 w k), .int (xm 1 w k), .int (xm 2 w k), .int (xm 3 w k), .int (xm 4 w k), .int (xm 5 w k), .int (xm 6 w k), .int (xm 7 w k)])
  | 8, w, k => bd_iA E 4 (fun j => xm (j + 1000) w k)
  | 9, w, k => .inr (0, [.ref (bd_ea E 10 w k), .int (xm 20 w k), .int (xm 21 w k), .int (xm 22 w k), .int (xm 23 w k), .int (xm 24 w k), .int (xm 25 w k), .int (xm 26 w k), .int (xm 27 w k)])
  | 10, w, k => bd_rA E 3 8 (fun j => some (bd_ea E 11 w (8 * k + j)))
  | 11, w, k => .inr (1, [.int (xm 10 w k), .int (xm 11 w k), .int (xm 12 w k)])
  | 12, _, _ => .inr (7, [.int (ym 0 0 0), .int (ym 1 0 0), .ref (bd_ea E 13 0 0), .int (ym 2 0 0), .ref (bd_ea E 14 0 0), .ref (bd_ea E 15 0 0), .ref (bd_ea E 16 0 0), .ref (bd_ea E 17 0 0), .ref (bd_ea E 18 0 0), .ref (bd_ea E 18 1 0)])
  | 13, w, _ => bd_iA E 96 (fun j => ym 13 w j)
  | 14, w, _ => bd_iA E 6 (fun j => ym 14 w j)
  | 15, w, _ => bd_iA E 48 (fun j => ym 15 w j)
  | 16, w, _ => bd_iA E 4 (fun j => ym 16 w j)
  | 17, w, _ => bd_iA E 4 (fun j => ym 17 w j)
  | 18, w, _ => .inr (6, [.int (ym 10 w 0), .int (ym 11 w 0), .int (ym 12 w 0), .ref (bd_ea E 19 w 0), .ref (bd_ea E 20 w 0), .ref (bd_ea E 21 w 0), .ref (bd_ea E 22 w 0), .ref (bd_ea E 23 w 0), .ref (bd_ea E 24 w 0), .ref (bd_ea E 25 w 0), .ref (bd_ea E 26 w 0), .ref (bd_ea E 27 w 0), .ref (bd_ea E 28 w 0), .ref (bd_ea E 29 w 0), .ref (bd_ea E 12 0 0)])
  | 19, w, _ => bd_iA E 24 (fun j => ym 19 w j)
  | 20, w, _ => bd_iA E 24 (fun j => ym 20 w j)
  | 21, w, _ => bd_iA E 24 (fun j => ym 21 w j)
  | 22, w, _ => bd_iA E 24 (fun j => ym 22 w j)
  | 23, w, _ => bd_iA E 48 (fun j => ym 23 w j)
  | 24, w, _ => bd_iA E 48 (fun j => ym 24 w j)
  | 25, w, _ => bd_iA E 6 (fun j => ym 25 w j)
  | 26, w, _ => bd_iA E 6 (fun j => ym 26 w j)
  | 27, w, _ => bd_iA E 6 (fun j => ym 27 w j)
  | 28, w, _ => bd_iA E 24 (fun j => ym 28 w j)
  | 29, w, _ => bd_iA E 24 (fun j => ym 29 w j)
  | _, _, _ => .inl (bd_eK E 4, 1, .inr (.inl om))
/-- how many seasons a family has, and how many cells in each -/
def bd_wN : Nat → Nat
  | 0 | 12 | 13 | 14 | 15 | 16 | 17 | 30 => 1
  | _ => 2
def bd_kN : Nat → Nat
  | 7 | 8 => 24
  | 9 | 10 => 6
  | 11 => 48
  | _ => 1
def bd_dm (f w k : Nat) : Prop := f < 31 ∧ w < bd_wN f ∧ k < bd_kN f
def bd_idx : List (Nat × Nat × Nat) := (List.range 31).flatMap (fun f => (List.range (bd_wN f)).flatMap (fun w => (List.range (bd_kN f)).map (fun k => (f, w, k))))
def bd_ws (E : bd_E) (xm ym : bd_M) (om : Nat → Int64) : va_W := bd_idx.map (fun q => (bd_ea E q.1 q.2.1 q.2.2, bd_ce E xm ym om q.1 q.2.1 q.2.2))
def bd_Inj (E : bd_E) : Prop := ∀ f w k f' w' k', bd_dm f w k → bd_dm f' w' k' → bd_ea E f w k = bd_ea E f' w' k' → f = f' ∧ w = w' ∧ k = k'
def bd_Rep (E : bd_E) (xm ym : bd_M) (om : Nat → Int64) (H : Heap) : Prop := bd_Inj E ∧ (∀ f w k, bd_dm f w k → bd_A E (bd_ea E f w k)) ∧ ∀ f w k, bd_dm f w k → va_at (bd_eD E) vwCl (bd_ea E f w k, bd_ce E xm ym om f w k) H
theorem bd_mem {f w k : Nat} : (f, w, k) ∈ bd_idx ↔ bd_dm f w k := by
  simp only [bd_idx, bd_dm, List.mem_flatMap, List.mem_map, List.mem_range, Prod.mk.injEq]
  refine ⟨fun ⟨a, h1, b, h2, d, h3, e1, e2, e3⟩ => ?_, fun ⟨h1, h2, h3⟩ => ⟨f, h1, w, h2, k, h3, rfl, rfl, rfl⟩⟩
  subst e1; subst e2; subst e3
  exact ⟨h1, h2, h3⟩
theorem bd_pos {f w k : Nat} (h : bd_dm f w k) : ∃ q : Nat, bd_idx[q]? = some (f, w, k) := List.getElem?_of_mem (bd_mem.mpr h)
theorem bd_ws_at {E : bd_E} {xm ym : bd_M} {om : Nat → Int64} {q f w k : Nat} (h : bd_idx[q]? = some (f, w, k)) : (bd_ws E xm ym om)[q]? = some (bd_ea E f w k, bd_ce E xm ym om f w k) := by
  simp [bd_ws, h]
theorem bd_ws_of {E : bd_E} {xm ym : bd_M} {om : Nat → Int64} {q : Nat} {z : Nat × va_E} (h : (bd_ws E xm ym om)[q]? = some z) : ∃ f w k, bd_idx[q]? = some (f, w, k) ∧ bd_dm f w k ∧ z = (bd_ea E f w k, bd_ce E xm ym om f w k) := by
  simp only [bd_ws, List.getElem?_map, Option.map_eq_some_iff] at h
  obtain ⟨⟨f, w, k⟩, h1, h2⟩ := h
  exact ⟨f, w, k, h1, bd_mem.mp (List.mem_of_getElem? h1), h2.symm⟩
theorem bd_nodup : bd_idx.Nodup := by decide +kernel
theorem bd_Rep.P {E : bd_E} {xm ym : bd_M} {om : Nat → Int64} {H : Heap} (h : bd_Rep E xm ym om H) : va_P (bd_eD E) vwCl (bd_ws E xm ym om) H := by
  intro q z hz
  obtain ⟨f, w, k, -, h2, rfl⟩ := bd_ws_of hz
  exact h.2.2 f w k h2
theorem bd_Rep.D {E : bd_E} {xm ym : bd_M} {om : Nat → Int64} {H : Heap} (h : bd_Rep E xm ym om H) : va_D (bd_A E) (bd_ws E xm ym om) := by
  refine ⟨fun i j p q hp hq hpq => ?_, fun k q hk => ?_⟩
  · obtain ⟨f, w, k, a1, a2, rfl⟩ := bd_ws_of hp
    obtain ⟨f', w', k', b1, b2, rfl⟩ := bd_ws_of hq
    obtain ⟨rfl, rfl, rfl⟩ := h.1 f w k f' w' k' a2 b2 hpq
    exact (List.getElem?_inj (List.getElem?_eq_some_iff.mp a1).1 bd_nodup).mp (a1.trans b1.symm)
  · obtain ⟨f, w, k', -, h2, rfl⟩ := bd_ws_of hk
    exact h.2.1 f w k' h2
/-- one cell of the world becomes another one, and the others stay -/
def bd_Up (E : bd_E) (xm ym : bd_M) (om : Nat → Int64) (xm' ym' : bd_M) (om' : Nat → Int64) (f w k : Nat) (e : va_E) : Prop := bd_ce E xm' ym' om' f w k = e ∧ ∀ f' w' k', bd_dm f' w' k' → ¬ (f' = f ∧ w' = w ∧ k' = k) → bd_ce E xm' ym' om' f' w' k' = bd_ce E xm ym om f' w' k'
theorem bd_back {E : bd_E} {xm ym xm' ym' : bd_M} {om om' : Nat → Int64} {H H1 : Heap} {f w k q : Nat} {e : va_E} (h : bd_Rep E xm ym om H) (hq : bd_idx[q]? = some (f, w, k)) (hU : bd_Up E xm ym om xm' ym' om' f w k e)
    (hP : va_P (bd_eD E) vwCl ((bd_ws E xm ym om).set q (bd_ea E f w k, e)) H1) : bd_Rep E xm' ym' om' H1 := by
  refine ⟨h.1, h.2.1, fun f' w' k' hd => ?_⟩
  have hl : q < (bd_ws E xm ym om).length := by rw [bd_ws, List.length_map]; exact (List.getElem?_eq_some_iff.mp hq).1
  by_cases hc : f' = f ∧ w' = w ∧ k' = k
  · obtain ⟨rfl, rfl, rfl⟩ := hc
    rw [hU.1]
    exact hP q _ (List.getElem?_set_self hl)
  · rw [hU.2 f' w' k' hd hc]
    obtain ⟨q', hq'⟩ := bd_pos hd
    refine hP q' _ ?_
    rw [List.getElem?_set_ne, bd_ws_at hq']
    intro e1
    subst e1
    rw [hq] at hq'
    cases hq'
    exact hc ⟨rfl, rfl, rfl⟩
theorem bd_Rep.kept {E : bd_E} {xm ym : bd_M} {om : Nat → Int64} {H H1 : Heap} (h : bd_Rep E xm ym om H) (hk : ∀ q : Nat, q < H.size → H1[q]? = H[q]?) : bd_Rep E xm ym om H1 := ⟨h.1, h.2.1, fun f w k hd => (h.2.2 f w k hd).kept (hk _ (h.2.2 f w k hd).lt)⟩
theorem bd_Rep.lt {E : bd_E} {xm ym : bd_M} {om : Nat → Int64} {H : Heap} (h : bd_Rep E xm ym om H) {f w k : Nat} (hd : bd_dm f w k) : bd_ea E f w k < H.size := (h.2.2 f w k hd).lt
theorem bd_Rep.sz {E : bd_E} {xm ym : bd_M} {om : Nat → Int64} {H : Heap} (h : bd_Rep E xm ym om H) : E.2.2.2.2 ≤ H.size := Nat.le_of_lt (Nat.lt_of_le_of_lt (h.2.1 0 0 0 ⟨by decide, by decide, by decide⟩) (h.lt (f := 0) (w := 0) (k := 0) ⟨by decide, by decide, by decide⟩))
/-- the links among nest mates -/
def bd_N : List Cond := [.fieldLinkNest RX7 101 RX6 "tired" "[I" RX7, .fieldLinkNest RX7 104 RX6 "sat" "[I" RX7, .fieldLinkNest RX7 107 RX6 "deputy" "[I" RX7, .fieldLinkNest RX7 116 RX6 "points" "[I" RX7, .fieldLinkNest RX7 119 RX6 "outs" "[I" RX7, .fieldLinkNest RX7 132 RX6 "contests" "I" RX7, .fieldLinkNest RX7 135 RX6 "deputies" "I" RX7, .fieldLinkNest RX7 138 RX6 "empties" "I" RX7, .fieldLinkNest RX7 66 RX6 "member" "[I" RX7, .fieldLinkNest RX7 69 RX6 "who" "[I" RX7, .fieldLinkNest RX7 72 RX6 "latest" "[I" RX7, .fieldLinkNest RX7 89 RX6 "absent" "[I" RX7, .fieldLinkNest RX7 92 RX6 "spirit" "[I" RX7, .fieldLinkNest RX6 103 RX7 "bands" "I" RX7, .fieldLinkNest RX6 69 RX7 "seats" "[I" RX7, .fieldLinkNest RX6 72 RX7 "instrument" "[I" RX7, .fieldLinkNest RX6 75 RX7 "skill" "[I" RX7, .fieldLinkNest RX6 78 RX7 "players" "I" RX7, .fieldLinkNest RX6 89 RX7 "weight" "[I" RX7, .fieldLinkNest RX6 92 RX7 "hard" "[I" RX7]
def bd_NM : List Cond := [.methodLinkNest RX0 30 yX1_init "BandDay", .methodLinkNest RX4 30 yX3_init "BandDay", .methodLinkNest RX7 27 yX6_init "BandDayModel"]
def bd_KK (E : bd_E) (U : State) : Prop := va_K (bd_eD E) vwCl (bd_ty E) U ∧ (∀ w ∈ bd_N, va_Nw w U) ∧ (∀ w ∈ bd_NM, va_Nw w U)
theorem bd_KK.warm {E : bd_E} {s U : State} (hW : s.WarmedH U.vm) (h : bd_KK E s) : bd_KK E U := by
  refine ⟨va_K.moved hW.alike h.1, fun w hw => ?_, fun w hw => ?_⟩
  · have h2 := h.2.1 w hw
    simp only [bd_N, List.mem_cons, List.not_mem_nil, or_false] at hw
    rcases hw with rfl | rfl | rfl | rfl | rfl | rfl | rfl | rfl | rfl | rfl | rfl | rfl | rfl | rfl | rfl | rfl | rfl | rfl | rfl | rfl <;> exact va_Nw.warmF hW h2
  · have h2 := h.2.2 w hw
    simp only [bd_NM, List.mem_cons, List.not_mem_nil, or_false] at hw
    rcases hw with rfl | rfl | rfl <;> exact va_Nw.warmM hW h2
theorem bd_KK.same {E : bd_E} {s U : State} (hv : s.vm = U.vm) (h : bd_KK E s) : bd_KK E U := by
  refine ⟨va_K.moved (by rw [← hv]; exact Vm.Alike.refl _) h.1, fun w hw => ?_, fun w hw => ?_⟩
  · have h2 := h.2.1 w hw
    simp only [bd_N, List.mem_cons, List.not_mem_nil, or_false] at hw
    rcases hw with rfl | rfl | rfl | rfl | rfl | rfl | rfl | rfl | rfl | rfl | rfl | rfl | rfl | rfl | rfl | rfl | rfl | rfl | rfl | rfl <;> exact va_Nw.same rfl hv h2
  · have h2 := h.2.2 w hw
    simp only [bd_NM, List.mem_cons, List.not_mem_nil, or_false] at hw
    rcases hw with rfl | rfl | rfl <;> exact va_Nw.same rfl hv h2
end
section
/-! ROWS: one instruction each, over the world bd_Rep (printed by wip/whole/tools/mkrows.py) -/
/-- the family in which a field of the class's memory stands -/
def bd_fam (f : Nat) : Nat := if f ≤ 7 then 7 else if f ≤ 12 then 11 else if f ≤ 27 then 9 else if f ≤ 34 then 1 else if f = 35 then 5 else if f = 36 then 6 else 8
/-- families of many objects a season -/
def bd_ob (f : Nat) : Bool := f == 7 || f == 8 || f == 9 || f == 11
theorem bd_up_s {x : bd_M} {f w k : Nat} {v : Int32} : bd_up x f w k v f w k = v := by simp [bd_up]
theorem bd_up_n {x : bd_M} {f w k f' w' k' : Nat} {v : Int32} (h : ¬ (f' = f ∧ w' = w ∧ k' = k)) : bd_up x f w k v f' w' k' = x f' w' k' := if_neg h
theorem bd_up_f {x : bd_M} {f w k f' w' k' : Nat} {v : Int32} (h : f' ≠ f) : bd_up x f w k v f' w' k' = x f' w' k' := if_neg (fun q => h q.1)
theorem bd_ceX {E : bd_E} {xm xm' ym : bd_M} {om : Nat → Int64} {f w k : Nat} (hd : bd_dm f w k) (h : ∀ F k2, bd_fam F = f → (bd_ob f = true → k2 = k) → xm' F w k2 = xm F w k2) : bd_ce E xm' ym om f w k = bd_ce E xm ym om f w k := by
  obtain ⟨h1, h2, h3⟩ := hd
  match f, h1, h2, h3, h with

  | 0, _, _, _, _ => rfl
  | 1, _, h2, h3, h => have e : k = 0 := Nat.lt_one_iff.mp h3; subst e; simp only [bd_ce]; rw [h 30 0 (by decide) (by decide), h 31 0 (by decide) (by decide), h 32 0 (by decide) (by decide), h 33 0 (by decide) (by decide), h 34 0 (by decide) (by decide)]
  | 2, _, _, _, _ => rfl
  | 3, _, _, _, _ => rfl
  | 4, _, _, _, _ => rfl
  | 5, _, _, _, h => have e : (fun j => xm' 35 w j) = (fun j => xm 35 w j) := funext fun j => h 35 j (by decide) (fun q => absurd q (by decide)); simp only [bd_ce]; rw [e]
  | 6, _, _, _, h => have e : (fun j => xm' 36 w j) = (fun j => xm 36 w j) := funext fun j => h 36 j (by decide) (fun q => absurd q (by decide)); simp only [bd_ce]; rw [e]
  | 7, _, _, _, h => simp only [bd_ce]; rw [h 0 k (by decide) (fun _ => rfl), h 1 k (by decide) (fun _ => rfl), h 2 k (by decide) (fun _ => rfl), h 3 k (by decide) (fun _ => rfl), h 4 k (by decide) (fun _ => rfl), h 5 k (by decide) (fun _ => rfl), h 6 k (by decide) (fun _ => rfl), h 7 k (by decide) (fun _ => rfl)]
  | 8, _, _, _, h => have e : (fun j => xm' (j + 1000) w k) = (fun j => xm (j + 1000) w k) := funext fun j => h (j + 1000) k (by simp only [bd_fam]; repeat (first | rw [if_neg (by omega)] | rfl)) (fun _ => rfl); simp only [bd_ce]; rw [e]
  | 9, _, _, _, h => simp only [bd_ce]; rw [h 20 k (by decide) (fun _ => rfl), h 21 k (by decide) (fun _ => rfl), h 22 k (by decide) (fun _ => rfl), h 23 k (by decide) (fun _ => rfl), h 24 k (by decide) (fun _ => rfl), h 25 k (by decide) (fun _ => rfl), h 26 k (by decide) (fun _ => rfl), h 27 k (by decide) (fun _ => rfl)]
  | 10, _, _, _, _ => rfl
  | 11, _, _, _, h => simp only [bd_ce]; rw [h 10 k (by decide) (fun _ => rfl), h 11 k (by decide) (fun _ => rfl), h 12 k (by decide) (fun _ => rfl)]
  | 12, _, _, _, _ => rfl
  | 13, _, _, _, _ => rfl
  | 14, _, _, _, _ => rfl
  | 15, _, _, _, _ => rfl
  | 16, _, _, _, _ => rfl
  | 17, _, _, _, _ => rfl
  | 18, _, _, _, _ => rfl
  | 19, _, _, _, _ => rfl
  | 20, _, _, _, _ => rfl
  | 21, _, _, _, _ => rfl
  | 22, _, _, _, _ => rfl
  | 23, _, _, _, _ => rfl
  | 24, _, _, _, _ => rfl
  | 25, _, _, _, _ => rfl
  | 26, _, _, _, _ => rfl
  | 27, _, _, _, _ => rfl
  | 28, _, _, _, _ => rfl
  | 29, _, _, _, _ => rfl
  | 30, _, _, _, _ => rfl
  | n + 31, h1, _, _, _ => exact absurd h1 (by omega)
theorem bd_upX {E : bd_E} {xm ym : bd_M} {om : Nat → Int64} {F w kk kc : Nat} {v : Int32} {e : va_E} (hc : bd_ce E (bd_up xm F w kk v) ym om (bd_fam F) w kc = e) (h1 : bd_ob (bd_fam F) = true → kc = kk) (h2 : bd_ob (bd_fam F) = false → kc = 0 ∧ bd_kN (bd_fam F) = 1) : bd_Up E xm ym om (bd_up xm F w kk v) ym om (bd_fam F) w kc e := by
  refine ⟨hc, fun f' w' k' hd hn => bd_ceX hd fun F2 k2 hF hk => bd_up_n (fun q => hn ?_)⟩
  obtain ⟨rfl, rfl, rfl⟩ := q
  subst hF
  refine ⟨rfl, rfl, ?_⟩
  cases hb : bd_ob (bd_fam F2) with
  | true => rw [h1 hb, hk hb]
  | false =>
    obtain ⟨a1, a2⟩ := h2 hb
    have h3 := hd.2.2
    rw [a2] at h3
    omega
def bd_fmY (f : Nat) : Nat := if f ≤ 2 then 12 else if f ≤ 12 then 18 else f
theorem bd_ceY {E : bd_E} {xm ym ym' : bd_M} {om : Nat → Int64} {f w k : Nat} (hd : bd_dm f w k) (h : ∀ F k2, bd_fmY F = f → ym' F w k2 = ym F w k2) : bd_ce E xm ym' om f w k = bd_ce E xm ym om f w k := by
  obtain ⟨h1, h2, h3⟩ := hd
  match f, h1, h2, h3, h with
  | 0, _, _, _, _ => rfl
  | 1, _, _, _, _ => rfl
  | 2, _, _, _, _ => rfl
  | 3, _, _, _, _ => rfl
  | 4, _, _, _, _ => rfl
  | 5, _, _, _, _ => rfl
  | 6, _, _, _, _ => rfl
  | 7, _, _, _, _ => rfl
  | 8, _, _, _, _ => rfl
  | 9, _, _, _, _ => rfl
  | 10, _, _, _, _ => rfl
  | 11, _, _, _, _ => rfl
  | 12, _, h2, _, h => have e : w = 0 := Nat.lt_one_iff.mp h2; subst e; simp only [bd_ce]; rw [h 0 0 (by decide), h 1 0 (by decide), h 2 0 (by decide)]
  | 13, _, _, _, h => have e : (fun j => ym' 13 w j) = (fun j => ym 13 w j) := funext fun j => h 13 j (by decide); simp only [bd_ce]; rw [e]
  | 14, _, _, _, h => have e : (fun j => ym' 14 w j) = (fun j => ym 14 w j) := funext fun j => h 14 j (by decide); simp only [bd_ce]; rw [e]
  | 15, _, _, _, h => have e : (fun j => ym' 15 w j) = (fun j => ym 15 w j) := funext fun j => h 15 j (by decide); simp only [bd_ce]; rw [e]
  | 16, _, _, _, h => have e : (fun j => ym' 16 w j) = (fun j => ym 16 w j) := funext fun j => h 16 j (by decide); simp only [bd_ce]; rw [e]
  | 17, _, _, _, h => have e : (fun j => ym' 17 w j) = (fun j => ym 17 w j) := funext fun j => h 17 j (by decide); simp only [bd_ce]; rw [e]
  | 18, _, _, _, h => simp only [bd_ce]; rw [h 10 0 (by decide), h 11 0 (by decide), h 12 0 (by decide)]
  | 19, _, _, _, h => have e : (fun j => ym' 19 w j) = (fun j => ym 19 w j) := funext fun j => h 19 j (by decide); simp only [bd_ce]; rw [e]
  | 20, _, _, _, h => have e : (fun j => ym' 20 w j) = (fun j => ym 20 w j) := funext fun j => h 20 j (by decide); simp only [bd_ce]; rw [e]
  | 21, _, _, _, h => have e : (fun j => ym' 21 w j) = (fun j => ym 21 w j) := funext fun j => h 21 j (by decide); simp only [bd_ce]; rw [e]
  | 22, _, _, _, h => have e : (fun j => ym' 22 w j) = (fun j => ym 22 w j) := funext fun j => h 22 j (by decide); simp only [bd_ce]; rw [e]
  | 23, _, _, _, h => have e : (fun j => ym' 23 w j) = (fun j => ym 23 w j) := funext fun j => h 23 j (by decide); simp only [bd_ce]; rw [e]
  | 24, _, _, _, h => have e : (fun j => ym' 24 w j) = (fun j => ym 24 w j) := funext fun j => h 24 j (by decide); simp only [bd_ce]; rw [e]
  | 25, _, _, _, h => have e : (fun j => ym' 25 w j) = (fun j => ym 25 w j) := funext fun j => h 25 j (by decide); simp only [bd_ce]; rw [e]
  | 26, _, _, _, h => have e : (fun j => ym' 26 w j) = (fun j => ym 26 w j) := funext fun j => h 26 j (by decide); simp only [bd_ce]; rw [e]
  | 27, _, _, _, h => have e : (fun j => ym' 27 w j) = (fun j => ym 27 w j) := funext fun j => h 27 j (by decide); simp only [bd_ce]; rw [e]
  | 28, _, _, _, h => have e : (fun j => ym' 28 w j) = (fun j => ym 28 w j) := funext fun j => h 28 j (by decide); simp only [bd_ce]; rw [e]
  | 29, _, _, _, h => have e : (fun j => ym' 29 w j) = (fun j => ym 29 w j) := funext fun j => h 29 j (by decide); simp only [bd_ce]; rw [e]
  | 30, _, _, _, _ => rfl
  | n + 31, h1, _, _, _ => exact absurd h1 (by omega)
theorem bd_upY {E : bd_E} {xm ym : bd_M} {om : Nat → Int64} {F w kk : Nat} {v : Int32} {e : va_E} (hc : bd_ce E xm (bd_up ym F w kk v) om (bd_fmY F) w 0 = e) (h2 : bd_kN (bd_fmY F) = 1) : bd_Up E xm ym om xm (bd_up ym F w kk v) om (bd_fmY F) w 0 e := by
  refine ⟨hc, fun f' w' k' hd hn => bd_ceY hd fun F2 k2 hF => bd_up_n (fun q => hn ?_)⟩
  obtain ⟨rfl, rfl, rfl⟩ := q
  subst hF
  have h3 := hd.2.2
  rw [h2] at h3
  exact ⟨rfl, rfl, by omega⟩
/-- a row of one season becomes another one -/
def bd_ro (x : bd_M) (f w : Nat) (g : Nat → Int32) : bd_M := fun f' w' k' => if f' = f ∧ w' = w then g k' else x f' w' k'
/-- the skills of a player become others -/
def bd_sk (x : bd_M) (w k : Nat) (g : Nat → Int32) : bd_M := fun f' w' k' => if 1000 ≤ f' ∧ w' = w ∧ k' = k then g (f' - 1000) else x f' w' k'
theorem bd_roY {E : bd_E} {xm ym : bd_M} {om : Nat → Int64} {F w : Nat} {g : Nat → Int32} {e : va_E} (hc : bd_ce E xm (bd_ro ym F w g) om (bd_fmY F) w 0 = e) (h2 : bd_kN (bd_fmY F) = 1) : bd_Up E xm ym om xm (bd_ro ym F w g) om (bd_fmY F) w 0 e := by
  refine ⟨hc, fun f' w' k' hd hn => bd_ceY hd fun F2 k2 hF => if_neg (fun q => hn ?_)⟩
  obtain ⟨rfl, rfl⟩ := q
  subst hF
  have h3 := hd.2.2
  rw [h2] at h3
  exact ⟨rfl, rfl, by omega⟩
theorem bd_roX {E : bd_E} {xm ym : bd_M} {om : Nat → Int64} {F w : Nat} {g : Nat → Int32} {e : va_E} (hc : bd_ce E (bd_ro xm F w g) ym om (bd_fam F) w 0 = e) (h2 : bd_kN (bd_fam F) = 1) : bd_Up E xm ym om (bd_ro xm F w g) ym om (bd_fam F) w 0 e := by
  refine ⟨hc, fun f' w' k' hd hn => bd_ceX hd fun F2 k2 hF _ => if_neg (fun q => hn ?_)⟩
  obtain ⟨rfl, rfl⟩ := q
  subst hF
  have h3 := hd.2.2
  rw [h2] at h3
  exact ⟨rfl, rfl, by omega⟩
theorem bd_skX {E : bd_E} {xm ym : bd_M} {om : Nat → Int64} {w k : Nat} {g : Nat → Int32} : bd_Up E xm ym om (bd_sk xm w k g) ym om 8 w k (bd_iA E 4 g) := by
  refine ⟨?_, fun f' w' k' hd hn => bd_ceX hd fun F2 k2 hF hk => if_neg (fun q => hn ?_)⟩
  · have e : (fun j => bd_sk xm w k g (j + 1000) w k) = g := funext fun j => by simp [bd_sk]
    simp only [bd_ce]
    rw [e]
  · obtain ⟨a1, rfl, a2⟩ := q
    have hf : bd_fam F2 = 8 := by
      simp only [bd_fam]
      repeat (first | rw [if_neg (by omega)] | rfl)
    rw [hf] at hF
    subst hF
    exact ⟨rfl, rfl, by rw [← hk (by decide), a2]⟩
/-- what a method's rows stand on -/
abbrev bd_Cx (E : bd_E) (p : Program) (m : MethodId) (c : Code) (cc : ByteArray) (nL : Nat) (s : State) (args : Array Value) (own : String) : Prop := CallFix p m c cc nL s args wsL_law own ∧ bd_KK E s
section BDR
variable {p : Program} {l : Launch} {e : Env} {R : Room} {s : State} {m : MethodId} {args : Array Value} {below : List Frame} {meth : Method} {c : Code} {H H0 : Heap} {locs : List Loc} {cells slots : Nat} {Q : State → Prop}
variable {cc : ByteArray} {pc nL : Nat} {ls : Array Slot} {rest : List Value} {E : bd_E} {xm ym : bd_M} {om : Nat → Int64} {own : String} {w k i : Nat}
theorem bd_g_X0_chairs (C : bd_Cx E p m c cc nL s args own) (hR : bd_Rep E xm ym om H) (hw : w < 2) (hk : k < 6) (hl : Cond.fieldLink own i "BandDay$Band" "chairs" "[LBandDay$Chair;" ∈ wsL_law) (hdg : decode cc pc = .ok (.getfield i, 3)) (kk : W p l e R s m args below meth c H locs cells slots Q (F0 m (pc + 3) ls (.ref (bd_ea E 10 w k) :: rest))) : W p l e R s m args below meth c H locs cells slots Q (F0 m pc ls (.ref (bd_ea E 9 w k) :: rest)) := by
  obtain ⟨q, hq⟩ := bd_pos (f := 9) (w := w) (k := k) ⟨by decide, hw, hk⟩
  exact va_get (D := bd_eD E) (ci := 0) (C := RX0) (T := TX0) (N := 9) C.1.1 C.1.2.1 C.1.2.2.2.2 inlX0 C.1.2.2.2.1 C.2.1 hR.P q (bd_ws_at hq) rfl 0 (by decide) (C.1.2.2.2.2 _ hl) (fun _ h => h) rfl hdg kk
theorem bd_g_X0_size (C : bd_Cx E p m c cc nL s args own) (hR : bd_Rep E xm ym om H) (hw : w < 2) (hk : k < 6) (hl : Cond.fieldLink own i "BandDay$Band" "size" "I" ∈ wsL_law) (hdg : decode cc pc = .ok (.getfield i, 3)) (kk : W p l e R s m args below meth c H locs cells slots Q (F0 m (pc + 3) ls (.int (xm 20 w k) :: rest))) : W p l e R s m args below meth c H locs cells slots Q (F0 m pc ls (.ref (bd_ea E 9 w k) :: rest)) := by
  obtain ⟨q, hq⟩ := bd_pos (f := 9) (w := w) (k := k) ⟨by decide, hw, hk⟩
  exact va_get (D := bd_eD E) (ci := 0) (C := RX0) (T := TX0) (N := 9) C.1.1 C.1.2.1 C.1.2.2.2.2 inlX0 C.1.2.2.2.1 C.2.1 hR.P q (bd_ws_at hq) rfl 1 (by decide) (C.1.2.2.2.2 _ hl) (fun _ h => h) rfl hdg kk
theorem bd_p_X0_size (C : bd_Cx E p m c cc nL s args own) (hR : bd_Rep E xm ym om H) (hS : va_S (bd_A E) H0 H locs) (hw : w < 2) (hk : k < 6) (hl : Cond.fieldLink own i "BandDay$Band" "size" "I" ∈ wsL_law) (hdg : decode cc pc = .ok (.putfield i, 3)) {v : Int32} (kk : ∀ (H1 : Heap) (locs1 : List Loc), bd_Rep E (bd_up xm 20 w k v) ym om H1 → va_S (bd_A E) H0 H1 locs1 → W p l e R s m args below meth c H1 locs1 cells slots Q (F0 m (pc + 3) ls rest)) : W p l e R s m args below meth c H locs cells slots Q (F0 m pc ls (.int v :: .ref (bd_ea E 9 w k) :: rest)) := by
  obtain ⟨q, hq⟩ := bd_pos (f := 9) (w := w) (k := k) ⟨by decide, hw, hk⟩
  exact va_put (D := bd_eD E) (ci := 0) (v := .int v) (ty := .int) (C := RX0) (T := TX0) (N := 9) C.1.1 C.1.2.1 C.1.2.2.2.2 inlX0 tyX0 tyX0_ok nmX0 C.1.2.2.2.1 C.2.1 hR.P hR.D hS q (bd_ws_at hq) rfl 1 (by decide) (C.1.2.2.2.2 _ hl) (fun _ h => h) rfl (by decide +kernel) rfl rfl (Nat.le_of_ble_eq_true rfl) hdg (fun H1 locs1 hP _ hS1 => kk H1 locs1 (bd_back hR hq (bd_upX (F := 20) (by simp [bd_ce, bd_up, bd_fam, bd_fmY]) (fun _ => rfl) (fun h => absurd h (by decide))) hP) hS1)
theorem bd_g_X0_spirit (C : bd_Cx E p m c cc nL s args own) (hR : bd_Rep E xm ym om H) (hw : w < 2) (hk : k < 6) (hl : Cond.fieldLink own i "BandDay$Band" "spirit" "I" ∈ wsL_law) (hdg : decode cc pc = .ok (.getfield i, 3)) (kk : W p l e R s m args below meth c H locs cells slots Q (F0 m (pc + 3) ls (.int (xm 21 w k) :: rest))) : W p l e R s m args below meth c H locs cells slots Q (F0 m pc ls (.ref (bd_ea E 9 w k) :: rest)) := by
  obtain ⟨q, hq⟩ := bd_pos (f := 9) (w := w) (k := k) ⟨by decide, hw, hk⟩
  exact va_get (D := bd_eD E) (ci := 0) (C := RX0) (T := TX0) (N := 9) C.1.1 C.1.2.1 C.1.2.2.2.2 inlX0 C.1.2.2.2.1 C.2.1 hR.P q (bd_ws_at hq) rfl 2 (by decide) (C.1.2.2.2.2 _ hl) (fun _ h => h) rfl hdg kk
theorem bd_p_X0_spirit (C : bd_Cx E p m c cc nL s args own) (hR : bd_Rep E xm ym om H) (hS : va_S (bd_A E) H0 H locs) (hw : w < 2) (hk : k < 6) (hl : Cond.fieldLink own i "BandDay$Band" "spirit" "I" ∈ wsL_law) (hdg : decode cc pc = .ok (.putfield i, 3)) {v : Int32} (kk : ∀ (H1 : Heap) (locs1 : List Loc), bd_Rep E (bd_up xm 21 w k v) ym om H1 → va_S (bd_A E) H0 H1 locs1 → W p l e R s m args below meth c H1 locs1 cells slots Q (F0 m (pc + 3) ls rest)) : W p l e R s m args below meth c H locs cells slots Q (F0 m pc ls (.int v :: .ref (bd_ea E 9 w k) :: rest)) := by
  obtain ⟨q, hq⟩ := bd_pos (f := 9) (w := w) (k := k) ⟨by decide, hw, hk⟩
  exact va_put (D := bd_eD E) (ci := 0) (v := .int v) (ty := .int) (C := RX0) (T := TX0) (N := 9) C.1.1 C.1.2.1 C.1.2.2.2.2 inlX0 tyX0 tyX0_ok nmX0 C.1.2.2.2.1 C.2.1 hR.P hR.D hS q (bd_ws_at hq) rfl 2 (by decide) (C.1.2.2.2.2 _ hl) (fun _ h => h) rfl (by decide +kernel) rfl rfl (Nat.le_of_ble_eq_true rfl) hdg (fun H1 locs1 hP _ hS1 => kk H1 locs1 (bd_back hR hq (bd_upX (F := 21) (by simp [bd_ce, bd_up, bd_fam, bd_fmY]) (fun _ => rfl) (fun h => absurd h (by decide))) hP) hS1)
theorem bd_g_X0_marks (C : bd_Cx E p m c cc nL s args own) (hR : bd_Rep E xm ym om H) (hw : w < 2) (hk : k < 6) (hl : Cond.fieldLink own i "BandDay$Band" "marks" "I" ∈ wsL_law) (hdg : decode cc pc = .ok (.getfield i, 3)) (kk : W p l e R s m args below meth c H locs cells slots Q (F0 m (pc + 3) ls (.int (xm 22 w k) :: rest))) : W p l e R s m args below meth c H locs cells slots Q (F0 m pc ls (.ref (bd_ea E 9 w k) :: rest)) := by
  obtain ⟨q, hq⟩ := bd_pos (f := 9) (w := w) (k := k) ⟨by decide, hw, hk⟩
  exact va_get (D := bd_eD E) (ci := 0) (C := RX0) (T := TX0) (N := 9) C.1.1 C.1.2.1 C.1.2.2.2.2 inlX0 C.1.2.2.2.1 C.2.1 hR.P q (bd_ws_at hq) rfl 3 (by decide) (C.1.2.2.2.2 _ hl) (fun _ h => h) rfl hdg kk
theorem bd_p_X0_marks (C : bd_Cx E p m c cc nL s args own) (hR : bd_Rep E xm ym om H) (hS : va_S (bd_A E) H0 H locs) (hw : w < 2) (hk : k < 6) (hl : Cond.fieldLink own i "BandDay$Band" "marks" "I" ∈ wsL_law) (hdg : decode cc pc = .ok (.putfield i, 3)) {v : Int32} (kk : ∀ (H1 : Heap) (locs1 : List Loc), bd_Rep E (bd_up xm 22 w k v) ym om H1 → va_S (bd_A E) H0 H1 locs1 → W p l e R s m args below meth c H1 locs1 cells slots Q (F0 m (pc + 3) ls rest)) : W p l e R s m args below meth c H locs cells slots Q (F0 m pc ls (.int v :: .ref (bd_ea E 9 w k) :: rest)) := by
  obtain ⟨q, hq⟩ := bd_pos (f := 9) (w := w) (k := k) ⟨by decide, hw, hk⟩
  exact va_put (D := bd_eD E) (ci := 0) (v := .int v) (ty := .int) (C := RX0) (T := TX0) (N := 9) C.1.1 C.1.2.1 C.1.2.2.2.2 inlX0 tyX0 tyX0_ok nmX0 C.1.2.2.2.1 C.2.1 hR.P hR.D hS q (bd_ws_at hq) rfl 3 (by decide) (C.1.2.2.2.2 _ hl) (fun _ h => h) rfl (by decide +kernel) rfl rfl (Nat.le_of_ble_eq_true rfl) hdg (fun H1 locs1 hP _ hS1 => kk H1 locs1 (bd_back hR hq (bd_upX (F := 22) (by simp [bd_ce, bd_up, bd_fam, bd_fmY]) (fun _ => rfl) (fun h => absurd h (by decide))) hP) hS1)
theorem bd_g_X0_place (C : bd_Cx E p m c cc nL s args own) (hR : bd_Rep E xm ym om H) (hw : w < 2) (hk : k < 6) (hl : Cond.fieldLink own i "BandDay$Band" "place" "I" ∈ wsL_law) (hdg : decode cc pc = .ok (.getfield i, 3)) (kk : W p l e R s m args below meth c H locs cells slots Q (F0 m (pc + 3) ls (.int (xm 23 w k) :: rest))) : W p l e R s m args below meth c H locs cells slots Q (F0 m pc ls (.ref (bd_ea E 9 w k) :: rest)) := by
  obtain ⟨q, hq⟩ := bd_pos (f := 9) (w := w) (k := k) ⟨by decide, hw, hk⟩
  exact va_get (D := bd_eD E) (ci := 0) (C := RX0) (T := TX0) (N := 9) C.1.1 C.1.2.1 C.1.2.2.2.2 inlX0 C.1.2.2.2.1 C.2.1 hR.P q (bd_ws_at hq) rfl 4 (by decide) (C.1.2.2.2.2 _ hl) (fun _ h => h) rfl hdg kk
theorem bd_p_X0_place (C : bd_Cx E p m c cc nL s args own) (hR : bd_Rep E xm ym om H) (hS : va_S (bd_A E) H0 H locs) (hw : w < 2) (hk : k < 6) (hl : Cond.fieldLink own i "BandDay$Band" "place" "I" ∈ wsL_law) (hdg : decode cc pc = .ok (.putfield i, 3)) {v : Int32} (kk : ∀ (H1 : Heap) (locs1 : List Loc), bd_Rep E (bd_up xm 23 w k v) ym om H1 → va_S (bd_A E) H0 H1 locs1 → W p l e R s m args below meth c H1 locs1 cells slots Q (F0 m (pc + 3) ls rest)) : W p l e R s m args below meth c H locs cells slots Q (F0 m pc ls (.int v :: .ref (bd_ea E 9 w k) :: rest)) := by
  obtain ⟨q, hq⟩ := bd_pos (f := 9) (w := w) (k := k) ⟨by decide, hw, hk⟩
  exact va_put (D := bd_eD E) (ci := 0) (v := .int v) (ty := .int) (C := RX0) (T := TX0) (N := 9) C.1.1 C.1.2.1 C.1.2.2.2.2 inlX0 tyX0 tyX0_ok nmX0 C.1.2.2.2.1 C.2.1 hR.P hR.D hS q (bd_ws_at hq) rfl 4 (by decide) (C.1.2.2.2.2 _ hl) (fun _ h => h) rfl (by decide +kernel) rfl rfl (Nat.le_of_ble_eq_true rfl) hdg (fun H1 locs1 hP _ hS1 => kk H1 locs1 (bd_back hR hq (bd_upX (F := 23) (by simp [bd_ce, bd_up, bd_fam, bd_fmY]) (fun _ => rfl) (fun h => absurd h (by decide))) hP) hS1)
theorem bd_g_X0_deputies (C : bd_Cx E p m c cc nL s args own) (hR : bd_Rep E xm ym om H) (hw : w < 2) (hk : k < 6) (hl : Cond.fieldLink own i "BandDay$Band" "deputies" "I" ∈ wsL_law) (hdg : decode cc pc = .ok (.getfield i, 3)) (kk : W p l e R s m args below meth c H locs cells slots Q (F0 m (pc + 3) ls (.int (xm 24 w k) :: rest))) : W p l e R s m args below meth c H locs cells slots Q (F0 m pc ls (.ref (bd_ea E 9 w k) :: rest)) := by
  obtain ⟨q, hq⟩ := bd_pos (f := 9) (w := w) (k := k) ⟨by decide, hw, hk⟩
  exact va_get (D := bd_eD E) (ci := 0) (C := RX0) (T := TX0) (N := 9) C.1.1 C.1.2.1 C.1.2.2.2.2 inlX0 C.1.2.2.2.1 C.2.1 hR.P q (bd_ws_at hq) rfl 5 (by decide) (C.1.2.2.2.2 _ hl) (fun _ h => h) rfl hdg kk
theorem bd_p_X0_deputies (C : bd_Cx E p m c cc nL s args own) (hR : bd_Rep E xm ym om H) (hS : va_S (bd_A E) H0 H locs) (hw : w < 2) (hk : k < 6) (hl : Cond.fieldLink own i "BandDay$Band" "deputies" "I" ∈ wsL_law) (hdg : decode cc pc = .ok (.putfield i, 3)) {v : Int32} (kk : ∀ (H1 : Heap) (locs1 : List Loc), bd_Rep E (bd_up xm 24 w k v) ym om H1 → va_S (bd_A E) H0 H1 locs1 → W p l e R s m args below meth c H1 locs1 cells slots Q (F0 m (pc + 3) ls rest)) : W p l e R s m args below meth c H locs cells slots Q (F0 m pc ls (.int v :: .ref (bd_ea E 9 w k) :: rest)) := by
  obtain ⟨q, hq⟩ := bd_pos (f := 9) (w := w) (k := k) ⟨by decide, hw, hk⟩
  exact va_put (D := bd_eD E) (ci := 0) (v := .int v) (ty := .int) (C := RX0) (T := TX0) (N := 9) C.1.1 C.1.2.1 C.1.2.2.2.2 inlX0 tyX0 tyX0_ok nmX0 C.1.2.2.2.1 C.2.1 hR.P hR.D hS q (bd_ws_at hq) rfl 5 (by decide) (C.1.2.2.2.2 _ hl) (fun _ h => h) rfl (by decide +kernel) rfl rfl (Nat.le_of_ble_eq_true rfl) hdg (fun H1 locs1 hP _ hS1 => kk H1 locs1 (bd_back hR hq (bd_upX (F := 24) (by simp [bd_ce, bd_up, bd_fam, bd_fmY]) (fun _ => rfl) (fun h => absurd h (by decide))) hP) hS1)
theorem bd_g_X0_empties (C : bd_Cx E p m c cc nL s args own) (hR : bd_Rep E xm ym om H) (hw : w < 2) (hk : k < 6) (hl : Cond.fieldLink own i "BandDay$Band" "empties" "I" ∈ wsL_law) (hdg : decode cc pc = .ok (.getfield i, 3)) (kk : W p l e R s m args below meth c H locs cells slots Q (F0 m (pc + 3) ls (.int (xm 25 w k) :: rest))) : W p l e R s m args below meth c H locs cells slots Q (F0 m pc ls (.ref (bd_ea E 9 w k) :: rest)) := by
  obtain ⟨q, hq⟩ := bd_pos (f := 9) (w := w) (k := k) ⟨by decide, hw, hk⟩
  exact va_get (D := bd_eD E) (ci := 0) (C := RX0) (T := TX0) (N := 9) C.1.1 C.1.2.1 C.1.2.2.2.2 inlX0 C.1.2.2.2.1 C.2.1 hR.P q (bd_ws_at hq) rfl 6 (by decide) (C.1.2.2.2.2 _ hl) (fun _ h => h) rfl hdg kk
theorem bd_p_X0_empties (C : bd_Cx E p m c cc nL s args own) (hR : bd_Rep E xm ym om H) (hS : va_S (bd_A E) H0 H locs) (hw : w < 2) (hk : k < 6) (hl : Cond.fieldLink own i "BandDay$Band" "empties" "I" ∈ wsL_law) (hdg : decode cc pc = .ok (.putfield i, 3)) {v : Int32} (kk : ∀ (H1 : Heap) (locs1 : List Loc), bd_Rep E (bd_up xm 25 w k v) ym om H1 → va_S (bd_A E) H0 H1 locs1 → W p l e R s m args below meth c H1 locs1 cells slots Q (F0 m (pc + 3) ls rest)) : W p l e R s m args below meth c H locs cells slots Q (F0 m pc ls (.int v :: .ref (bd_ea E 9 w k) :: rest)) := by
  obtain ⟨q, hq⟩ := bd_pos (f := 9) (w := w) (k := k) ⟨by decide, hw, hk⟩
  exact va_put (D := bd_eD E) (ci := 0) (v := .int v) (ty := .int) (C := RX0) (T := TX0) (N := 9) C.1.1 C.1.2.1 C.1.2.2.2.2 inlX0 tyX0 tyX0_ok nmX0 C.1.2.2.2.1 C.2.1 hR.P hR.D hS q (bd_ws_at hq) rfl 6 (by decide) (C.1.2.2.2.2 _ hl) (fun _ h => h) rfl (by decide +kernel) rfl rfl (Nat.le_of_ble_eq_true rfl) hdg (fun H1 locs1 hP _ hS1 => kk H1 locs1 (bd_back hR hq (bd_upX (F := 25) (by simp [bd_ce, bd_up, bd_fam, bd_fmY]) (fun _ => rfl) (fun h => absurd h (by decide))) hP) hS1)
theorem bd_g_X0_points (C : bd_Cx E p m c cc nL s args own) (hR : bd_Rep E xm ym om H) (hw : w < 2) (hk : k < 6) (hl : Cond.fieldLink own i "BandDay$Band" "points" "I" ∈ wsL_law) (hdg : decode cc pc = .ok (.getfield i, 3)) (kk : W p l e R s m args below meth c H locs cells slots Q (F0 m (pc + 3) ls (.int (xm 26 w k) :: rest))) : W p l e R s m args below meth c H locs cells slots Q (F0 m pc ls (.ref (bd_ea E 9 w k) :: rest)) := by
  obtain ⟨q, hq⟩ := bd_pos (f := 9) (w := w) (k := k) ⟨by decide, hw, hk⟩
  exact va_get (D := bd_eD E) (ci := 0) (C := RX0) (T := TX0) (N := 9) C.1.1 C.1.2.1 C.1.2.2.2.2 inlX0 C.1.2.2.2.1 C.2.1 hR.P q (bd_ws_at hq) rfl 7 (by decide) (C.1.2.2.2.2 _ hl) (fun _ h => h) rfl hdg kk
theorem bd_p_X0_points (C : bd_Cx E p m c cc nL s args own) (hR : bd_Rep E xm ym om H) (hS : va_S (bd_A E) H0 H locs) (hw : w < 2) (hk : k < 6) (hl : Cond.fieldLink own i "BandDay$Band" "points" "I" ∈ wsL_law) (hdg : decode cc pc = .ok (.putfield i, 3)) {v : Int32} (kk : ∀ (H1 : Heap) (locs1 : List Loc), bd_Rep E (bd_up xm 26 w k v) ym om H1 → va_S (bd_A E) H0 H1 locs1 → W p l e R s m args below meth c H1 locs1 cells slots Q (F0 m (pc + 3) ls rest)) : W p l e R s m args below meth c H locs cells slots Q (F0 m pc ls (.int v :: .ref (bd_ea E 9 w k) :: rest)) := by
  obtain ⟨q, hq⟩ := bd_pos (f := 9) (w := w) (k := k) ⟨by decide, hw, hk⟩
  exact va_put (D := bd_eD E) (ci := 0) (v := .int v) (ty := .int) (C := RX0) (T := TX0) (N := 9) C.1.1 C.1.2.1 C.1.2.2.2.2 inlX0 tyX0 tyX0_ok nmX0 C.1.2.2.2.1 C.2.1 hR.P hR.D hS q (bd_ws_at hq) rfl 7 (by decide) (C.1.2.2.2.2 _ hl) (fun _ h => h) rfl (by decide +kernel) rfl rfl (Nat.le_of_ble_eq_true rfl) hdg (fun H1 locs1 hP _ hS1 => kk H1 locs1 (bd_back hR hq (bd_upX (F := 26) (by simp [bd_ce, bd_up, bd_fam, bd_fmY]) (fun _ => rfl) (fun h => absurd h (by decide))) hP) hS1)
theorem bd_g_X0_outs (C : bd_Cx E p m c cc nL s args own) (hR : bd_Rep E xm ym om H) (hw : w < 2) (hk : k < 6) (hl : Cond.fieldLink own i "BandDay$Band" "outs" "I" ∈ wsL_law) (hdg : decode cc pc = .ok (.getfield i, 3)) (kk : W p l e R s m args below meth c H locs cells slots Q (F0 m (pc + 3) ls (.int (xm 27 w k) :: rest))) : W p l e R s m args below meth c H locs cells slots Q (F0 m pc ls (.ref (bd_ea E 9 w k) :: rest)) := by
  obtain ⟨q, hq⟩ := bd_pos (f := 9) (w := w) (k := k) ⟨by decide, hw, hk⟩
  exact va_get (D := bd_eD E) (ci := 0) (C := RX0) (T := TX0) (N := 9) C.1.1 C.1.2.1 C.1.2.2.2.2 inlX0 C.1.2.2.2.1 C.2.1 hR.P q (bd_ws_at hq) rfl 8 (by decide) (C.1.2.2.2.2 _ hl) (fun _ h => h) rfl hdg kk
theorem bd_p_X0_outs (C : bd_Cx E p m c cc nL s args own) (hR : bd_Rep E xm ym om H) (hS : va_S (bd_A E) H0 H locs) (hw : w < 2) (hk : k < 6) (hl : Cond.fieldLink own i "BandDay$Band" "outs" "I" ∈ wsL_law) (hdg : decode cc pc = .ok (.putfield i, 3)) {v : Int32} (kk : ∀ (H1 : Heap) (locs1 : List Loc), bd_Rep E (bd_up xm 27 w k v) ym om H1 → va_S (bd_A E) H0 H1 locs1 → W p l e R s m args below meth c H1 locs1 cells slots Q (F0 m (pc + 3) ls rest)) : W p l e R s m args below meth c H locs cells slots Q (F0 m pc ls (.int v :: .ref (bd_ea E 9 w k) :: rest)) := by
  obtain ⟨q, hq⟩ := bd_pos (f := 9) (w := w) (k := k) ⟨by decide, hw, hk⟩
  exact va_put (D := bd_eD E) (ci := 0) (v := .int v) (ty := .int) (C := RX0) (T := TX0) (N := 9) C.1.1 C.1.2.1 C.1.2.2.2.2 inlX0 tyX0 tyX0_ok nmX0 C.1.2.2.2.1 C.2.1 hR.P hR.D hS q (bd_ws_at hq) rfl 8 (by decide) (C.1.2.2.2.2 _ hl) (fun _ h => h) rfl (by decide +kernel) rfl rfl (Nat.le_of_ble_eq_true rfl) hdg (fun H1 locs1 hP _ hS1 => kk H1 locs1 (bd_back hR hq (bd_upX (F := 27) (by simp [bd_ce, bd_up, bd_fam, bd_fmY]) (fun _ => rfl) (fun h => absurd h (by decide))) hP) hS1)
theorem bd_g_X1_instrument (C : bd_Cx E p m c cc nL s args own) (hR : bd_Rep E xm ym om H) (hw : w < 2) (hk : k < 48) (hl : Cond.fieldLink own i "BandDay$Chair" "instrument" "I" ∈ wsL_law) (hdg : decode cc pc = .ok (.getfield i, 3)) (kk : W p l e R s m args below meth c H locs cells slots Q (F0 m (pc + 3) ls (.int (xm 10 w k) :: rest))) : W p l e R s m args below meth c H locs cells slots Q (F0 m pc ls (.ref (bd_ea E 11 w k) :: rest)) := by
  obtain ⟨q, hq⟩ := bd_pos (f := 11) (w := w) (k := k) ⟨by decide, hw, hk⟩
  exact va_get (D := bd_eD E) (ci := 1) (C := RX1) (T := TX1) (N := 3) C.1.1 C.1.2.1 C.1.2.2.2.2 inlX1 C.1.2.2.2.1 C.2.1 hR.P q (bd_ws_at hq) rfl 0 (by decide) (C.1.2.2.2.2 _ hl) (fun _ h => h) rfl hdg kk
theorem bd_p_X1_instrument (C : bd_Cx E p m c cc nL s args own) (hR : bd_Rep E xm ym om H) (hS : va_S (bd_A E) H0 H locs) (hw : w < 2) (hk : k < 48) (hl : Cond.fieldLink own i "BandDay$Chair" "instrument" "I" ∈ wsL_law) (hdg : decode cc pc = .ok (.putfield i, 3)) {v : Int32} (kk : ∀ (H1 : Heap) (locs1 : List Loc), bd_Rep E (bd_up xm 10 w k v) ym om H1 → va_S (bd_A E) H0 H1 locs1 → W p l e R s m args below meth c H1 locs1 cells slots Q (F0 m (pc + 3) ls rest)) : W p l e R s m args below meth c H locs cells slots Q (F0 m pc ls (.int v :: .ref (bd_ea E 11 w k) :: rest)) := by
  obtain ⟨q, hq⟩ := bd_pos (f := 11) (w := w) (k := k) ⟨by decide, hw, hk⟩
  exact va_put (D := bd_eD E) (ci := 1) (v := .int v) (ty := .int) (C := RX1) (T := TX1) (N := 3) C.1.1 C.1.2.1 C.1.2.2.2.2 inlX1 tyX1 tyX1_ok nmX1 C.1.2.2.2.1 C.2.1 hR.P hR.D hS q (bd_ws_at hq) rfl 0 (by decide) (C.1.2.2.2.2 _ hl) (fun _ h => h) rfl (by decide +kernel) rfl rfl (Nat.le_of_ble_eq_true rfl) hdg (fun H1 locs1 hP _ hS1 => kk H1 locs1 (bd_back hR hq (bd_upX (F := 10) (by simp [bd_ce, bd_up, bd_fam, bd_fmY]) (fun _ => rfl) (fun h => absurd h (by decide))) hP) hS1)
theorem bd_g_X1_member (C : bd_Cx E p m c cc nL s args own) (hR : bd_Rep E xm ym om H) (hw : w < 2) (hk : k < 48) (hl : Cond.fieldLink own i "BandDay$Chair" "member" "I" ∈ wsL_law) (hdg : decode cc pc = .ok (.getfield i, 3)) (kk : W p l e R s m args below meth c H locs cells slots Q (F0 m (pc + 3) ls (.int (xm 11 w k) :: rest))) : W p l e R s m args below meth c H locs cells slots Q (F0 m pc ls (.ref (bd_ea E 11 w k) :: rest)) := by
  obtain ⟨q, hq⟩ := bd_pos (f := 11) (w := w) (k := k) ⟨by decide, hw, hk⟩
  exact va_get (D := bd_eD E) (ci := 1) (C := RX1) (T := TX1) (N := 3) C.1.1 C.1.2.1 C.1.2.2.2.2 inlX1 C.1.2.2.2.1 C.2.1 hR.P q (bd_ws_at hq) rfl 1 (by decide) (C.1.2.2.2.2 _ hl) (fun _ h => h) rfl hdg kk
theorem bd_p_X1_member (C : bd_Cx E p m c cc nL s args own) (hR : bd_Rep E xm ym om H) (hS : va_S (bd_A E) H0 H locs) (hw : w < 2) (hk : k < 48) (hl : Cond.fieldLink own i "BandDay$Chair" "member" "I" ∈ wsL_law) (hdg : decode cc pc = .ok (.putfield i, 3)) {v : Int32} (kk : ∀ (H1 : Heap) (locs1 : List Loc), bd_Rep E (bd_up xm 11 w k v) ym om H1 → va_S (bd_A E) H0 H1 locs1 → W p l e R s m args below meth c H1 locs1 cells slots Q (F0 m (pc + 3) ls rest)) : W p l e R s m args below meth c H locs cells slots Q (F0 m pc ls (.int v :: .ref (bd_ea E 11 w k) :: rest)) := by
  obtain ⟨q, hq⟩ := bd_pos (f := 11) (w := w) (k := k) ⟨by decide, hw, hk⟩
  exact va_put (D := bd_eD E) (ci := 1) (v := .int v) (ty := .int) (C := RX1) (T := TX1) (N := 3) C.1.1 C.1.2.1 C.1.2.2.2.2 inlX1 tyX1 tyX1_ok nmX1 C.1.2.2.2.1 C.2.1 hR.P hR.D hS q (bd_ws_at hq) rfl 1 (by decide) (C.1.2.2.2.2 _ hl) (fun _ h => h) rfl (by decide +kernel) rfl rfl (Nat.le_of_ble_eq_true rfl) hdg (fun H1 locs1 hP _ hS1 => kk H1 locs1 (bd_back hR hq (bd_upX (F := 11) (by simp [bd_ce, bd_up, bd_fam, bd_fmY]) (fun _ => rfl) (fun h => absurd h (by decide))) hP) hS1)
theorem bd_g_X1_sitter (C : bd_Cx E p m c cc nL s args own) (hR : bd_Rep E xm ym om H) (hw : w < 2) (hk : k < 48) (hl : Cond.fieldLink own i "BandDay$Chair" "sitter" "I" ∈ wsL_law) (hdg : decode cc pc = .ok (.getfield i, 3)) (kk : W p l e R s m args below meth c H locs cells slots Q (F0 m (pc + 3) ls (.int (xm 12 w k) :: rest))) : W p l e R s m args below meth c H locs cells slots Q (F0 m pc ls (.ref (bd_ea E 11 w k) :: rest)) := by
  obtain ⟨q, hq⟩ := bd_pos (f := 11) (w := w) (k := k) ⟨by decide, hw, hk⟩
  exact va_get (D := bd_eD E) (ci := 1) (C := RX1) (T := TX1) (N := 3) C.1.1 C.1.2.1 C.1.2.2.2.2 inlX1 C.1.2.2.2.1 C.2.1 hR.P q (bd_ws_at hq) rfl 2 (by decide) (C.1.2.2.2.2 _ hl) (fun _ h => h) rfl hdg kk
theorem bd_p_X1_sitter (C : bd_Cx E p m c cc nL s args own) (hR : bd_Rep E xm ym om H) (hS : va_S (bd_A E) H0 H locs) (hw : w < 2) (hk : k < 48) (hl : Cond.fieldLink own i "BandDay$Chair" "sitter" "I" ∈ wsL_law) (hdg : decode cc pc = .ok (.putfield i, 3)) {v : Int32} (kk : ∀ (H1 : Heap) (locs1 : List Loc), bd_Rep E (bd_up xm 12 w k v) ym om H1 → va_S (bd_A E) H0 H1 locs1 → W p l e R s m args below meth c H1 locs1 cells slots Q (F0 m (pc + 3) ls rest)) : W p l e R s m args below meth c H locs cells slots Q (F0 m pc ls (.int v :: .ref (bd_ea E 11 w k) :: rest)) := by
  obtain ⟨q, hq⟩ := bd_pos (f := 11) (w := w) (k := k) ⟨by decide, hw, hk⟩
  exact va_put (D := bd_eD E) (ci := 1) (v := .int v) (ty := .int) (C := RX1) (T := TX1) (N := 3) C.1.1 C.1.2.1 C.1.2.2.2.2 inlX1 tyX1 tyX1_ok nmX1 C.1.2.2.2.1 C.2.1 hR.P hR.D hS q (bd_ws_at hq) rfl 2 (by decide) (C.1.2.2.2.2 _ hl) (fun _ h => h) rfl (by decide +kernel) rfl rfl (Nat.le_of_ble_eq_true rfl) hdg (fun H1 locs1 hP _ hS1 => kk H1 locs1 (bd_back hR hq (bd_upX (F := 12) (by simp [bd_ce, bd_up, bd_fam, bd_fmY]) (fun _ => rfl) (fun h => absurd h (by decide))) hP) hS1)
theorem bd_g_X2_season (C : bd_Cx E p m c cc nL s args own) (hR : bd_Rep E xm ym om H) (hw : w < 2) (hl : Cond.fieldLink own i "BandDay$Contest" "season" "LBandDay$Season;" ∈ wsL_law) (hdg : decode cc pc = .ok (.getfield i, 3)) (kk : W p l e R s m args below meth c H locs cells slots Q (F0 m (pc + 3) ls (.ref (bd_ea E 1 w 0) :: rest))) : W p l e R s m args below meth c H locs cells slots Q (F0 m pc ls (.ref (bd_ea E 2 w 0) :: rest)) := by
  obtain ⟨q, hq⟩ := bd_pos (f := 2) (w := w) (k := 0) ⟨by decide, hw, by decide⟩
  exact va_get (D := bd_eD E) (ci := 2) (C := RX2) (T := TX2) (N := 1) C.1.1 C.1.2.1 C.1.2.2.2.2 inlX2 C.1.2.2.2.1 C.2.1 hR.P q (bd_ws_at hq) rfl 0 (by decide) (C.1.2.2.2.2 _ hl) (fun _ h => h) rfl hdg kk
theorem bd_g_X3_skills (C : bd_Cx E p m c cc nL s args own) (hR : bd_Rep E xm ym om H) (hw : w < 2) (hk : k < 24) (hl : Cond.fieldLink own i "BandDay$Player" "skills" "[I" ∈ wsL_law) (hdg : decode cc pc = .ok (.getfield i, 3)) (kk : W p l e R s m args below meth c H locs cells slots Q (F0 m (pc + 3) ls (.ref (bd_ea E 8 w k) :: rest))) : W p l e R s m args below meth c H locs cells slots Q (F0 m pc ls (.ref (bd_ea E 7 w k) :: rest)) := by
  obtain ⟨q, hq⟩ := bd_pos (f := 7) (w := w) (k := k) ⟨by decide, hw, hk⟩
  exact va_get (D := bd_eD E) (ci := 3) (C := RX3) (T := TX3) (N := 9) C.1.1 C.1.2.1 C.1.2.2.2.2 inlX3 C.1.2.2.2.1 C.2.1 hR.P q (bd_ws_at hq) rfl 0 (by decide) (C.1.2.2.2.2 _ hl) (fun _ h => h) rfl hdg kk
theorem bd_g_X3_tired (C : bd_Cx E p m c cc nL s args own) (hR : bd_Rep E xm ym om H) (hw : w < 2) (hk : k < 24) (hl : Cond.fieldLink own i "BandDay$Player" "tired" "I" ∈ wsL_law) (hdg : decode cc pc = .ok (.getfield i, 3)) (kk : W p l e R s m args below meth c H locs cells slots Q (F0 m (pc + 3) ls (.int (xm 0 w k) :: rest))) : W p l e R s m args below meth c H locs cells slots Q (F0 m pc ls (.ref (bd_ea E 7 w k) :: rest)) := by
  obtain ⟨q, hq⟩ := bd_pos (f := 7) (w := w) (k := k) ⟨by decide, hw, hk⟩
  exact va_get (D := bd_eD E) (ci := 3) (C := RX3) (T := TX3) (N := 9) C.1.1 C.1.2.1 C.1.2.2.2.2 inlX3 C.1.2.2.2.1 C.2.1 hR.P q (bd_ws_at hq) rfl 1 (by decide) (C.1.2.2.2.2 _ hl) (fun _ h => h) rfl hdg kk
theorem bd_p_X3_tired (C : bd_Cx E p m c cc nL s args own) (hR : bd_Rep E xm ym om H) (hS : va_S (bd_A E) H0 H locs) (hw : w < 2) (hk : k < 24) (hl : Cond.fieldLink own i "BandDay$Player" "tired" "I" ∈ wsL_law) (hdg : decode cc pc = .ok (.putfield i, 3)) {v : Int32} (kk : ∀ (H1 : Heap) (locs1 : List Loc), bd_Rep E (bd_up xm 0 w k v) ym om H1 → va_S (bd_A E) H0 H1 locs1 → W p l e R s m args below meth c H1 locs1 cells slots Q (F0 m (pc + 3) ls rest)) : W p l e R s m args below meth c H locs cells slots Q (F0 m pc ls (.int v :: .ref (bd_ea E 7 w k) :: rest)) := by
  obtain ⟨q, hq⟩ := bd_pos (f := 7) (w := w) (k := k) ⟨by decide, hw, hk⟩
  exact va_put (D := bd_eD E) (ci := 3) (v := .int v) (ty := .int) (C := RX3) (T := TX3) (N := 9) C.1.1 C.1.2.1 C.1.2.2.2.2 inlX3 tyX3 tyX3_ok nmX3 C.1.2.2.2.1 C.2.1 hR.P hR.D hS q (bd_ws_at hq) rfl 1 (by decide) (C.1.2.2.2.2 _ hl) (fun _ h => h) rfl (by decide +kernel) rfl rfl (Nat.le_of_ble_eq_true rfl) hdg (fun H1 locs1 hP _ hS1 => kk H1 locs1 (bd_back hR hq (bd_upX (F := 0) (by simp [bd_ce, bd_up, bd_fam, bd_fmY]) (fun _ => rfl) (fun h => absurd h (by decide))) hP) hS1)
theorem bd_g_X3_absences (C : bd_Cx E p m c cc nL s args own) (hR : bd_Rep E xm ym om H) (hw : w < 2) (hk : k < 24) (hl : Cond.fieldLink own i "BandDay$Player" "absences" "I" ∈ wsL_law) (hdg : decode cc pc = .ok (.getfield i, 3)) (kk : W p l e R s m args below meth c H locs cells slots Q (F0 m (pc + 3) ls (.int (xm 1 w k) :: rest))) : W p l e R s m args below meth c H locs cells slots Q (F0 m pc ls (.ref (bd_ea E 7 w k) :: rest)) := by
  obtain ⟨q, hq⟩ := bd_pos (f := 7) (w := w) (k := k) ⟨by decide, hw, hk⟩
  exact va_get (D := bd_eD E) (ci := 3) (C := RX3) (T := TX3) (N := 9) C.1.1 C.1.2.1 C.1.2.2.2.2 inlX3 C.1.2.2.2.1 C.2.1 hR.P q (bd_ws_at hq) rfl 2 (by decide) (C.1.2.2.2.2 _ hl) (fun _ h => h) rfl hdg kk
theorem bd_p_X3_absences (C : bd_Cx E p m c cc nL s args own) (hR : bd_Rep E xm ym om H) (hS : va_S (bd_A E) H0 H locs) (hw : w < 2) (hk : k < 24) (hl : Cond.fieldLink own i "BandDay$Player" "absences" "I" ∈ wsL_law) (hdg : decode cc pc = .ok (.putfield i, 3)) {v : Int32} (kk : ∀ (H1 : Heap) (locs1 : List Loc), bd_Rep E (bd_up xm 1 w k v) ym om H1 → va_S (bd_A E) H0 H1 locs1 → W p l e R s m args below meth c H1 locs1 cells slots Q (F0 m (pc + 3) ls rest)) : W p l e R s m args below meth c H locs cells slots Q (F0 m pc ls (.int v :: .ref (bd_ea E 7 w k) :: rest)) := by
  obtain ⟨q, hq⟩ := bd_pos (f := 7) (w := w) (k := k) ⟨by decide, hw, hk⟩
  exact va_put (D := bd_eD E) (ci := 3) (v := .int v) (ty := .int) (C := RX3) (T := TX3) (N := 9) C.1.1 C.1.2.1 C.1.2.2.2.2 inlX3 tyX3 tyX3_ok nmX3 C.1.2.2.2.1 C.2.1 hR.P hR.D hS q (bd_ws_at hq) rfl 2 (by decide) (C.1.2.2.2.2 _ hl) (fun _ h => h) rfl (by decide +kernel) rfl rfl (Nat.le_of_ble_eq_true rfl) hdg (fun H1 locs1 hP _ hS1 => kk H1 locs1 (bd_back hR hq (bd_upX (F := 1) (by simp [bd_ce, bd_up, bd_fam, bd_fmY]) (fun _ => rfl) (fun h => absurd h (by decide))) hP) hS1)
theorem bd_g_X3_band (C : bd_Cx E p m c cc nL s args own) (hR : bd_Rep E xm ym om H) (hw : w < 2) (hk : k < 24) (hl : Cond.fieldLink own i "BandDay$Player" "band" "I" ∈ wsL_law) (hdg : decode cc pc = .ok (.getfield i, 3)) (kk : W p l e R s m args below meth c H locs cells slots Q (F0 m (pc + 3) ls (.int (xm 2 w k) :: rest))) : W p l e R s m args below meth c H locs cells slots Q (F0 m pc ls (.ref (bd_ea E 7 w k) :: rest)) := by
  obtain ⟨q, hq⟩ := bd_pos (f := 7) (w := w) (k := k) ⟨by decide, hw, hk⟩
  exact va_get (D := bd_eD E) (ci := 3) (C := RX3) (T := TX3) (N := 9) C.1.1 C.1.2.1 C.1.2.2.2.2 inlX3 C.1.2.2.2.1 C.2.1 hR.P q (bd_ws_at hq) rfl 3 (by decide) (C.1.2.2.2.2 _ hl) (fun _ h => h) rfl hdg kk
theorem bd_p_X3_band (C : bd_Cx E p m c cc nL s args own) (hR : bd_Rep E xm ym om H) (hS : va_S (bd_A E) H0 H locs) (hw : w < 2) (hk : k < 24) (hl : Cond.fieldLink own i "BandDay$Player" "band" "I" ∈ wsL_law) (hdg : decode cc pc = .ok (.putfield i, 3)) {v : Int32} (kk : ∀ (H1 : Heap) (locs1 : List Loc), bd_Rep E (bd_up xm 2 w k v) ym om H1 → va_S (bd_A E) H0 H1 locs1 → W p l e R s m args below meth c H1 locs1 cells slots Q (F0 m (pc + 3) ls rest)) : W p l e R s m args below meth c H locs cells slots Q (F0 m pc ls (.int v :: .ref (bd_ea E 7 w k) :: rest)) := by
  obtain ⟨q, hq⟩ := bd_pos (f := 7) (w := w) (k := k) ⟨by decide, hw, hk⟩
  exact va_put (D := bd_eD E) (ci := 3) (v := .int v) (ty := .int) (C := RX3) (T := TX3) (N := 9) C.1.1 C.1.2.1 C.1.2.2.2.2 inlX3 tyX3 tyX3_ok nmX3 C.1.2.2.2.1 C.2.1 hR.P hR.D hS q (bd_ws_at hq) rfl 3 (by decide) (C.1.2.2.2.2 _ hl) (fun _ h => h) rfl (by decide +kernel) rfl rfl (Nat.le_of_ble_eq_true rfl) hdg (fun H1 locs1 hP _ hS1 => kk H1 locs1 (bd_back hR hq (bd_upX (F := 2) (by simp [bd_ce, bd_up, bd_fam, bd_fmY]) (fun _ => rfl) (fun h => absurd h (by decide))) hP) hS1)
theorem bd_g_X3_seat (C : bd_Cx E p m c cc nL s args own) (hR : bd_Rep E xm ym om H) (hw : w < 2) (hk : k < 24) (hl : Cond.fieldLink own i "BandDay$Player" "seat" "I" ∈ wsL_law) (hdg : decode cc pc = .ok (.getfield i, 3)) (kk : W p l e R s m args below meth c H locs cells slots Q (F0 m (pc + 3) ls (.int (xm 3 w k) :: rest))) : W p l e R s m args below meth c H locs cells slots Q (F0 m pc ls (.ref (bd_ea E 7 w k) :: rest)) := by
  obtain ⟨q, hq⟩ := bd_pos (f := 7) (w := w) (k := k) ⟨by decide, hw, hk⟩
  exact va_get (D := bd_eD E) (ci := 3) (C := RX3) (T := TX3) (N := 9) C.1.1 C.1.2.1 C.1.2.2.2.2 inlX3 C.1.2.2.2.1 C.2.1 hR.P q (bd_ws_at hq) rfl 4 (by decide) (C.1.2.2.2.2 _ hl) (fun _ h => h) rfl hdg kk
theorem bd_p_X3_seat (C : bd_Cx E p m c cc nL s args own) (hR : bd_Rep E xm ym om H) (hS : va_S (bd_A E) H0 H locs) (hw : w < 2) (hk : k < 24) (hl : Cond.fieldLink own i "BandDay$Player" "seat" "I" ∈ wsL_law) (hdg : decode cc pc = .ok (.putfield i, 3)) {v : Int32} (kk : ∀ (H1 : Heap) (locs1 : List Loc), bd_Rep E (bd_up xm 3 w k v) ym om H1 → va_S (bd_A E) H0 H1 locs1 → W p l e R s m args below meth c H1 locs1 cells slots Q (F0 m (pc + 3) ls rest)) : W p l e R s m args below meth c H locs cells slots Q (F0 m pc ls (.int v :: .ref (bd_ea E 7 w k) :: rest)) := by
  obtain ⟨q, hq⟩ := bd_pos (f := 7) (w := w) (k := k) ⟨by decide, hw, hk⟩
  exact va_put (D := bd_eD E) (ci := 3) (v := .int v) (ty := .int) (C := RX3) (T := TX3) (N := 9) C.1.1 C.1.2.1 C.1.2.2.2.2 inlX3 tyX3 tyX3_ok nmX3 C.1.2.2.2.1 C.2.1 hR.P hR.D hS q (bd_ws_at hq) rfl 4 (by decide) (C.1.2.2.2.2 _ hl) (fun _ h => h) rfl (by decide +kernel) rfl rfl (Nat.le_of_ble_eq_true rfl) hdg (fun H1 locs1 hP _ hS1 => kk H1 locs1 (bd_back hR hq (bd_upX (F := 3) (by simp [bd_ce, bd_up, bd_fam, bd_fmY]) (fun _ => rfl) (fun h => absurd h (by decide))) hP) hS1)
theorem bd_g_X3_sittings (C : bd_Cx E p m c cc nL s args own) (hR : bd_Rep E xm ym om H) (hw : w < 2) (hk : k < 24) (hl : Cond.fieldLink own i "BandDay$Player" "sittings" "I" ∈ wsL_law) (hdg : decode cc pc = .ok (.getfield i, 3)) (kk : W p l e R s m args below meth c H locs cells slots Q (F0 m (pc + 3) ls (.int (xm 4 w k) :: rest))) : W p l e R s m args below meth c H locs cells slots Q (F0 m pc ls (.ref (bd_ea E 7 w k) :: rest)) := by
  obtain ⟨q, hq⟩ := bd_pos (f := 7) (w := w) (k := k) ⟨by decide, hw, hk⟩
  exact va_get (D := bd_eD E) (ci := 3) (C := RX3) (T := TX3) (N := 9) C.1.1 C.1.2.1 C.1.2.2.2.2 inlX3 C.1.2.2.2.1 C.2.1 hR.P q (bd_ws_at hq) rfl 5 (by decide) (C.1.2.2.2.2 _ hl) (fun _ h => h) rfl hdg kk
theorem bd_p_X3_sittings (C : bd_Cx E p m c cc nL s args own) (hR : bd_Rep E xm ym om H) (hS : va_S (bd_A E) H0 H locs) (hw : w < 2) (hk : k < 24) (hl : Cond.fieldLink own i "BandDay$Player" "sittings" "I" ∈ wsL_law) (hdg : decode cc pc = .ok (.putfield i, 3)) {v : Int32} (kk : ∀ (H1 : Heap) (locs1 : List Loc), bd_Rep E (bd_up xm 4 w k v) ym om H1 → va_S (bd_A E) H0 H1 locs1 → W p l e R s m args below meth c H1 locs1 cells slots Q (F0 m (pc + 3) ls rest)) : W p l e R s m args below meth c H locs cells slots Q (F0 m pc ls (.int v :: .ref (bd_ea E 7 w k) :: rest)) := by
  obtain ⟨q, hq⟩ := bd_pos (f := 7) (w := w) (k := k) ⟨by decide, hw, hk⟩
  exact va_put (D := bd_eD E) (ci := 3) (v := .int v) (ty := .int) (C := RX3) (T := TX3) (N := 9) C.1.1 C.1.2.1 C.1.2.2.2.2 inlX3 tyX3 tyX3_ok nmX3 C.1.2.2.2.1 C.2.1 hR.P hR.D hS q (bd_ws_at hq) rfl 5 (by decide) (C.1.2.2.2.2 _ hl) (fun _ h => h) rfl (by decide +kernel) rfl rfl (Nat.le_of_ble_eq_true rfl) hdg (fun H1 locs1 hP _ hS1 => kk H1 locs1 (bd_back hR hq (bd_upX (F := 4) (by simp [bd_ce, bd_up, bd_fam, bd_fmY]) (fun _ => rfl) (fun h => absurd h (by decide))) hP) hS1)
theorem bd_g_X3_deputySittings (C : bd_Cx E p m c cc nL s args own) (hR : bd_Rep E xm ym om H) (hw : w < 2) (hk : k < 24) (hl : Cond.fieldLink own i "BandDay$Player" "deputySittings" "I" ∈ wsL_law) (hdg : decode cc pc = .ok (.getfield i, 3)) (kk : W p l e R s m args below meth c H locs cells slots Q (F0 m (pc + 3) ls (.int (xm 5 w k) :: rest))) : W p l e R s m args below meth c H locs cells slots Q (F0 m pc ls (.ref (bd_ea E 7 w k) :: rest)) := by
  obtain ⟨q, hq⟩ := bd_pos (f := 7) (w := w) (k := k) ⟨by decide, hw, hk⟩
  exact va_get (D := bd_eD E) (ci := 3) (C := RX3) (T := TX3) (N := 9) C.1.1 C.1.2.1 C.1.2.2.2.2 inlX3 C.1.2.2.2.1 C.2.1 hR.P q (bd_ws_at hq) rfl 6 (by decide) (C.1.2.2.2.2 _ hl) (fun _ h => h) rfl hdg kk
theorem bd_p_X3_deputySittings (C : bd_Cx E p m c cc nL s args own) (hR : bd_Rep E xm ym om H) (hS : va_S (bd_A E) H0 H locs) (hw : w < 2) (hk : k < 24) (hl : Cond.fieldLink own i "BandDay$Player" "deputySittings" "I" ∈ wsL_law) (hdg : decode cc pc = .ok (.putfield i, 3)) {v : Int32} (kk : ∀ (H1 : Heap) (locs1 : List Loc), bd_Rep E (bd_up xm 5 w k v) ym om H1 → va_S (bd_A E) H0 H1 locs1 → W p l e R s m args below meth c H1 locs1 cells slots Q (F0 m (pc + 3) ls rest)) : W p l e R s m args below meth c H locs cells slots Q (F0 m pc ls (.int v :: .ref (bd_ea E 7 w k) :: rest)) := by
  obtain ⟨q, hq⟩ := bd_pos (f := 7) (w := w) (k := k) ⟨by decide, hw, hk⟩
  exact va_put (D := bd_eD E) (ci := 3) (v := .int v) (ty := .int) (C := RX3) (T := TX3) (N := 9) C.1.1 C.1.2.1 C.1.2.2.2.2 inlX3 tyX3 tyX3_ok nmX3 C.1.2.2.2.1 C.2.1 hR.P hR.D hS q (bd_ws_at hq) rfl 6 (by decide) (C.1.2.2.2.2 _ hl) (fun _ h => h) rfl (by decide +kernel) rfl rfl (Nat.le_of_ble_eq_true rfl) hdg (fun H1 locs1 hP _ hS1 => kk H1 locs1 (bd_back hR hq (bd_upX (F := 5) (by simp [bd_ce, bd_up, bd_fam, bd_fmY]) (fun _ => rfl) (fun h => absurd h (by decide))) hP) hS1)
theorem bd_g_X3_deputyToday (C : bd_Cx E p m c cc nL s args own) (hR : bd_Rep E xm ym om H) (hw : w < 2) (hk : k < 24) (hl : Cond.fieldLink own i "BandDay$Player" "deputyToday" "I" ∈ wsL_law) (hdg : decode cc pc = .ok (.getfield i, 3)) (kk : W p l e R s m args below meth c H locs cells slots Q (F0 m (pc + 3) ls (.int (xm 6 w k) :: rest))) : W p l e R s m args below meth c H locs cells slots Q (F0 m pc ls (.ref (bd_ea E 7 w k) :: rest)) := by
  obtain ⟨q, hq⟩ := bd_pos (f := 7) (w := w) (k := k) ⟨by decide, hw, hk⟩
  exact va_get (D := bd_eD E) (ci := 3) (C := RX3) (T := TX3) (N := 9) C.1.1 C.1.2.1 C.1.2.2.2.2 inlX3 C.1.2.2.2.1 C.2.1 hR.P q (bd_ws_at hq) rfl 7 (by decide) (C.1.2.2.2.2 _ hl) (fun _ h => h) rfl hdg kk
theorem bd_p_X3_deputyToday (C : bd_Cx E p m c cc nL s args own) (hR : bd_Rep E xm ym om H) (hS : va_S (bd_A E) H0 H locs) (hw : w < 2) (hk : k < 24) (hl : Cond.fieldLink own i "BandDay$Player" "deputyToday" "I" ∈ wsL_law) (hdg : decode cc pc = .ok (.putfield i, 3)) {v : Int32} (kk : ∀ (H1 : Heap) (locs1 : List Loc), bd_Rep E (bd_up xm 6 w k v) ym om H1 → va_S (bd_A E) H0 H1 locs1 → W p l e R s m args below meth c H1 locs1 cells slots Q (F0 m (pc + 3) ls rest)) : W p l e R s m args below meth c H locs cells slots Q (F0 m pc ls (.int v :: .ref (bd_ea E 7 w k) :: rest)) := by
  obtain ⟨q, hq⟩ := bd_pos (f := 7) (w := w) (k := k) ⟨by decide, hw, hk⟩
  exact va_put (D := bd_eD E) (ci := 3) (v := .int v) (ty := .int) (C := RX3) (T := TX3) (N := 9) C.1.1 C.1.2.1 C.1.2.2.2.2 inlX3 tyX3 tyX3_ok nmX3 C.1.2.2.2.1 C.2.1 hR.P hR.D hS q (bd_ws_at hq) rfl 7 (by decide) (C.1.2.2.2.2 _ hl) (fun _ h => h) rfl (by decide +kernel) rfl rfl (Nat.le_of_ble_eq_true rfl) hdg (fun H1 locs1 hP _ hS1 => kk H1 locs1 (bd_back hR hq (bd_upX (F := 6) (by simp [bd_ce, bd_up, bd_fam, bd_fmY]) (fun _ => rfl) (fun h => absurd h (by decide))) hP) hS1)
theorem bd_g_X3_sits (C : bd_Cx E p m c cc nL s args own) (hR : bd_Rep E xm ym om H) (hw : w < 2) (hk : k < 24) (hl : Cond.fieldLink own i "BandDay$Player" "sits" "Z" ∈ wsL_law) (hdg : decode cc pc = .ok (.getfield i, 3)) (kk : W p l e R s m args below meth c H locs cells slots Q (F0 m (pc + 3) ls (.int (xm 7 w k) :: rest))) : W p l e R s m args below meth c H locs cells slots Q (F0 m pc ls (.ref (bd_ea E 7 w k) :: rest)) := by
  obtain ⟨q, hq⟩ := bd_pos (f := 7) (w := w) (k := k) ⟨by decide, hw, hk⟩
  exact va_get (D := bd_eD E) (ci := 3) (C := RX3) (T := TX3) (N := 9) C.1.1 C.1.2.1 C.1.2.2.2.2 inlX3 C.1.2.2.2.1 C.2.1 hR.P q (bd_ws_at hq) rfl 8 (by decide) (C.1.2.2.2.2 _ hl) (fun _ h => h) rfl hdg kk
theorem bd_p_X3_sits (C : bd_Cx E p m c cc nL s args own) (hR : bd_Rep E xm ym om H) (hS : va_S (bd_A E) H0 H locs) (hw : w < 2) (hk : k < 24) (hl : Cond.fieldLink own i "BandDay$Player" "sits" "Z" ∈ wsL_law) (hdg : decode cc pc = .ok (.putfield i, 3)) {v : Int32} (hv : narrow .boolean (.int v) = .int v) (hf : fits .boolean (.int v) = true) (kk : ∀ (H1 : Heap) (locs1 : List Loc), bd_Rep E (bd_up xm 7 w k v) ym om H1 → va_S (bd_A E) H0 H1 locs1 → W p l e R s m args below meth c H1 locs1 cells slots Q (F0 m (pc + 3) ls rest)) : W p l e R s m args below meth c H locs cells slots Q (F0 m pc ls (.int v :: .ref (bd_ea E 7 w k) :: rest)) := by
  obtain ⟨q, hq⟩ := bd_pos (f := 7) (w := w) (k := k) ⟨by decide, hw, hk⟩
  exact va_put (D := bd_eD E) (ci := 3) (v := .int v) (ty := .boolean) (C := RX3) (T := TX3) (N := 9) C.1.1 C.1.2.1 C.1.2.2.2.2 inlX3 tyX3 tyX3_ok nmX3 C.1.2.2.2.1 C.2.1 hR.P hR.D hS q (bd_ws_at hq) rfl 8 (by decide) (C.1.2.2.2.2 _ hl) (fun _ h => h) rfl (by decide +kernel) hv hf (Nat.le_of_ble_eq_true rfl) hdg (fun H1 locs1 hP _ hS1 => kk H1 locs1 (bd_back hR hq (bd_upX (F := 7) (by simp [bd_ce, bd_up, bd_fam, bd_fmY]) (fun _ => rfl) (fun h => absurd h (by decide))) hP) hS1)
theorem bd_g_X4_players (C : bd_Cx E p m c cc nL s args own) (hR : bd_Rep E xm ym om H) (hw : w < 2) (hl : Cond.fieldLink own i "BandDay$Season" "players" "[LBandDay$Player;" ∈ wsL_law) (hdg : decode cc pc = .ok (.getfield i, 3)) (kk : W p l e R s m args below meth c H locs cells slots Q (F0 m (pc + 3) ls (.ref (bd_ea E 3 w 0) :: rest))) : W p l e R s m args below meth c H locs cells slots Q (F0 m pc ls (.ref (bd_ea E 1 w 0) :: rest)) := by
  obtain ⟨q, hq⟩ := bd_pos (f := 1) (w := w) (k := 0) ⟨by decide, hw, by decide⟩
  exact va_get (D := bd_eD E) (ci := 4) (C := RX4) (T := TX4) (N := 9) C.1.1 C.1.2.1 C.1.2.2.2.2 inlX4 C.1.2.2.2.1 C.2.1 hR.P q (bd_ws_at hq) rfl 0 (by decide) (C.1.2.2.2.2 _ hl) (fun _ h => h) rfl hdg kk
theorem bd_g_X4_bands (C : bd_Cx E p m c cc nL s args own) (hR : bd_Rep E xm ym om H) (hw : w < 2) (hl : Cond.fieldLink own i "BandDay$Season" "bands" "[LBandDay$Band;" ∈ wsL_law) (hdg : decode cc pc = .ok (.getfield i, 3)) (kk : W p l e R s m args below meth c H locs cells slots Q (F0 m (pc + 3) ls (.ref (bd_ea E 4 w 0) :: rest))) : W p l e R s m args below meth c H locs cells slots Q (F0 m pc ls (.ref (bd_ea E 1 w 0) :: rest)) := by
  obtain ⟨q, hq⟩ := bd_pos (f := 1) (w := w) (k := 0) ⟨by decide, hw, by decide⟩
  exact va_get (D := bd_eD E) (ci := 4) (C := RX4) (T := TX4) (N := 9) C.1.1 C.1.2.1 C.1.2.2.2.2 inlX4 C.1.2.2.2.1 C.2.1 hR.P q (bd_ws_at hq) rfl 1 (by decide) (C.1.2.2.2.2 _ hl) (fun _ h => h) rfl hdg kk
theorem bd_g_X4_hard (C : bd_Cx E p m c cc nL s args own) (hR : bd_Rep E xm ym om H) (hw : w < 2) (hl : Cond.fieldLink own i "BandDay$Season" "hard" "[I" ∈ wsL_law) (hdg : decode cc pc = .ok (.getfield i, 3)) (kk : W p l e R s m args below meth c H locs cells slots Q (F0 m (pc + 3) ls (.ref (bd_ea E 5 w 0) :: rest))) : W p l e R s m args below meth c H locs cells slots Q (F0 m pc ls (.ref (bd_ea E 1 w 0) :: rest)) := by
  obtain ⟨q, hq⟩ := bd_pos (f := 1) (w := w) (k := 0) ⟨by decide, hw, by decide⟩
  exact va_get (D := bd_eD E) (ci := 4) (C := RX4) (T := TX4) (N := 9) C.1.1 C.1.2.1 C.1.2.2.2.2 inlX4 C.1.2.2.2.1 C.2.1 hR.P q (bd_ws_at hq) rfl 2 (by decide) (C.1.2.2.2.2 _ hl) (fun _ h => h) rfl hdg kk
theorem bd_g_X4_weight (C : bd_Cx E p m c cc nL s args own) (hR : bd_Rep E xm ym om H) (hw : w < 2) (hl : Cond.fieldLink own i "BandDay$Season" "weight" "[I" ∈ wsL_law) (hdg : decode cc pc = .ok (.getfield i, 3)) (kk : W p l e R s m args below meth c H locs cells slots Q (F0 m (pc + 3) ls (.ref (bd_ea E 6 w 0) :: rest))) : W p l e R s m args below meth c H locs cells slots Q (F0 m pc ls (.ref (bd_ea E 1 w 0) :: rest)) := by
  obtain ⟨q, hq⟩ := bd_pos (f := 1) (w := w) (k := 0) ⟨by decide, hw, by decide⟩
  exact va_get (D := bd_eD E) (ci := 4) (C := RX4) (T := TX4) (N := 9) C.1.1 C.1.2.1 C.1.2.2.2.2 inlX4 C.1.2.2.2.1 C.2.1 hR.P q (bd_ws_at hq) rfl 3 (by decide) (C.1.2.2.2.2 _ hl) (fun _ h => h) rfl hdg kk
theorem bd_g_X4_playerCount (C : bd_Cx E p m c cc nL s args own) (hR : bd_Rep E xm ym om H) (hw : w < 2) (hl : Cond.fieldLink own i "BandDay$Season" "playerCount" "I" ∈ wsL_law) (hdg : decode cc pc = .ok (.getfield i, 3)) (kk : W p l e R s m args below meth c H locs cells slots Q (F0 m (pc + 3) ls (.int (xm 30 w 0) :: rest))) : W p l e R s m args below meth c H locs cells slots Q (F0 m pc ls (.ref (bd_ea E 1 w 0) :: rest)) := by
  obtain ⟨q, hq⟩ := bd_pos (f := 1) (w := w) (k := 0) ⟨by decide, hw, by decide⟩
  exact va_get (D := bd_eD E) (ci := 4) (C := RX4) (T := TX4) (N := 9) C.1.1 C.1.2.1 C.1.2.2.2.2 inlX4 C.1.2.2.2.1 C.2.1 hR.P q (bd_ws_at hq) rfl 4 (by decide) (C.1.2.2.2.2 _ hl) (fun _ h => h) rfl hdg kk
theorem bd_p_X4_playerCount (C : bd_Cx E p m c cc nL s args own) (hR : bd_Rep E xm ym om H) (hS : va_S (bd_A E) H0 H locs) (hw : w < 2) (hl : Cond.fieldLink own i "BandDay$Season" "playerCount" "I" ∈ wsL_law) (hdg : decode cc pc = .ok (.putfield i, 3)) {v : Int32} (kk : ∀ (H1 : Heap) (locs1 : List Loc), bd_Rep E (bd_up xm 30 w 0 v) ym om H1 → va_S (bd_A E) H0 H1 locs1 → W p l e R s m args below meth c H1 locs1 cells slots Q (F0 m (pc + 3) ls rest)) : W p l e R s m args below meth c H locs cells slots Q (F0 m pc ls (.int v :: .ref (bd_ea E 1 w 0) :: rest)) := by
  obtain ⟨q, hq⟩ := bd_pos (f := 1) (w := w) (k := 0) ⟨by decide, hw, by decide⟩
  exact va_put (D := bd_eD E) (ci := 4) (v := .int v) (ty := .int) (C := RX4) (T := TX4) (N := 9) C.1.1 C.1.2.1 C.1.2.2.2.2 inlX4 tyX4 tyX4_ok nmX4 C.1.2.2.2.1 C.2.1 hR.P hR.D hS q (bd_ws_at hq) rfl 4 (by decide) (C.1.2.2.2.2 _ hl) (fun _ h => h) rfl (by decide +kernel) rfl rfl (Nat.le_of_ble_eq_true rfl) hdg (fun H1 locs1 hP _ hS1 => kk H1 locs1 (bd_back hR hq (bd_upX (F := 30) (by simp [bd_ce, bd_up, bd_fam, bd_fmY]) (fun _ => rfl) (fun h => ⟨rfl, rfl⟩)) hP) hS1)
theorem bd_g_X4_bandCount (C : bd_Cx E p m c cc nL s args own) (hR : bd_Rep E xm ym om H) (hw : w < 2) (hl : Cond.fieldLink own i "BandDay$Season" "bandCount" "I" ∈ wsL_law) (hdg : decode cc pc = .ok (.getfield i, 3)) (kk : W p l e R s m args below meth c H locs cells slots Q (F0 m (pc + 3) ls (.int (xm 31 w 0) :: rest))) : W p l e R s m args below meth c H locs cells slots Q (F0 m pc ls (.ref (bd_ea E 1 w 0) :: rest)) := by
  obtain ⟨q, hq⟩ := bd_pos (f := 1) (w := w) (k := 0) ⟨by decide, hw, by decide⟩
  exact va_get (D := bd_eD E) (ci := 4) (C := RX4) (T := TX4) (N := 9) C.1.1 C.1.2.1 C.1.2.2.2.2 inlX4 C.1.2.2.2.1 C.2.1 hR.P q (bd_ws_at hq) rfl 5 (by decide) (C.1.2.2.2.2 _ hl) (fun _ h => h) rfl hdg kk
theorem bd_p_X4_bandCount (C : bd_Cx E p m c cc nL s args own) (hR : bd_Rep E xm ym om H) (hS : va_S (bd_A E) H0 H locs) (hw : w < 2) (hl : Cond.fieldLink own i "BandDay$Season" "bandCount" "I" ∈ wsL_law) (hdg : decode cc pc = .ok (.putfield i, 3)) {v : Int32} (kk : ∀ (H1 : Heap) (locs1 : List Loc), bd_Rep E (bd_up xm 31 w 0 v) ym om H1 → va_S (bd_A E) H0 H1 locs1 → W p l e R s m args below meth c H1 locs1 cells slots Q (F0 m (pc + 3) ls rest)) : W p l e R s m args below meth c H locs cells slots Q (F0 m pc ls (.int v :: .ref (bd_ea E 1 w 0) :: rest)) := by
  obtain ⟨q, hq⟩ := bd_pos (f := 1) (w := w) (k := 0) ⟨by decide, hw, by decide⟩
  exact va_put (D := bd_eD E) (ci := 4) (v := .int v) (ty := .int) (C := RX4) (T := TX4) (N := 9) C.1.1 C.1.2.1 C.1.2.2.2.2 inlX4 tyX4 tyX4_ok nmX4 C.1.2.2.2.1 C.2.1 hR.P hR.D hS q (bd_ws_at hq) rfl 5 (by decide) (C.1.2.2.2.2 _ hl) (fun _ h => h) rfl (by decide +kernel) rfl rfl (Nat.le_of_ble_eq_true rfl) hdg (fun H1 locs1 hP _ hS1 => kk H1 locs1 (bd_back hR hq (bd_upX (F := 31) (by simp [bd_ce, bd_up, bd_fam, bd_fmY]) (fun _ => rfl) (fun h => ⟨rfl, rfl⟩)) hP) hS1)
theorem bd_g_X4_contests (C : bd_Cx E p m c cc nL s args own) (hR : bd_Rep E xm ym om H) (hw : w < 2) (hl : Cond.fieldLink own i "BandDay$Season" "contests" "I" ∈ wsL_law) (hdg : decode cc pc = .ok (.getfield i, 3)) (kk : W p l e R s m args below meth c H locs cells slots Q (F0 m (pc + 3) ls (.int (xm 32 w 0) :: rest))) : W p l e R s m args below meth c H locs cells slots Q (F0 m pc ls (.ref (bd_ea E 1 w 0) :: rest)) := by
  obtain ⟨q, hq⟩ := bd_pos (f := 1) (w := w) (k := 0) ⟨by decide, hw, by decide⟩
  exact va_get (D := bd_eD E) (ci := 4) (C := RX4) (T := TX4) (N := 9) C.1.1 C.1.2.1 C.1.2.2.2.2 inlX4 C.1.2.2.2.1 C.2.1 hR.P q (bd_ws_at hq) rfl 6 (by decide) (C.1.2.2.2.2 _ hl) (fun _ h => h) rfl hdg kk
theorem bd_p_X4_contests (C : bd_Cx E p m c cc nL s args own) (hR : bd_Rep E xm ym om H) (hS : va_S (bd_A E) H0 H locs) (hw : w < 2) (hl : Cond.fieldLink own i "BandDay$Season" "contests" "I" ∈ wsL_law) (hdg : decode cc pc = .ok (.putfield i, 3)) {v : Int32} (kk : ∀ (H1 : Heap) (locs1 : List Loc), bd_Rep E (bd_up xm 32 w 0 v) ym om H1 → va_S (bd_A E) H0 H1 locs1 → W p l e R s m args below meth c H1 locs1 cells slots Q (F0 m (pc + 3) ls rest)) : W p l e R s m args below meth c H locs cells slots Q (F0 m pc ls (.int v :: .ref (bd_ea E 1 w 0) :: rest)) := by
  obtain ⟨q, hq⟩ := bd_pos (f := 1) (w := w) (k := 0) ⟨by decide, hw, by decide⟩
  exact va_put (D := bd_eD E) (ci := 4) (v := .int v) (ty := .int) (C := RX4) (T := TX4) (N := 9) C.1.1 C.1.2.1 C.1.2.2.2.2 inlX4 tyX4 tyX4_ok nmX4 C.1.2.2.2.1 C.2.1 hR.P hR.D hS q (bd_ws_at hq) rfl 6 (by decide) (C.1.2.2.2.2 _ hl) (fun _ h => h) rfl (by decide +kernel) rfl rfl (Nat.le_of_ble_eq_true rfl) hdg (fun H1 locs1 hP _ hS1 => kk H1 locs1 (bd_back hR hq (bd_upX (F := 32) (by simp [bd_ce, bd_up, bd_fam, bd_fmY]) (fun _ => rfl) (fun h => ⟨rfl, rfl⟩)) hP) hS1)
theorem bd_g_X4_deputies (C : bd_Cx E p m c cc nL s args own) (hR : bd_Rep E xm ym om H) (hw : w < 2) (hl : Cond.fieldLink own i "BandDay$Season" "deputies" "I" ∈ wsL_law) (hdg : decode cc pc = .ok (.getfield i, 3)) (kk : W p l e R s m args below meth c H locs cells slots Q (F0 m (pc + 3) ls (.int (xm 33 w 0) :: rest))) : W p l e R s m args below meth c H locs cells slots Q (F0 m pc ls (.ref (bd_ea E 1 w 0) :: rest)) := by
  obtain ⟨q, hq⟩ := bd_pos (f := 1) (w := w) (k := 0) ⟨by decide, hw, by decide⟩
  exact va_get (D := bd_eD E) (ci := 4) (C := RX4) (T := TX4) (N := 9) C.1.1 C.1.2.1 C.1.2.2.2.2 inlX4 C.1.2.2.2.1 C.2.1 hR.P q (bd_ws_at hq) rfl 7 (by decide) (C.1.2.2.2.2 _ hl) (fun _ h => h) rfl hdg kk
theorem bd_p_X4_deputies (C : bd_Cx E p m c cc nL s args own) (hR : bd_Rep E xm ym om H) (hS : va_S (bd_A E) H0 H locs) (hw : w < 2) (hl : Cond.fieldLink own i "BandDay$Season" "deputies" "I" ∈ wsL_law) (hdg : decode cc pc = .ok (.putfield i, 3)) {v : Int32} (kk : ∀ (H1 : Heap) (locs1 : List Loc), bd_Rep E (bd_up xm 33 w 0 v) ym om H1 → va_S (bd_A E) H0 H1 locs1 → W p l e R s m args below meth c H1 locs1 cells slots Q (F0 m (pc + 3) ls rest)) : W p l e R s m args below meth c H locs cells slots Q (F0 m pc ls (.int v :: .ref (bd_ea E 1 w 0) :: rest)) := by
  obtain ⟨q, hq⟩ := bd_pos (f := 1) (w := w) (k := 0) ⟨by decide, hw, by decide⟩
  exact va_put (D := bd_eD E) (ci := 4) (v := .int v) (ty := .int) (C := RX4) (T := TX4) (N := 9) C.1.1 C.1.2.1 C.1.2.2.2.2 inlX4 tyX4 tyX4_ok nmX4 C.1.2.2.2.1 C.2.1 hR.P hR.D hS q (bd_ws_at hq) rfl 7 (by decide) (C.1.2.2.2.2 _ hl) (fun _ h => h) rfl (by decide +kernel) rfl rfl (Nat.le_of_ble_eq_true rfl) hdg (fun H1 locs1 hP _ hS1 => kk H1 locs1 (bd_back hR hq (bd_upX (F := 33) (by simp [bd_ce, bd_up, bd_fam, bd_fmY]) (fun _ => rfl) (fun h => ⟨rfl, rfl⟩)) hP) hS1)
theorem bd_g_X4_empties (C : bd_Cx E p m c cc nL s args own) (hR : bd_Rep E xm ym om H) (hw : w < 2) (hl : Cond.fieldLink own i "BandDay$Season" "empties" "I" ∈ wsL_law) (hdg : decode cc pc = .ok (.getfield i, 3)) (kk : W p l e R s m args below meth c H locs cells slots Q (F0 m (pc + 3) ls (.int (xm 34 w 0) :: rest))) : W p l e R s m args below meth c H locs cells slots Q (F0 m pc ls (.ref (bd_ea E 1 w 0) :: rest)) := by
  obtain ⟨q, hq⟩ := bd_pos (f := 1) (w := w) (k := 0) ⟨by decide, hw, by decide⟩
  exact va_get (D := bd_eD E) (ci := 4) (C := RX4) (T := TX4) (N := 9) C.1.1 C.1.2.1 C.1.2.2.2.2 inlX4 C.1.2.2.2.1 C.2.1 hR.P q (bd_ws_at hq) rfl 8 (by decide) (C.1.2.2.2.2 _ hl) (fun _ h => h) rfl hdg kk
theorem bd_p_X4_empties (C : bd_Cx E p m c cc nL s args own) (hR : bd_Rep E xm ym om H) (hS : va_S (bd_A E) H0 H locs) (hw : w < 2) (hl : Cond.fieldLink own i "BandDay$Season" "empties" "I" ∈ wsL_law) (hdg : decode cc pc = .ok (.putfield i, 3)) {v : Int32} (kk : ∀ (H1 : Heap) (locs1 : List Loc), bd_Rep E (bd_up xm 34 w 0 v) ym om H1 → va_S (bd_A E) H0 H1 locs1 → W p l e R s m args below meth c H1 locs1 cells slots Q (F0 m (pc + 3) ls rest)) : W p l e R s m args below meth c H locs cells slots Q (F0 m pc ls (.int v :: .ref (bd_ea E 1 w 0) :: rest)) := by
  obtain ⟨q, hq⟩ := bd_pos (f := 1) (w := w) (k := 0) ⟨by decide, hw, by decide⟩
  exact va_put (D := bd_eD E) (ci := 4) (v := .int v) (ty := .int) (C := RX4) (T := TX4) (N := 9) C.1.1 C.1.2.1 C.1.2.2.2.2 inlX4 tyX4 tyX4_ok nmX4 C.1.2.2.2.1 C.2.1 hR.P hR.D hS q (bd_ws_at hq) rfl 8 (by decide) (C.1.2.2.2.2 _ hl) (fun _ h => h) rfl (by decide +kernel) rfl rfl (Nat.le_of_ble_eq_true rfl) hdg (fun H1 locs1 hP _ hS1 => kk H1 locs1 (bd_back hR hq (bd_upX (F := 34) (by simp [bd_ce, bd_up, bd_fam, bd_fmY]) (fun _ => rfl) (fun h => ⟨rfl, rfl⟩)) hP) hS1)
theorem bd_g_X5_season (C : bd_Cx E p m c cc nL s args own) (hR : bd_Rep E xm ym om H) (hl : Cond.fieldLink own i "BandDay" "season" "LBandDay$Season;" ∈ wsL_law) (hdg : decode cc pc = .ok (.getfield i, 3)) (kk : W p l e R s m args below meth c H locs cells slots Q (F0 m (pc + 3) ls (.ref (bd_ea E 1 0 0) :: rest))) : W p l e R s m args below meth c H locs cells slots Q (F0 m pc ls (.ref (bd_ea E 0 0 0) :: rest)) := by
  obtain ⟨q, hq⟩ := bd_pos (f := 0) (w := 0) (k := 0) ⟨by decide, by decide, by decide⟩
  exact va_get (D := bd_eD E) (ci := 5) (C := RX5) (T := TX5) (N := 4) C.1.1 C.1.2.1 C.1.2.2.2.2 inlX5 C.1.2.2.2.1 C.2.1 hR.P q (bd_ws_at hq) rfl 0 (by decide) (C.1.2.2.2.2 _ hl) (fun _ h => h) rfl hdg kk
theorem bd_g_X5_contest (C : bd_Cx E p m c cc nL s args own) (hR : bd_Rep E xm ym om H) (hl : Cond.fieldLink own i "BandDay" "contest" "LBandDay$Contest;" ∈ wsL_law) (hdg : decode cc pc = .ok (.getfield i, 3)) (kk : W p l e R s m args below meth c H locs cells slots Q (F0 m (pc + 3) ls (.ref (bd_ea E 2 0 0) :: rest))) : W p l e R s m args below meth c H locs cells slots Q (F0 m pc ls (.ref (bd_ea E 0 0 0) :: rest)) := by
  obtain ⟨q, hq⟩ := bd_pos (f := 0) (w := 0) (k := 0) ⟨by decide, by decide, by decide⟩
  exact va_get (D := bd_eD E) (ci := 5) (C := RX5) (T := TX5) (N := 4) C.1.1 C.1.2.1 C.1.2.2.2.2 inlX5 C.1.2.2.2.1 C.2.1 hR.P q (bd_ws_at hq) rfl 1 (by decide) (C.1.2.2.2.2 _ hl) (fun _ h => h) rfl hdg kk
theorem bd_g_X5_trial (C : bd_Cx E p m c cc nL s args own) (hR : bd_Rep E xm ym om H) (hl : Cond.fieldLink own i "BandDay" "trial" "LBandDay$Season;" ∈ wsL_law) (hdg : decode cc pc = .ok (.getfield i, 3)) (kk : W p l e R s m args below meth c H locs cells slots Q (F0 m (pc + 3) ls (.ref (bd_ea E 1 1 0) :: rest))) : W p l e R s m args below meth c H locs cells slots Q (F0 m pc ls (.ref (bd_ea E 0 0 0) :: rest)) := by
  obtain ⟨q, hq⟩ := bd_pos (f := 0) (w := 0) (k := 0) ⟨by decide, by decide, by decide⟩
  exact va_get (D := bd_eD E) (ci := 5) (C := RX5) (T := TX5) (N := 4) C.1.1 C.1.2.1 C.1.2.2.2.2 inlX5 C.1.2.2.2.1 C.2.1 hR.P q (bd_ws_at hq) rfl 2 (by decide) (C.1.2.2.2.2 _ hl) (fun _ h => h) rfl hdg kk
theorem bd_g_X5_trialContest (C : bd_Cx E p m c cc nL s args own) (hR : bd_Rep E xm ym om H) (hl : Cond.fieldLink own i "BandDay" "trialContest" "LBandDay$Contest;" ∈ wsL_law) (hdg : decode cc pc = .ok (.getfield i, 3)) (kk : W p l e R s m args below meth c H locs cells slots Q (F0 m (pc + 3) ls (.ref (bd_ea E 2 1 0) :: rest))) : W p l e R s m args below meth c H locs cells slots Q (F0 m pc ls (.ref (bd_ea E 0 0 0) :: rest)) := by
  obtain ⟨q, hq⟩ := bd_pos (f := 0) (w := 0) (k := 0) ⟨by decide, by decide, by decide⟩
  exact va_get (D := bd_eD E) (ci := 5) (C := RX5) (T := TX5) (N := 4) C.1.1 C.1.2.1 C.1.2.2.2.2 inlX5 C.1.2.2.2.1 C.2.1 hR.P q (bd_ws_at hq) rfl 3 (by decide) (C.1.2.2.2.2 _ hl) (fun _ h => h) rfl hdg kk
theorem bd_g_X6_contests (C : bd_Cx E p m c cc nL s args own) (hR : bd_Rep E xm ym om H) (hw : w < 2) (hl : Cond.fieldLink own i "BandDayModel$State" "contests" "I" ∈ wsL_law) (hdg : decode cc pc = .ok (.getfield i, 3)) (kk : W p l e R s m args below meth c H locs cells slots Q (F0 m (pc + 3) ls (.int (ym 10 w 0) :: rest))) : W p l e R s m args below meth c H locs cells slots Q (F0 m pc ls (.ref (bd_ea E 18 w 0) :: rest)) := by
  obtain ⟨q, hq⟩ := bd_pos (f := 18) (w := w) (k := 0) ⟨by decide, hw, by decide⟩
  exact va_get (D := bd_eD E) (ci := 6) (C := RX6) (T := TX6) (N := 15) C.1.1 C.1.2.1 C.1.2.2.2.2 inlX6 C.1.2.2.2.1 C.2.1 hR.P q (bd_ws_at hq) rfl 0 (by decide) (C.1.2.2.2.2 _ hl) (fun _ h => h) rfl hdg kk
theorem bd_gN_X6_contests (C : bd_Cx E p m c cc nL s args own) (hR : bd_Rep E xm ym om H) (hw : w < 2) (hl : Cond.fieldLinkNest own i "BandDayModel$State" "contests" "I" "BandDayModel" ∈ bd_N) (hdg : decode cc pc = .ok (.getfield i, 3)) (kk : W p l e R s m args below meth c H locs cells slots Q (F0 m (pc + 3) ls (.int (ym 10 w 0) :: rest))) : W p l e R s m args below meth c H locs cells slots Q (F0 m pc ls (.ref (bd_ea E 18 w 0) :: rest)) := by
  obtain ⟨q, hq⟩ := bd_pos (f := 18) (w := w) (k := 0) ⟨by decide, hw, by decide⟩
  exact va_getN (D := bd_eD E) (ci := 6) (C := RX6) (T := TX6) (N := 15) C.1.1 C.1.2.1 C.1.2.2.2.2 inlX6 C.1.2.2.2.1 C.2.1 hR.P q (bd_ws_at hq) rfl 0 (by decide) (va_Nw.use rfl (C.2.2.1 _ hl)) (fun _ h => h) rfl hdg kk
theorem bd_p_X6_contests (C : bd_Cx E p m c cc nL s args own) (hR : bd_Rep E xm ym om H) (hS : va_S (bd_A E) H0 H locs) (hw : w < 2) (hl : Cond.fieldLink own i "BandDayModel$State" "contests" "I" ∈ wsL_law) (hdg : decode cc pc = .ok (.putfield i, 3)) {v : Int32} (kk : ∀ (H1 : Heap) (locs1 : List Loc), bd_Rep E xm (bd_up ym 10 w 0 v) om H1 → va_S (bd_A E) H0 H1 locs1 → W p l e R s m args below meth c H1 locs1 cells slots Q (F0 m (pc + 3) ls rest)) : W p l e R s m args below meth c H locs cells slots Q (F0 m pc ls (.int v :: .ref (bd_ea E 18 w 0) :: rest)) := by
  obtain ⟨q, hq⟩ := bd_pos (f := 18) (w := w) (k := 0) ⟨by decide, hw, by decide⟩
  exact va_put (D := bd_eD E) (ci := 6) (v := .int v) (ty := .int) (C := RX6) (T := TX6) (N := 15) C.1.1 C.1.2.1 C.1.2.2.2.2 inlX6 tyX6 tyX6_ok nmX6 C.1.2.2.2.1 C.2.1 hR.P hR.D hS q (bd_ws_at hq) rfl 0 (by decide) (C.1.2.2.2.2 _ hl) (fun _ h => h) rfl (by decide +kernel) rfl rfl (Nat.le_of_ble_eq_true rfl) hdg (fun H1 locs1 hP _ hS1 => kk H1 locs1 (bd_back hR hq (bd_upY (F := 10) (by simp [bd_ce, bd_up, bd_fam, bd_fmY]) (by decide)) hP) hS1)
theorem bd_g_X6_deputies (C : bd_Cx E p m c cc nL s args own) (hR : bd_Rep E xm ym om H) (hw : w < 2) (hl : Cond.fieldLink own i "BandDayModel$State" "deputies" "I" ∈ wsL_law) (hdg : decode cc pc = .ok (.getfield i, 3)) (kk : W p l e R s m args below meth c H locs cells slots Q (F0 m (pc + 3) ls (.int (ym 11 w 0) :: rest))) : W p l e R s m args below meth c H locs cells slots Q (F0 m pc ls (.ref (bd_ea E 18 w 0) :: rest)) := by
  obtain ⟨q, hq⟩ := bd_pos (f := 18) (w := w) (k := 0) ⟨by decide, hw, by decide⟩
  exact va_get (D := bd_eD E) (ci := 6) (C := RX6) (T := TX6) (N := 15) C.1.1 C.1.2.1 C.1.2.2.2.2 inlX6 C.1.2.2.2.1 C.2.1 hR.P q (bd_ws_at hq) rfl 1 (by decide) (C.1.2.2.2.2 _ hl) (fun _ h => h) rfl hdg kk
theorem bd_gN_X6_deputies (C : bd_Cx E p m c cc nL s args own) (hR : bd_Rep E xm ym om H) (hw : w < 2) (hl : Cond.fieldLinkNest own i "BandDayModel$State" "deputies" "I" "BandDayModel" ∈ bd_N) (hdg : decode cc pc = .ok (.getfield i, 3)) (kk : W p l e R s m args below meth c H locs cells slots Q (F0 m (pc + 3) ls (.int (ym 11 w 0) :: rest))) : W p l e R s m args below meth c H locs cells slots Q (F0 m pc ls (.ref (bd_ea E 18 w 0) :: rest)) := by
  obtain ⟨q, hq⟩ := bd_pos (f := 18) (w := w) (k := 0) ⟨by decide, hw, by decide⟩
  exact va_getN (D := bd_eD E) (ci := 6) (C := RX6) (T := TX6) (N := 15) C.1.1 C.1.2.1 C.1.2.2.2.2 inlX6 C.1.2.2.2.1 C.2.1 hR.P q (bd_ws_at hq) rfl 1 (by decide) (va_Nw.use rfl (C.2.2.1 _ hl)) (fun _ h => h) rfl hdg kk
theorem bd_p_X6_deputies (C : bd_Cx E p m c cc nL s args own) (hR : bd_Rep E xm ym om H) (hS : va_S (bd_A E) H0 H locs) (hw : w < 2) (hl : Cond.fieldLink own i "BandDayModel$State" "deputies" "I" ∈ wsL_law) (hdg : decode cc pc = .ok (.putfield i, 3)) {v : Int32} (kk : ∀ (H1 : Heap) (locs1 : List Loc), bd_Rep E xm (bd_up ym 11 w 0 v) om H1 → va_S (bd_A E) H0 H1 locs1 → W p l e R s m args below meth c H1 locs1 cells slots Q (F0 m (pc + 3) ls rest)) : W p l e R s m args below meth c H locs cells slots Q (F0 m pc ls (.int v :: .ref (bd_ea E 18 w 0) :: rest)) := by
  obtain ⟨q, hq⟩ := bd_pos (f := 18) (w := w) (k := 0) ⟨by decide, hw, by decide⟩
  exact va_put (D := bd_eD E) (ci := 6) (v := .int v) (ty := .int) (C := RX6) (T := TX6) (N := 15) C.1.1 C.1.2.1 C.1.2.2.2.2 inlX6 tyX6 tyX6_ok nmX6 C.1.2.2.2.1 C.2.1 hR.P hR.D hS q (bd_ws_at hq) rfl 1 (by decide) (C.1.2.2.2.2 _ hl) (fun _ h => h) rfl (by decide +kernel) rfl rfl (Nat.le_of_ble_eq_true rfl) hdg (fun H1 locs1 hP _ hS1 => kk H1 locs1 (bd_back hR hq (bd_upY (F := 11) (by simp [bd_ce, bd_up, bd_fam, bd_fmY]) (by decide)) hP) hS1)
theorem bd_g_X6_empties (C : bd_Cx E p m c cc nL s args own) (hR : bd_Rep E xm ym om H) (hw : w < 2) (hl : Cond.fieldLink own i "BandDayModel$State" "empties" "I" ∈ wsL_law) (hdg : decode cc pc = .ok (.getfield i, 3)) (kk : W p l e R s m args below meth c H locs cells slots Q (F0 m (pc + 3) ls (.int (ym 12 w 0) :: rest))) : W p l e R s m args below meth c H locs cells slots Q (F0 m pc ls (.ref (bd_ea E 18 w 0) :: rest)) := by
  obtain ⟨q, hq⟩ := bd_pos (f := 18) (w := w) (k := 0) ⟨by decide, hw, by decide⟩
  exact va_get (D := bd_eD E) (ci := 6) (C := RX6) (T := TX6) (N := 15) C.1.1 C.1.2.1 C.1.2.2.2.2 inlX6 C.1.2.2.2.1 C.2.1 hR.P q (bd_ws_at hq) rfl 2 (by decide) (C.1.2.2.2.2 _ hl) (fun _ h => h) rfl hdg kk
theorem bd_gN_X6_empties (C : bd_Cx E p m c cc nL s args own) (hR : bd_Rep E xm ym om H) (hw : w < 2) (hl : Cond.fieldLinkNest own i "BandDayModel$State" "empties" "I" "BandDayModel" ∈ bd_N) (hdg : decode cc pc = .ok (.getfield i, 3)) (kk : W p l e R s m args below meth c H locs cells slots Q (F0 m (pc + 3) ls (.int (ym 12 w 0) :: rest))) : W p l e R s m args below meth c H locs cells slots Q (F0 m pc ls (.ref (bd_ea E 18 w 0) :: rest)) := by
  obtain ⟨q, hq⟩ := bd_pos (f := 18) (w := w) (k := 0) ⟨by decide, hw, by decide⟩
  exact va_getN (D := bd_eD E) (ci := 6) (C := RX6) (T := TX6) (N := 15) C.1.1 C.1.2.1 C.1.2.2.2.2 inlX6 C.1.2.2.2.1 C.2.1 hR.P q (bd_ws_at hq) rfl 2 (by decide) (va_Nw.use rfl (C.2.2.1 _ hl)) (fun _ h => h) rfl hdg kk
theorem bd_p_X6_empties (C : bd_Cx E p m c cc nL s args own) (hR : bd_Rep E xm ym om H) (hS : va_S (bd_A E) H0 H locs) (hw : w < 2) (hl : Cond.fieldLink own i "BandDayModel$State" "empties" "I" ∈ wsL_law) (hdg : decode cc pc = .ok (.putfield i, 3)) {v : Int32} (kk : ∀ (H1 : Heap) (locs1 : List Loc), bd_Rep E xm (bd_up ym 12 w 0 v) om H1 → va_S (bd_A E) H0 H1 locs1 → W p l e R s m args below meth c H1 locs1 cells slots Q (F0 m (pc + 3) ls rest)) : W p l e R s m args below meth c H locs cells slots Q (F0 m pc ls (.int v :: .ref (bd_ea E 18 w 0) :: rest)) := by
  obtain ⟨q, hq⟩ := bd_pos (f := 18) (w := w) (k := 0) ⟨by decide, hw, by decide⟩
  exact va_put (D := bd_eD E) (ci := 6) (v := .int v) (ty := .int) (C := RX6) (T := TX6) (N := 15) C.1.1 C.1.2.1 C.1.2.2.2.2 inlX6 tyX6 tyX6_ok nmX6 C.1.2.2.2.1 C.2.1 hR.P hR.D hS q (bd_ws_at hq) rfl 2 (by decide) (C.1.2.2.2.2 _ hl) (fun _ h => h) rfl (by decide +kernel) rfl rfl (Nat.le_of_ble_eq_true rfl) hdg (fun H1 locs1 hP _ hS1 => kk H1 locs1 (bd_back hR hq (bd_upY (F := 12) (by simp [bd_ce, bd_up, bd_fam, bd_fmY]) (by decide)) hP) hS1)
theorem bd_g_X6_tired (C : bd_Cx E p m c cc nL s args own) (hR : bd_Rep E xm ym om H) (hw : w < 2) (hl : Cond.fieldLink own i "BandDayModel$State" "tired" "[I" ∈ wsL_law) (hdg : decode cc pc = .ok (.getfield i, 3)) (kk : W p l e R s m args below meth c H locs cells slots Q (F0 m (pc + 3) ls (.ref (bd_ea E 19 w 0) :: rest))) : W p l e R s m args below meth c H locs cells slots Q (F0 m pc ls (.ref (bd_ea E 18 w 0) :: rest)) := by
  obtain ⟨q, hq⟩ := bd_pos (f := 18) (w := w) (k := 0) ⟨by decide, hw, by decide⟩
  exact va_get (D := bd_eD E) (ci := 6) (C := RX6) (T := TX6) (N := 15) C.1.1 C.1.2.1 C.1.2.2.2.2 inlX6 C.1.2.2.2.1 C.2.1 hR.P q (bd_ws_at hq) rfl 3 (by decide) (C.1.2.2.2.2 _ hl) (fun _ h => h) rfl hdg kk
theorem bd_gN_X6_tired (C : bd_Cx E p m c cc nL s args own) (hR : bd_Rep E xm ym om H) (hw : w < 2) (hl : Cond.fieldLinkNest own i "BandDayModel$State" "tired" "[I" "BandDayModel" ∈ bd_N) (hdg : decode cc pc = .ok (.getfield i, 3)) (kk : W p l e R s m args below meth c H locs cells slots Q (F0 m (pc + 3) ls (.ref (bd_ea E 19 w 0) :: rest))) : W p l e R s m args below meth c H locs cells slots Q (F0 m pc ls (.ref (bd_ea E 18 w 0) :: rest)) := by
  obtain ⟨q, hq⟩ := bd_pos (f := 18) (w := w) (k := 0) ⟨by decide, hw, by decide⟩
  exact va_getN (D := bd_eD E) (ci := 6) (C := RX6) (T := TX6) (N := 15) C.1.1 C.1.2.1 C.1.2.2.2.2 inlX6 C.1.2.2.2.1 C.2.1 hR.P q (bd_ws_at hq) rfl 3 (by decide) (va_Nw.use rfl (C.2.2.1 _ hl)) (fun _ h => h) rfl hdg kk
theorem bd_g_X6_absent (C : bd_Cx E p m c cc nL s args own) (hR : bd_Rep E xm ym om H) (hw : w < 2) (hl : Cond.fieldLink own i "BandDayModel$State" "absent" "[I" ∈ wsL_law) (hdg : decode cc pc = .ok (.getfield i, 3)) (kk : W p l e R s m args below meth c H locs cells slots Q (F0 m (pc + 3) ls (.ref (bd_ea E 20 w 0) :: rest))) : W p l e R s m args below meth c H locs cells slots Q (F0 m pc ls (.ref (bd_ea E 18 w 0) :: rest)) := by
  obtain ⟨q, hq⟩ := bd_pos (f := 18) (w := w) (k := 0) ⟨by decide, hw, by decide⟩
  exact va_get (D := bd_eD E) (ci := 6) (C := RX6) (T := TX6) (N := 15) C.1.1 C.1.2.1 C.1.2.2.2.2 inlX6 C.1.2.2.2.1 C.2.1 hR.P q (bd_ws_at hq) rfl 4 (by decide) (C.1.2.2.2.2 _ hl) (fun _ h => h) rfl hdg kk
theorem bd_gN_X6_absent (C : bd_Cx E p m c cc nL s args own) (hR : bd_Rep E xm ym om H) (hw : w < 2) (hl : Cond.fieldLinkNest own i "BandDayModel$State" "absent" "[I" "BandDayModel" ∈ bd_N) (hdg : decode cc pc = .ok (.getfield i, 3)) (kk : W p l e R s m args below meth c H locs cells slots Q (F0 m (pc + 3) ls (.ref (bd_ea E 20 w 0) :: rest))) : W p l e R s m args below meth c H locs cells slots Q (F0 m pc ls (.ref (bd_ea E 18 w 0) :: rest)) := by
  obtain ⟨q, hq⟩ := bd_pos (f := 18) (w := w) (k := 0) ⟨by decide, hw, by decide⟩
  exact va_getN (D := bd_eD E) (ci := 6) (C := RX6) (T := TX6) (N := 15) C.1.1 C.1.2.1 C.1.2.2.2.2 inlX6 C.1.2.2.2.1 C.2.1 hR.P q (bd_ws_at hq) rfl 4 (by decide) (va_Nw.use rfl (C.2.2.1 _ hl)) (fun _ h => h) rfl hdg kk
theorem bd_g_X6_sat (C : bd_Cx E p m c cc nL s args own) (hR : bd_Rep E xm ym om H) (hw : w < 2) (hl : Cond.fieldLink own i "BandDayModel$State" "sat" "[I" ∈ wsL_law) (hdg : decode cc pc = .ok (.getfield i, 3)) (kk : W p l e R s m args below meth c H locs cells slots Q (F0 m (pc + 3) ls (.ref (bd_ea E 21 w 0) :: rest))) : W p l e R s m args below meth c H locs cells slots Q (F0 m pc ls (.ref (bd_ea E 18 w 0) :: rest)) := by
  obtain ⟨q, hq⟩ := bd_pos (f := 18) (w := w) (k := 0) ⟨by decide, hw, by decide⟩
  exact va_get (D := bd_eD E) (ci := 6) (C := RX6) (T := TX6) (N := 15) C.1.1 C.1.2.1 C.1.2.2.2.2 inlX6 C.1.2.2.2.1 C.2.1 hR.P q (bd_ws_at hq) rfl 5 (by decide) (C.1.2.2.2.2 _ hl) (fun _ h => h) rfl hdg kk
theorem bd_gN_X6_sat (C : bd_Cx E p m c cc nL s args own) (hR : bd_Rep E xm ym om H) (hw : w < 2) (hl : Cond.fieldLinkNest own i "BandDayModel$State" "sat" "[I" "BandDayModel" ∈ bd_N) (hdg : decode cc pc = .ok (.getfield i, 3)) (kk : W p l e R s m args below meth c H locs cells slots Q (F0 m (pc + 3) ls (.ref (bd_ea E 21 w 0) :: rest))) : W p l e R s m args below meth c H locs cells slots Q (F0 m pc ls (.ref (bd_ea E 18 w 0) :: rest)) := by
  obtain ⟨q, hq⟩ := bd_pos (f := 18) (w := w) (k := 0) ⟨by decide, hw, by decide⟩
  exact va_getN (D := bd_eD E) (ci := 6) (C := RX6) (T := TX6) (N := 15) C.1.1 C.1.2.1 C.1.2.2.2.2 inlX6 C.1.2.2.2.1 C.2.1 hR.P q (bd_ws_at hq) rfl 5 (by decide) (va_Nw.use rfl (C.2.2.1 _ hl)) (fun _ h => h) rfl hdg kk
theorem bd_g_X6_deputy (C : bd_Cx E p m c cc nL s args own) (hR : bd_Rep E xm ym om H) (hw : w < 2) (hl : Cond.fieldLink own i "BandDayModel$State" "deputy" "[I" ∈ wsL_law) (hdg : decode cc pc = .ok (.getfield i, 3)) (kk : W p l e R s m args below meth c H locs cells slots Q (F0 m (pc + 3) ls (.ref (bd_ea E 22 w 0) :: rest))) : W p l e R s m args below meth c H locs cells slots Q (F0 m pc ls (.ref (bd_ea E 18 w 0) :: rest)) := by
  obtain ⟨q, hq⟩ := bd_pos (f := 18) (w := w) (k := 0) ⟨by decide, hw, by decide⟩
  exact va_get (D := bd_eD E) (ci := 6) (C := RX6) (T := TX6) (N := 15) C.1.1 C.1.2.1 C.1.2.2.2.2 inlX6 C.1.2.2.2.1 C.2.1 hR.P q (bd_ws_at hq) rfl 6 (by decide) (C.1.2.2.2.2 _ hl) (fun _ h => h) rfl hdg kk
theorem bd_gN_X6_deputy (C : bd_Cx E p m c cc nL s args own) (hR : bd_Rep E xm ym om H) (hw : w < 2) (hl : Cond.fieldLinkNest own i "BandDayModel$State" "deputy" "[I" "BandDayModel" ∈ bd_N) (hdg : decode cc pc = .ok (.getfield i, 3)) (kk : W p l e R s m args below meth c H locs cells slots Q (F0 m (pc + 3) ls (.ref (bd_ea E 22 w 0) :: rest))) : W p l e R s m args below meth c H locs cells slots Q (F0 m pc ls (.ref (bd_ea E 18 w 0) :: rest)) := by
  obtain ⟨q, hq⟩ := bd_pos (f := 18) (w := w) (k := 0) ⟨by decide, hw, by decide⟩
  exact va_getN (D := bd_eD E) (ci := 6) (C := RX6) (T := TX6) (N := 15) C.1.1 C.1.2.1 C.1.2.2.2.2 inlX6 C.1.2.2.2.1 C.2.1 hR.P q (bd_ws_at hq) rfl 6 (by decide) (va_Nw.use rfl (C.2.2.1 _ hl)) (fun _ h => h) rfl hdg kk
theorem bd_g_X6_member (C : bd_Cx E p m c cc nL s args own) (hR : bd_Rep E xm ym om H) (hw : w < 2) (hl : Cond.fieldLink own i "BandDayModel$State" "member" "[I" ∈ wsL_law) (hdg : decode cc pc = .ok (.getfield i, 3)) (kk : W p l e R s m args below meth c H locs cells slots Q (F0 m (pc + 3) ls (.ref (bd_ea E 23 w 0) :: rest))) : W p l e R s m args below meth c H locs cells slots Q (F0 m pc ls (.ref (bd_ea E 18 w 0) :: rest)) := by
  obtain ⟨q, hq⟩ := bd_pos (f := 18) (w := w) (k := 0) ⟨by decide, hw, by decide⟩
  exact va_get (D := bd_eD E) (ci := 6) (C := RX6) (T := TX6) (N := 15) C.1.1 C.1.2.1 C.1.2.2.2.2 inlX6 C.1.2.2.2.1 C.2.1 hR.P q (bd_ws_at hq) rfl 7 (by decide) (C.1.2.2.2.2 _ hl) (fun _ h => h) rfl hdg kk
theorem bd_gN_X6_member (C : bd_Cx E p m c cc nL s args own) (hR : bd_Rep E xm ym om H) (hw : w < 2) (hl : Cond.fieldLinkNest own i "BandDayModel$State" "member" "[I" "BandDayModel" ∈ bd_N) (hdg : decode cc pc = .ok (.getfield i, 3)) (kk : W p l e R s m args below meth c H locs cells slots Q (F0 m (pc + 3) ls (.ref (bd_ea E 23 w 0) :: rest))) : W p l e R s m args below meth c H locs cells slots Q (F0 m pc ls (.ref (bd_ea E 18 w 0) :: rest)) := by
  obtain ⟨q, hq⟩ := bd_pos (f := 18) (w := w) (k := 0) ⟨by decide, hw, by decide⟩
  exact va_getN (D := bd_eD E) (ci := 6) (C := RX6) (T := TX6) (N := 15) C.1.1 C.1.2.1 C.1.2.2.2.2 inlX6 C.1.2.2.2.1 C.2.1 hR.P q (bd_ws_at hq) rfl 7 (by decide) (va_Nw.use rfl (C.2.2.1 _ hl)) (fun _ h => h) rfl hdg kk
theorem bd_g_X6_who (C : bd_Cx E p m c cc nL s args own) (hR : bd_Rep E xm ym om H) (hw : w < 2) (hl : Cond.fieldLink own i "BandDayModel$State" "who" "[I" ∈ wsL_law) (hdg : decode cc pc = .ok (.getfield i, 3)) (kk : W p l e R s m args below meth c H locs cells slots Q (F0 m (pc + 3) ls (.ref (bd_ea E 24 w 0) :: rest))) : W p l e R s m args below meth c H locs cells slots Q (F0 m pc ls (.ref (bd_ea E 18 w 0) :: rest)) := by
  obtain ⟨q, hq⟩ := bd_pos (f := 18) (w := w) (k := 0) ⟨by decide, hw, by decide⟩
  exact va_get (D := bd_eD E) (ci := 6) (C := RX6) (T := TX6) (N := 15) C.1.1 C.1.2.1 C.1.2.2.2.2 inlX6 C.1.2.2.2.1 C.2.1 hR.P q (bd_ws_at hq) rfl 8 (by decide) (C.1.2.2.2.2 _ hl) (fun _ h => h) rfl hdg kk
theorem bd_gN_X6_who (C : bd_Cx E p m c cc nL s args own) (hR : bd_Rep E xm ym om H) (hw : w < 2) (hl : Cond.fieldLinkNest own i "BandDayModel$State" "who" "[I" "BandDayModel" ∈ bd_N) (hdg : decode cc pc = .ok (.getfield i, 3)) (kk : W p l e R s m args below meth c H locs cells slots Q (F0 m (pc + 3) ls (.ref (bd_ea E 24 w 0) :: rest))) : W p l e R s m args below meth c H locs cells slots Q (F0 m pc ls (.ref (bd_ea E 18 w 0) :: rest)) := by
  obtain ⟨q, hq⟩ := bd_pos (f := 18) (w := w) (k := 0) ⟨by decide, hw, by decide⟩
  exact va_getN (D := bd_eD E) (ci := 6) (C := RX6) (T := TX6) (N := 15) C.1.1 C.1.2.1 C.1.2.2.2.2 inlX6 C.1.2.2.2.1 C.2.1 hR.P q (bd_ws_at hq) rfl 8 (by decide) (va_Nw.use rfl (C.2.2.1 _ hl)) (fun _ h => h) rfl hdg kk
theorem bd_g_X6_spirit (C : bd_Cx E p m c cc nL s args own) (hR : bd_Rep E xm ym om H) (hw : w < 2) (hl : Cond.fieldLink own i "BandDayModel$State" "spirit" "[I" ∈ wsL_law) (hdg : decode cc pc = .ok (.getfield i, 3)) (kk : W p l e R s m args below meth c H locs cells slots Q (F0 m (pc + 3) ls (.ref (bd_ea E 25 w 0) :: rest))) : W p l e R s m args below meth c H locs cells slots Q (F0 m pc ls (.ref (bd_ea E 18 w 0) :: rest)) := by
  obtain ⟨q, hq⟩ := bd_pos (f := 18) (w := w) (k := 0) ⟨by decide, hw, by decide⟩
  exact va_get (D := bd_eD E) (ci := 6) (C := RX6) (T := TX6) (N := 15) C.1.1 C.1.2.1 C.1.2.2.2.2 inlX6 C.1.2.2.2.1 C.2.1 hR.P q (bd_ws_at hq) rfl 9 (by decide) (C.1.2.2.2.2 _ hl) (fun _ h => h) rfl hdg kk
theorem bd_gN_X6_spirit (C : bd_Cx E p m c cc nL s args own) (hR : bd_Rep E xm ym om H) (hw : w < 2) (hl : Cond.fieldLinkNest own i "BandDayModel$State" "spirit" "[I" "BandDayModel" ∈ bd_N) (hdg : decode cc pc = .ok (.getfield i, 3)) (kk : W p l e R s m args below meth c H locs cells slots Q (F0 m (pc + 3) ls (.ref (bd_ea E 25 w 0) :: rest))) : W p l e R s m args below meth c H locs cells slots Q (F0 m pc ls (.ref (bd_ea E 18 w 0) :: rest)) := by
  obtain ⟨q, hq⟩ := bd_pos (f := 18) (w := w) (k := 0) ⟨by decide, hw, by decide⟩
  exact va_getN (D := bd_eD E) (ci := 6) (C := RX6) (T := TX6) (N := 15) C.1.1 C.1.2.1 C.1.2.2.2.2 inlX6 C.1.2.2.2.1 C.2.1 hR.P q (bd_ws_at hq) rfl 9 (by decide) (va_Nw.use rfl (C.2.2.1 _ hl)) (fun _ h => h) rfl hdg kk
theorem bd_g_X6_points (C : bd_Cx E p m c cc nL s args own) (hR : bd_Rep E xm ym om H) (hw : w < 2) (hl : Cond.fieldLink own i "BandDayModel$State" "points" "[I" ∈ wsL_law) (hdg : decode cc pc = .ok (.getfield i, 3)) (kk : W p l e R s m args below meth c H locs cells slots Q (F0 m (pc + 3) ls (.ref (bd_ea E 26 w 0) :: rest))) : W p l e R s m args below meth c H locs cells slots Q (F0 m pc ls (.ref (bd_ea E 18 w 0) :: rest)) := by
  obtain ⟨q, hq⟩ := bd_pos (f := 18) (w := w) (k := 0) ⟨by decide, hw, by decide⟩
  exact va_get (D := bd_eD E) (ci := 6) (C := RX6) (T := TX6) (N := 15) C.1.1 C.1.2.1 C.1.2.2.2.2 inlX6 C.1.2.2.2.1 C.2.1 hR.P q (bd_ws_at hq) rfl 10 (by decide) (C.1.2.2.2.2 _ hl) (fun _ h => h) rfl hdg kk
theorem bd_gN_X6_points (C : bd_Cx E p m c cc nL s args own) (hR : bd_Rep E xm ym om H) (hw : w < 2) (hl : Cond.fieldLinkNest own i "BandDayModel$State" "points" "[I" "BandDayModel" ∈ bd_N) (hdg : decode cc pc = .ok (.getfield i, 3)) (kk : W p l e R s m args below meth c H locs cells slots Q (F0 m (pc + 3) ls (.ref (bd_ea E 26 w 0) :: rest))) : W p l e R s m args below meth c H locs cells slots Q (F0 m pc ls (.ref (bd_ea E 18 w 0) :: rest)) := by
  obtain ⟨q, hq⟩ := bd_pos (f := 18) (w := w) (k := 0) ⟨by decide, hw, by decide⟩
  exact va_getN (D := bd_eD E) (ci := 6) (C := RX6) (T := TX6) (N := 15) C.1.1 C.1.2.1 C.1.2.2.2.2 inlX6 C.1.2.2.2.1 C.2.1 hR.P q (bd_ws_at hq) rfl 10 (by decide) (va_Nw.use rfl (C.2.2.1 _ hl)) (fun _ h => h) rfl hdg kk
theorem bd_g_X6_outs (C : bd_Cx E p m c cc nL s args own) (hR : bd_Rep E xm ym om H) (hw : w < 2) (hl : Cond.fieldLink own i "BandDayModel$State" "outs" "[I" ∈ wsL_law) (hdg : decode cc pc = .ok (.getfield i, 3)) (kk : W p l e R s m args below meth c H locs cells slots Q (F0 m (pc + 3) ls (.ref (bd_ea E 27 w 0) :: rest))) : W p l e R s m args below meth c H locs cells slots Q (F0 m pc ls (.ref (bd_ea E 18 w 0) :: rest)) := by
  obtain ⟨q, hq⟩ := bd_pos (f := 18) (w := w) (k := 0) ⟨by decide, hw, by decide⟩
  exact va_get (D := bd_eD E) (ci := 6) (C := RX6) (T := TX6) (N := 15) C.1.1 C.1.2.1 C.1.2.2.2.2 inlX6 C.1.2.2.2.1 C.2.1 hR.P q (bd_ws_at hq) rfl 11 (by decide) (C.1.2.2.2.2 _ hl) (fun _ h => h) rfl hdg kk
theorem bd_gN_X6_outs (C : bd_Cx E p m c cc nL s args own) (hR : bd_Rep E xm ym om H) (hw : w < 2) (hl : Cond.fieldLinkNest own i "BandDayModel$State" "outs" "[I" "BandDayModel" ∈ bd_N) (hdg : decode cc pc = .ok (.getfield i, 3)) (kk : W p l e R s m args below meth c H locs cells slots Q (F0 m (pc + 3) ls (.ref (bd_ea E 27 w 0) :: rest))) : W p l e R s m args below meth c H locs cells slots Q (F0 m pc ls (.ref (bd_ea E 18 w 0) :: rest)) := by
  obtain ⟨q, hq⟩ := bd_pos (f := 18) (w := w) (k := 0) ⟨by decide, hw, by decide⟩
  exact va_getN (D := bd_eD E) (ci := 6) (C := RX6) (T := TX6) (N := 15) C.1.1 C.1.2.1 C.1.2.2.2.2 inlX6 C.1.2.2.2.1 C.2.1 hR.P q (bd_ws_at hq) rfl 11 (by decide) (va_Nw.use rfl (C.2.2.1 _ hl)) (fun _ h => h) rfl hdg kk
theorem bd_g_X6_latest (C : bd_Cx E p m c cc nL s args own) (hR : bd_Rep E xm ym om H) (hw : w < 2) (hl : Cond.fieldLink own i "BandDayModel$State" "latest" "[I" ∈ wsL_law) (hdg : decode cc pc = .ok (.getfield i, 3)) (kk : W p l e R s m args below meth c H locs cells slots Q (F0 m (pc + 3) ls (.ref (bd_ea E 28 w 0) :: rest))) : W p l e R s m args below meth c H locs cells slots Q (F0 m pc ls (.ref (bd_ea E 18 w 0) :: rest)) := by
  obtain ⟨q, hq⟩ := bd_pos (f := 18) (w := w) (k := 0) ⟨by decide, hw, by decide⟩
  exact va_get (D := bd_eD E) (ci := 6) (C := RX6) (T := TX6) (N := 15) C.1.1 C.1.2.1 C.1.2.2.2.2 inlX6 C.1.2.2.2.1 C.2.1 hR.P q (bd_ws_at hq) rfl 12 (by decide) (C.1.2.2.2.2 _ hl) (fun _ h => h) rfl hdg kk
theorem bd_gN_X6_latest (C : bd_Cx E p m c cc nL s args own) (hR : bd_Rep E xm ym om H) (hw : w < 2) (hl : Cond.fieldLinkNest own i "BandDayModel$State" "latest" "[I" "BandDayModel" ∈ bd_N) (hdg : decode cc pc = .ok (.getfield i, 3)) (kk : W p l e R s m args below meth c H locs cells slots Q (F0 m (pc + 3) ls (.ref (bd_ea E 28 w 0) :: rest))) : W p l e R s m args below meth c H locs cells slots Q (F0 m pc ls (.ref (bd_ea E 18 w 0) :: rest)) := by
  obtain ⟨q, hq⟩ := bd_pos (f := 18) (w := w) (k := 0) ⟨by decide, hw, by decide⟩
  exact va_getN (D := bd_eD E) (ci := 6) (C := RX6) (T := TX6) (N := 15) C.1.1 C.1.2.1 C.1.2.2.2.2 inlX6 C.1.2.2.2.1 C.2.1 hR.P q (bd_ws_at hq) rfl 12 (by decide) (va_Nw.use rfl (C.2.2.1 _ hl)) (fun _ h => h) rfl hdg kk
theorem bd_g_X6_times (C : bd_Cx E p m c cc nL s args own) (hR : bd_Rep E xm ym om H) (hw : w < 2) (hl : Cond.fieldLink own i "BandDayModel$State" "times" "[I" ∈ wsL_law) (hdg : decode cc pc = .ok (.getfield i, 3)) (kk : W p l e R s m args below meth c H locs cells slots Q (F0 m (pc + 3) ls (.ref (bd_ea E 29 w 0) :: rest))) : W p l e R s m args below meth c H locs cells slots Q (F0 m pc ls (.ref (bd_ea E 18 w 0) :: rest)) := by
  obtain ⟨q, hq⟩ := bd_pos (f := 18) (w := w) (k := 0) ⟨by decide, hw, by decide⟩
  exact va_get (D := bd_eD E) (ci := 6) (C := RX6) (T := TX6) (N := 15) C.1.1 C.1.2.1 C.1.2.2.2.2 inlX6 C.1.2.2.2.1 C.2.1 hR.P q (bd_ws_at hq) rfl 13 (by decide) (C.1.2.2.2.2 _ hl) (fun _ h => h) rfl hdg kk
theorem bd_g_X6_this_0 (C : bd_Cx E p m c cc nL s args own) (hR : bd_Rep E xm ym om H) (hw : w < 2) (hl : Cond.fieldLink own i "BandDayModel$State" "this$0" "LBandDayModel;" ∈ wsL_law) (hdg : decode cc pc = .ok (.getfield i, 3)) (kk : W p l e R s m args below meth c H locs cells slots Q (F0 m (pc + 3) ls (.ref (bd_ea E 12 0 0) :: rest))) : W p l e R s m args below meth c H locs cells slots Q (F0 m pc ls (.ref (bd_ea E 18 w 0) :: rest)) := by
  obtain ⟨q, hq⟩ := bd_pos (f := 18) (w := w) (k := 0) ⟨by decide, hw, by decide⟩
  exact va_get (D := bd_eD E) (ci := 6) (C := RX6) (T := TX6) (N := 15) C.1.1 C.1.2.1 C.1.2.2.2.2 inlX6 C.1.2.2.2.1 C.2.1 hR.P q (bd_ws_at hq) rfl 14 (by decide) (C.1.2.2.2.2 _ hl) (fun _ h => h) rfl hdg kk
theorem bd_g_X7_thrown (C : bd_Cx E p m c cc nL s args own) (hR : bd_Rep E xm ym om H) (hl : Cond.fieldLink own i "BandDayModel" "thrown" "I" ∈ wsL_law) (hdg : decode cc pc = .ok (.getfield i, 3)) (kk : W p l e R s m args below meth c H locs cells slots Q (F0 m (pc + 3) ls (.int (ym 0 0 0) :: rest))) : W p l e R s m args below meth c H locs cells slots Q (F0 m pc ls (.ref (bd_ea E 12 0 0) :: rest)) := by
  obtain ⟨q, hq⟩ := bd_pos (f := 12) (w := 0) (k := 0) ⟨by decide, by decide, by decide⟩
  exact va_get (D := bd_eD E) (ci := 7) (C := RX7) (T := TX7) (N := 10) C.1.1 C.1.2.1 C.1.2.2.2.2 inlX7 C.1.2.2.2.1 C.2.1 hR.P q (bd_ws_at hq) rfl 0 (by decide) (C.1.2.2.2.2 _ hl) (fun _ h => h) rfl hdg kk
theorem bd_p_X7_thrown (C : bd_Cx E p m c cc nL s args own) (hR : bd_Rep E xm ym om H) (hS : va_S (bd_A E) H0 H locs) (hl : Cond.fieldLink own i "BandDayModel" "thrown" "I" ∈ wsL_law) (hdg : decode cc pc = .ok (.putfield i, 3)) {v : Int32} (kk : ∀ (H1 : Heap) (locs1 : List Loc), bd_Rep E xm (bd_up ym 0 0 0 v) om H1 → va_S (bd_A E) H0 H1 locs1 → W p l e R s m args below meth c H1 locs1 cells slots Q (F0 m (pc + 3) ls rest)) : W p l e R s m args below meth c H locs cells slots Q (F0 m pc ls (.int v :: .ref (bd_ea E 12 0 0) :: rest)) := by
  obtain ⟨q, hq⟩ := bd_pos (f := 12) (w := 0) (k := 0) ⟨by decide, by decide, by decide⟩
  exact va_put (D := bd_eD E) (ci := 7) (v := .int v) (ty := .int) (C := RX7) (T := TX7) (N := 10) C.1.1 C.1.2.1 C.1.2.2.2.2 inlX7 tyX7 tyX7_ok nmX7 C.1.2.2.2.1 C.2.1 hR.P hR.D hS q (bd_ws_at hq) rfl 0 (by decide) (C.1.2.2.2.2 _ hl) (fun _ h => h) rfl (by decide +kernel) rfl rfl (Nat.le_of_ble_eq_true rfl) hdg (fun H1 locs1 hP _ hS1 => kk H1 locs1 (bd_back hR hq (bd_upY (F := 0) (by simp [bd_ce, bd_up, bd_fam, bd_fmY]) (by decide)) hP) hS1)
theorem bd_g_X7_players (C : bd_Cx E p m c cc nL s args own) (hR : bd_Rep E xm ym om H) (hl : Cond.fieldLink own i "BandDayModel" "players" "I" ∈ wsL_law) (hdg : decode cc pc = .ok (.getfield i, 3)) (kk : W p l e R s m args below meth c H locs cells slots Q (F0 m (pc + 3) ls (.int (ym 1 0 0) :: rest))) : W p l e R s m args below meth c H locs cells slots Q (F0 m pc ls (.ref (bd_ea E 12 0 0) :: rest)) := by
  obtain ⟨q, hq⟩ := bd_pos (f := 12) (w := 0) (k := 0) ⟨by decide, by decide, by decide⟩
  exact va_get (D := bd_eD E) (ci := 7) (C := RX7) (T := TX7) (N := 10) C.1.1 C.1.2.1 C.1.2.2.2.2 inlX7 C.1.2.2.2.1 C.2.1 hR.P q (bd_ws_at hq) rfl 1 (by decide) (C.1.2.2.2.2 _ hl) (fun _ h => h) rfl hdg kk
theorem bd_gN_X7_players (C : bd_Cx E p m c cc nL s args own) (hR : bd_Rep E xm ym om H) (hl : Cond.fieldLinkNest own i "BandDayModel" "players" "I" "BandDayModel" ∈ bd_N) (hdg : decode cc pc = .ok (.getfield i, 3)) (kk : W p l e R s m args below meth c H locs cells slots Q (F0 m (pc + 3) ls (.int (ym 1 0 0) :: rest))) : W p l e R s m args below meth c H locs cells slots Q (F0 m pc ls (.ref (bd_ea E 12 0 0) :: rest)) := by
  obtain ⟨q, hq⟩ := bd_pos (f := 12) (w := 0) (k := 0) ⟨by decide, by decide, by decide⟩
  exact va_getN (D := bd_eD E) (ci := 7) (C := RX7) (T := TX7) (N := 10) C.1.1 C.1.2.1 C.1.2.2.2.2 inlX7 C.1.2.2.2.1 C.2.1 hR.P q (bd_ws_at hq) rfl 1 (by decide) (va_Nw.use rfl (C.2.2.1 _ hl)) (fun _ h => h) rfl hdg kk
theorem bd_p_X7_players (C : bd_Cx E p m c cc nL s args own) (hR : bd_Rep E xm ym om H) (hS : va_S (bd_A E) H0 H locs) (hl : Cond.fieldLink own i "BandDayModel" "players" "I" ∈ wsL_law) (hdg : decode cc pc = .ok (.putfield i, 3)) {v : Int32} (kk : ∀ (H1 : Heap) (locs1 : List Loc), bd_Rep E xm (bd_up ym 1 0 0 v) om H1 → va_S (bd_A E) H0 H1 locs1 → W p l e R s m args below meth c H1 locs1 cells slots Q (F0 m (pc + 3) ls rest)) : W p l e R s m args below meth c H locs cells slots Q (F0 m pc ls (.int v :: .ref (bd_ea E 12 0 0) :: rest)) := by
  obtain ⟨q, hq⟩ := bd_pos (f := 12) (w := 0) (k := 0) ⟨by decide, by decide, by decide⟩
  exact va_put (D := bd_eD E) (ci := 7) (v := .int v) (ty := .int) (C := RX7) (T := TX7) (N := 10) C.1.1 C.1.2.1 C.1.2.2.2.2 inlX7 tyX7 tyX7_ok nmX7 C.1.2.2.2.1 C.2.1 hR.P hR.D hS q (bd_ws_at hq) rfl 1 (by decide) (C.1.2.2.2.2 _ hl) (fun _ h => h) rfl (by decide +kernel) rfl rfl (Nat.le_of_ble_eq_true rfl) hdg (fun H1 locs1 hP _ hS1 => kk H1 locs1 (bd_back hR hq (bd_upY (F := 1) (by simp [bd_ce, bd_up, bd_fam, bd_fmY]) (by decide)) hP) hS1)
theorem bd_g_X7_skill (C : bd_Cx E p m c cc nL s args own) (hR : bd_Rep E xm ym om H) (hl : Cond.fieldLink own i "BandDayModel" "skill" "[I" ∈ wsL_law) (hdg : decode cc pc = .ok (.getfield i, 3)) (kk : W p l e R s m args below meth c H locs cells slots Q (F0 m (pc + 3) ls (.ref (bd_ea E 13 0 0) :: rest))) : W p l e R s m args below meth c H locs cells slots Q (F0 m pc ls (.ref (bd_ea E 12 0 0) :: rest)) := by
  obtain ⟨q, hq⟩ := bd_pos (f := 12) (w := 0) (k := 0) ⟨by decide, by decide, by decide⟩
  exact va_get (D := bd_eD E) (ci := 7) (C := RX7) (T := TX7) (N := 10) C.1.1 C.1.2.1 C.1.2.2.2.2 inlX7 C.1.2.2.2.1 C.2.1 hR.P q (bd_ws_at hq) rfl 2 (by decide) (C.1.2.2.2.2 _ hl) (fun _ h => h) rfl hdg kk
theorem bd_gN_X7_skill (C : bd_Cx E p m c cc nL s args own) (hR : bd_Rep E xm ym om H) (hl : Cond.fieldLinkNest own i "BandDayModel" "skill" "[I" "BandDayModel" ∈ bd_N) (hdg : decode cc pc = .ok (.getfield i, 3)) (kk : W p l e R s m args below meth c H locs cells slots Q (F0 m (pc + 3) ls (.ref (bd_ea E 13 0 0) :: rest))) : W p l e R s m args below meth c H locs cells slots Q (F0 m pc ls (.ref (bd_ea E 12 0 0) :: rest)) := by
  obtain ⟨q, hq⟩ := bd_pos (f := 12) (w := 0) (k := 0) ⟨by decide, by decide, by decide⟩
  exact va_getN (D := bd_eD E) (ci := 7) (C := RX7) (T := TX7) (N := 10) C.1.1 C.1.2.1 C.1.2.2.2.2 inlX7 C.1.2.2.2.1 C.2.1 hR.P q (bd_ws_at hq) rfl 2 (by decide) (va_Nw.use rfl (C.2.2.1 _ hl)) (fun _ h => h) rfl hdg kk
theorem bd_g_X7_bands (C : bd_Cx E p m c cc nL s args own) (hR : bd_Rep E xm ym om H) (hl : Cond.fieldLink own i "BandDayModel" "bands" "I" ∈ wsL_law) (hdg : decode cc pc = .ok (.getfield i, 3)) (kk : W p l e R s m args below meth c H locs cells slots Q (F0 m (pc + 3) ls (.int (ym 2 0 0) :: rest))) : W p l e R s m args below meth c H locs cells slots Q (F0 m pc ls (.ref (bd_ea E 12 0 0) :: rest)) := by
  obtain ⟨q, hq⟩ := bd_pos (f := 12) (w := 0) (k := 0) ⟨by decide, by decide, by decide⟩
  exact va_get (D := bd_eD E) (ci := 7) (C := RX7) (T := TX7) (N := 10) C.1.1 C.1.2.1 C.1.2.2.2.2 inlX7 C.1.2.2.2.1 C.2.1 hR.P q (bd_ws_at hq) rfl 3 (by decide) (C.1.2.2.2.2 _ hl) (fun _ h => h) rfl hdg kk
theorem bd_gN_X7_bands (C : bd_Cx E p m c cc nL s args own) (hR : bd_Rep E xm ym om H) (hl : Cond.fieldLinkNest own i "BandDayModel" "bands" "I" "BandDayModel" ∈ bd_N) (hdg : decode cc pc = .ok (.getfield i, 3)) (kk : W p l e R s m args below meth c H locs cells slots Q (F0 m (pc + 3) ls (.int (ym 2 0 0) :: rest))) : W p l e R s m args below meth c H locs cells slots Q (F0 m pc ls (.ref (bd_ea E 12 0 0) :: rest)) := by
  obtain ⟨q, hq⟩ := bd_pos (f := 12) (w := 0) (k := 0) ⟨by decide, by decide, by decide⟩
  exact va_getN (D := bd_eD E) (ci := 7) (C := RX7) (T := TX7) (N := 10) C.1.1 C.1.2.1 C.1.2.2.2.2 inlX7 C.1.2.2.2.1 C.2.1 hR.P q (bd_ws_at hq) rfl 3 (by decide) (va_Nw.use rfl (C.2.2.1 _ hl)) (fun _ h => h) rfl hdg kk
theorem bd_p_X7_bands (C : bd_Cx E p m c cc nL s args own) (hR : bd_Rep E xm ym om H) (hS : va_S (bd_A E) H0 H locs) (hl : Cond.fieldLink own i "BandDayModel" "bands" "I" ∈ wsL_law) (hdg : decode cc pc = .ok (.putfield i, 3)) {v : Int32} (kk : ∀ (H1 : Heap) (locs1 : List Loc), bd_Rep E xm (bd_up ym 2 0 0 v) om H1 → va_S (bd_A E) H0 H1 locs1 → W p l e R s m args below meth c H1 locs1 cells slots Q (F0 m (pc + 3) ls rest)) : W p l e R s m args below meth c H locs cells slots Q (F0 m pc ls (.int v :: .ref (bd_ea E 12 0 0) :: rest)) := by
  obtain ⟨q, hq⟩ := bd_pos (f := 12) (w := 0) (k := 0) ⟨by decide, by decide, by decide⟩
  exact va_put (D := bd_eD E) (ci := 7) (v := .int v) (ty := .int) (C := RX7) (T := TX7) (N := 10) C.1.1 C.1.2.1 C.1.2.2.2.2 inlX7 tyX7 tyX7_ok nmX7 C.1.2.2.2.1 C.2.1 hR.P hR.D hS q (bd_ws_at hq) rfl 3 (by decide) (C.1.2.2.2.2 _ hl) (fun _ h => h) rfl (by decide +kernel) rfl rfl (Nat.le_of_ble_eq_true rfl) hdg (fun H1 locs1 hP _ hS1 => kk H1 locs1 (bd_back hR hq (bd_upY (F := 2) (by simp [bd_ce, bd_up, bd_fam, bd_fmY]) (by decide)) hP) hS1)
theorem bd_g_X7_seats (C : bd_Cx E p m c cc nL s args own) (hR : bd_Rep E xm ym om H) (hl : Cond.fieldLink own i "BandDayModel" "seats" "[I" ∈ wsL_law) (hdg : decode cc pc = .ok (.getfield i, 3)) (kk : W p l e R s m args below meth c H locs cells slots Q (F0 m (pc + 3) ls (.ref (bd_ea E 14 0 0) :: rest))) : W p l e R s m args below meth c H locs cells slots Q (F0 m pc ls (.ref (bd_ea E 12 0 0) :: rest)) := by
  obtain ⟨q, hq⟩ := bd_pos (f := 12) (w := 0) (k := 0) ⟨by decide, by decide, by decide⟩
  exact va_get (D := bd_eD E) (ci := 7) (C := RX7) (T := TX7) (N := 10) C.1.1 C.1.2.1 C.1.2.2.2.2 inlX7 C.1.2.2.2.1 C.2.1 hR.P q (bd_ws_at hq) rfl 4 (by decide) (C.1.2.2.2.2 _ hl) (fun _ h => h) rfl hdg kk
theorem bd_gN_X7_seats (C : bd_Cx E p m c cc nL s args own) (hR : bd_Rep E xm ym om H) (hl : Cond.fieldLinkNest own i "BandDayModel" "seats" "[I" "BandDayModel" ∈ bd_N) (hdg : decode cc pc = .ok (.getfield i, 3)) (kk : W p l e R s m args below meth c H locs cells slots Q (F0 m (pc + 3) ls (.ref (bd_ea E 14 0 0) :: rest))) : W p l e R s m args below meth c H locs cells slots Q (F0 m pc ls (.ref (bd_ea E 12 0 0) :: rest)) := by
  obtain ⟨q, hq⟩ := bd_pos (f := 12) (w := 0) (k := 0) ⟨by decide, by decide, by decide⟩
  exact va_getN (D := bd_eD E) (ci := 7) (C := RX7) (T := TX7) (N := 10) C.1.1 C.1.2.1 C.1.2.2.2.2 inlX7 C.1.2.2.2.1 C.2.1 hR.P q (bd_ws_at hq) rfl 4 (by decide) (va_Nw.use rfl (C.2.2.1 _ hl)) (fun _ h => h) rfl hdg kk
theorem bd_g_X7_instrument (C : bd_Cx E p m c cc nL s args own) (hR : bd_Rep E xm ym om H) (hl : Cond.fieldLink own i "BandDayModel" "instrument" "[I" ∈ wsL_law) (hdg : decode cc pc = .ok (.getfield i, 3)) (kk : W p l e R s m args below meth c H locs cells slots Q (F0 m (pc + 3) ls (.ref (bd_ea E 15 0 0) :: rest))) : W p l e R s m args below meth c H locs cells slots Q (F0 m pc ls (.ref (bd_ea E 12 0 0) :: rest)) := by
  obtain ⟨q, hq⟩ := bd_pos (f := 12) (w := 0) (k := 0) ⟨by decide, by decide, by decide⟩
  exact va_get (D := bd_eD E) (ci := 7) (C := RX7) (T := TX7) (N := 10) C.1.1 C.1.2.1 C.1.2.2.2.2 inlX7 C.1.2.2.2.1 C.2.1 hR.P q (bd_ws_at hq) rfl 5 (by decide) (C.1.2.2.2.2 _ hl) (fun _ h => h) rfl hdg kk
theorem bd_gN_X7_instrument (C : bd_Cx E p m c cc nL s args own) (hR : bd_Rep E xm ym om H) (hl : Cond.fieldLinkNest own i "BandDayModel" "instrument" "[I" "BandDayModel" ∈ bd_N) (hdg : decode cc pc = .ok (.getfield i, 3)) (kk : W p l e R s m args below meth c H locs cells slots Q (F0 m (pc + 3) ls (.ref (bd_ea E 15 0 0) :: rest))) : W p l e R s m args below meth c H locs cells slots Q (F0 m pc ls (.ref (bd_ea E 12 0 0) :: rest)) := by
  obtain ⟨q, hq⟩ := bd_pos (f := 12) (w := 0) (k := 0) ⟨by decide, by decide, by decide⟩
  exact va_getN (D := bd_eD E) (ci := 7) (C := RX7) (T := TX7) (N := 10) C.1.1 C.1.2.1 C.1.2.2.2.2 inlX7 C.1.2.2.2.1 C.2.1 hR.P q (bd_ws_at hq) rfl 5 (by decide) (va_Nw.use rfl (C.2.2.1 _ hl)) (fun _ h => h) rfl hdg kk
theorem bd_g_X7_hard (C : bd_Cx E p m c cc nL s args own) (hR : bd_Rep E xm ym om H) (hl : Cond.fieldLink own i "BandDayModel" "hard" "[I" ∈ wsL_law) (hdg : decode cc pc = .ok (.getfield i, 3)) (kk : W p l e R s m args below meth c H locs cells slots Q (F0 m (pc + 3) ls (.ref (bd_ea E 16 0 0) :: rest))) : W p l e R s m args below meth c H locs cells slots Q (F0 m pc ls (.ref (bd_ea E 12 0 0) :: rest)) := by
  obtain ⟨q, hq⟩ := bd_pos (f := 12) (w := 0) (k := 0) ⟨by decide, by decide, by decide⟩
  exact va_get (D := bd_eD E) (ci := 7) (C := RX7) (T := TX7) (N := 10) C.1.1 C.1.2.1 C.1.2.2.2.2 inlX7 C.1.2.2.2.1 C.2.1 hR.P q (bd_ws_at hq) rfl 6 (by decide) (C.1.2.2.2.2 _ hl) (fun _ h => h) rfl hdg kk
theorem bd_gN_X7_hard (C : bd_Cx E p m c cc nL s args own) (hR : bd_Rep E xm ym om H) (hl : Cond.fieldLinkNest own i "BandDayModel" "hard" "[I" "BandDayModel" ∈ bd_N) (hdg : decode cc pc = .ok (.getfield i, 3)) (kk : W p l e R s m args below meth c H locs cells slots Q (F0 m (pc + 3) ls (.ref (bd_ea E 16 0 0) :: rest))) : W p l e R s m args below meth c H locs cells slots Q (F0 m pc ls (.ref (bd_ea E 12 0 0) :: rest)) := by
  obtain ⟨q, hq⟩ := bd_pos (f := 12) (w := 0) (k := 0) ⟨by decide, by decide, by decide⟩
  exact va_getN (D := bd_eD E) (ci := 7) (C := RX7) (T := TX7) (N := 10) C.1.1 C.1.2.1 C.1.2.2.2.2 inlX7 C.1.2.2.2.1 C.2.1 hR.P q (bd_ws_at hq) rfl 6 (by decide) (va_Nw.use rfl (C.2.2.1 _ hl)) (fun _ h => h) rfl hdg kk
theorem bd_g_X7_weight (C : bd_Cx E p m c cc nL s args own) (hR : bd_Rep E xm ym om H) (hl : Cond.fieldLink own i "BandDayModel" "weight" "[I" ∈ wsL_law) (hdg : decode cc pc = .ok (.getfield i, 3)) (kk : W p l e R s m args below meth c H locs cells slots Q (F0 m (pc + 3) ls (.ref (bd_ea E 17 0 0) :: rest))) : W p l e R s m args below meth c H locs cells slots Q (F0 m pc ls (.ref (bd_ea E 12 0 0) :: rest)) := by
  obtain ⟨q, hq⟩ := bd_pos (f := 12) (w := 0) (k := 0) ⟨by decide, by decide, by decide⟩
  exact va_get (D := bd_eD E) (ci := 7) (C := RX7) (T := TX7) (N := 10) C.1.1 C.1.2.1 C.1.2.2.2.2 inlX7 C.1.2.2.2.1 C.2.1 hR.P q (bd_ws_at hq) rfl 7 (by decide) (C.1.2.2.2.2 _ hl) (fun _ h => h) rfl hdg kk
theorem bd_gN_X7_weight (C : bd_Cx E p m c cc nL s args own) (hR : bd_Rep E xm ym om H) (hl : Cond.fieldLinkNest own i "BandDayModel" "weight" "[I" "BandDayModel" ∈ bd_N) (hdg : decode cc pc = .ok (.getfield i, 3)) (kk : W p l e R s m args below meth c H locs cells slots Q (F0 m (pc + 3) ls (.ref (bd_ea E 17 0 0) :: rest))) : W p l e R s m args below meth c H locs cells slots Q (F0 m pc ls (.ref (bd_ea E 12 0 0) :: rest)) := by
  obtain ⟨q, hq⟩ := bd_pos (f := 12) (w := 0) (k := 0) ⟨by decide, by decide, by decide⟩
  exact va_getN (D := bd_eD E) (ci := 7) (C := RX7) (T := TX7) (N := 10) C.1.1 C.1.2.1 C.1.2.2.2.2 inlX7 C.1.2.2.2.1 C.2.1 hR.P q (bd_ws_at hq) rfl 7 (by decide) (va_Nw.use rfl (C.2.2.1 _ hl)) (fun _ h => h) rfl hdg kk
theorem bd_g_X7_s (C : bd_Cx E p m c cc nL s args own) (hR : bd_Rep E xm ym om H) (hl : Cond.fieldLink own i "BandDayModel" "s" "LBandDayModel$State;" ∈ wsL_law) (hdg : decode cc pc = .ok (.getfield i, 3)) (kk : W p l e R s m args below meth c H locs cells slots Q (F0 m (pc + 3) ls (.ref (bd_ea E 18 0 0) :: rest))) : W p l e R s m args below meth c H locs cells slots Q (F0 m pc ls (.ref (bd_ea E 12 0 0) :: rest)) := by
  obtain ⟨q, hq⟩ := bd_pos (f := 12) (w := 0) (k := 0) ⟨by decide, by decide, by decide⟩
  exact va_get (D := bd_eD E) (ci := 7) (C := RX7) (T := TX7) (N := 10) C.1.1 C.1.2.1 C.1.2.2.2.2 inlX7 C.1.2.2.2.1 C.2.1 hR.P q (bd_ws_at hq) rfl 8 (by decide) (C.1.2.2.2.2 _ hl) (fun _ h => h) rfl hdg kk
theorem bd_g_X7_ahead (C : bd_Cx E p m c cc nL s args own) (hR : bd_Rep E xm ym om H) (hl : Cond.fieldLink own i "BandDayModel" "ahead" "LBandDayModel$State;" ∈ wsL_law) (hdg : decode cc pc = .ok (.getfield i, 3)) (kk : W p l e R s m args below meth c H locs cells slots Q (F0 m (pc + 3) ls (.ref (bd_ea E 18 1 0) :: rest))) : W p l e R s m args below meth c H locs cells slots Q (F0 m pc ls (.ref (bd_ea E 12 0 0) :: rest)) := by
  obtain ⟨q, hq⟩ := bd_pos (f := 12) (w := 0) (k := 0) ⟨by decide, by decide, by decide⟩
  exact va_get (D := bd_eD E) (ci := 7) (C := RX7) (T := TX7) (N := 10) C.1.1 C.1.2.1 C.1.2.2.2.2 inlX7 C.1.2.2.2.1 C.2.1 hR.P q (bd_ws_at hq) rfl 9 (by decide) (C.1.2.2.2.2 _ hl) (fun _ h => h) rfl hdg kk
theorem bd_ld_5 (C : bd_Cx E p m c cc nL s args own) (hR : bd_Rep E xm ym om H) (hw : w < 2) {j : Nat} (hj : j < 4) (hdg : decode cc pc = .ok (.iaload, 1)) (kk : W p l e R s m args below meth c H locs cells slots Q (F0 m (pc + 1) ls (.int (xm 35 w j) :: rest))) : W p l e R s m args below meth c H locs cells slots Q (F0 m pc ls (.int (nI j) :: .ref (bd_ea E 5 w 0) :: rest)) := by
  obtain ⟨q, hq⟩ := bd_pos (f := 5) (w := w) (k := 0) ⟨by decide, hw, by decide⟩
  refine va_iald (D := bd_eD E) C.1.1 C.1.2.1 C.2.1 hR.P q 0 (bd_ws_at hq) rfl (vp_in_nI hj (by decide)) hdg ?_
  rw [nI_clamp (Nat.lt_trans hj (by decide))]
  exact kk
theorem bd_st_5 (C : bd_Cx E p m c cc nL s args own) (hR : bd_Rep E xm ym om H) (hS : va_S (bd_A E) H0 H locs) (hw : w < 2) {j : Nat} (hj : j < 4) (hdg : decode cc pc = .ok (.iastore, 1)) {v : Int32} (kk : ∀ (H1 : Heap) (locs1 : List Loc), bd_Rep E (bd_up xm 35 w j v) ym om H1 → va_S (bd_A E) H0 H1 locs1 → W p l e R s m args below meth c H1 locs1 cells slots Q (F0 m (pc + 1) ls rest)) : W p l e R s m args below meth c H locs cells slots Q (F0 m pc ls (.int v :: .int (nI j) :: .ref (bd_ea E 5 w 0) :: rest)) := by
  obtain ⟨q, hq⟩ := bd_pos (f := 5) (w := w) (k := 0) ⟨by decide, hw, by decide⟩
  refine va_iast (D := bd_eD E) C.1.1 C.1.2.1 C.2.1 hR.P hR.D hS q 0 (bd_ws_at hq) rfl (vp_in_nI hj (by decide)) hdg (fun H1 locs1 hP _ hS1 => kk H1 locs1 (bd_back hR hq ?_ hP) hS1)
  rw [nI_clamp (Nat.lt_trans hj (by decide))]
  exact bd_upX (F := 35) (kc := 0) (by simp only [bd_ce, bd_fam]; simp [bd_ce]; funext z; simp [bd_up, upd]) (fun h => absurd h (by decide)) (fun _ => ⟨rfl, rfl⟩)
theorem bd_al_5 (C : bd_Cx E p m c cc nL s args own) (hR : bd_Rep E xm ym om H) (hw : w < 2) (hdg : decode cc pc = .ok (.arraylength, 1)) (kk : W p l e R s m args below meth c H locs cells slots Q (F0 m (pc + 1) ls (.int 4 :: rest))) : W p l e R s m args below meth c H locs cells slots Q (F0 m pc ls (.ref (bd_ea E 5 w 0) :: rest)) := by
  obtain ⟨q, hq⟩ := bd_pos (f := 5) (w := w) (k := 0) ⟨by decide, hw, by decide⟩
  exact va_alen (D := bd_eD E) C.1.1 C.1.2.1 C.2.1 hR.P q 0 (bd_ws_at hq) rfl rfl hdg kk
theorem bd_ld_6 (C : bd_Cx E p m c cc nL s args own) (hR : bd_Rep E xm ym om H) (hw : w < 2) {j : Nat} (hj : j < 4) (hdg : decode cc pc = .ok (.iaload, 1)) (kk : W p l e R s m args below meth c H locs cells slots Q (F0 m (pc + 1) ls (.int (xm 36 w j) :: rest))) : W p l e R s m args below meth c H locs cells slots Q (F0 m pc ls (.int (nI j) :: .ref (bd_ea E 6 w 0) :: rest)) := by
  obtain ⟨q, hq⟩ := bd_pos (f := 6) (w := w) (k := 0) ⟨by decide, hw, by decide⟩
  refine va_iald (D := bd_eD E) C.1.1 C.1.2.1 C.2.1 hR.P q 0 (bd_ws_at hq) rfl (vp_in_nI hj (by decide)) hdg ?_
  rw [nI_clamp (Nat.lt_trans hj (by decide))]
  exact kk
theorem bd_st_6 (C : bd_Cx E p m c cc nL s args own) (hR : bd_Rep E xm ym om H) (hS : va_S (bd_A E) H0 H locs) (hw : w < 2) {j : Nat} (hj : j < 4) (hdg : decode cc pc = .ok (.iastore, 1)) {v : Int32} (kk : ∀ (H1 : Heap) (locs1 : List Loc), bd_Rep E (bd_up xm 36 w j v) ym om H1 → va_S (bd_A E) H0 H1 locs1 → W p l e R s m args below meth c H1 locs1 cells slots Q (F0 m (pc + 1) ls rest)) : W p l e R s m args below meth c H locs cells slots Q (F0 m pc ls (.int v :: .int (nI j) :: .ref (bd_ea E 6 w 0) :: rest)) := by
  obtain ⟨q, hq⟩ := bd_pos (f := 6) (w := w) (k := 0) ⟨by decide, hw, by decide⟩
  refine va_iast (D := bd_eD E) C.1.1 C.1.2.1 C.2.1 hR.P hR.D hS q 0 (bd_ws_at hq) rfl (vp_in_nI hj (by decide)) hdg (fun H1 locs1 hP _ hS1 => kk H1 locs1 (bd_back hR hq ?_ hP) hS1)
  rw [nI_clamp (Nat.lt_trans hj (by decide))]
  exact bd_upX (F := 36) (kc := 0) (by simp only [bd_ce, bd_fam]; simp [bd_ce]; funext z; simp [bd_up, upd]) (fun h => absurd h (by decide)) (fun _ => ⟨rfl, rfl⟩)
theorem bd_al_6 (C : bd_Cx E p m c cc nL s args own) (hR : bd_Rep E xm ym om H) (hw : w < 2) (hdg : decode cc pc = .ok (.arraylength, 1)) (kk : W p l e R s m args below meth c H locs cells slots Q (F0 m (pc + 1) ls (.int 4 :: rest))) : W p l e R s m args below meth c H locs cells slots Q (F0 m pc ls (.ref (bd_ea E 6 w 0) :: rest)) := by
  obtain ⟨q, hq⟩ := bd_pos (f := 6) (w := w) (k := 0) ⟨by decide, hw, by decide⟩
  exact va_alen (D := bd_eD E) C.1.1 C.1.2.1 C.2.1 hR.P q 0 (bd_ws_at hq) rfl rfl hdg kk
theorem bd_ld_8 (C : bd_Cx E p m c cc nL s args own) (hR : bd_Rep E xm ym om H) (hw : w < 2) (hk : k < 24) {j : Nat} (hj : j < 4) (hdg : decode cc pc = .ok (.iaload, 1)) (kk : W p l e R s m args below meth c H locs cells slots Q (F0 m (pc + 1) ls (.int (xm (j + 1000) w k) :: rest))) : W p l e R s m args below meth c H locs cells slots Q (F0 m pc ls (.int (nI j) :: .ref (bd_ea E 8 w k) :: rest)) := by
  obtain ⟨q, hq⟩ := bd_pos (f := 8) (w := w) (k := k) ⟨by decide, hw, hk⟩
  refine va_iald (D := bd_eD E) C.1.1 C.1.2.1 C.2.1 hR.P q 0 (bd_ws_at hq) rfl (vp_in_nI hj (by decide)) hdg ?_
  rw [nI_clamp (Nat.lt_trans hj (by decide))]
  exact kk
theorem bd_st_8 (C : bd_Cx E p m c cc nL s args own) (hR : bd_Rep E xm ym om H) (hS : va_S (bd_A E) H0 H locs) (hw : w < 2) (hk : k < 24) {j : Nat} (hj : j < 4) (hdg : decode cc pc = .ok (.iastore, 1)) {v : Int32} (kk : ∀ (H1 : Heap) (locs1 : List Loc), bd_Rep E (bd_up xm (j + 1000) w k v) ym om H1 → va_S (bd_A E) H0 H1 locs1 → W p l e R s m args below meth c H1 locs1 cells slots Q (F0 m (pc + 1) ls rest)) : W p l e R s m args below meth c H locs cells slots Q (F0 m pc ls (.int v :: .int (nI j) :: .ref (bd_ea E 8 w k) :: rest)) := by
  obtain ⟨q, hq⟩ := bd_pos (f := 8) (w := w) (k := k) ⟨by decide, hw, hk⟩
  refine va_iast (D := bd_eD E) C.1.1 C.1.2.1 C.2.1 hR.P hR.D hS q 0 (bd_ws_at hq) rfl (vp_in_nI hj (by decide)) hdg (fun H1 locs1 hP _ hS1 => kk H1 locs1 (bd_back hR hq ?_ hP) hS1)
  rw [nI_clamp (Nat.lt_trans hj (by decide))]
  have hf : bd_fam (j + 1000) = 8 := by simp only [bd_fam]; repeat (first | rw [if_neg (by omega)] | rfl)
  have e9 : (fun z => bd_up xm (j + 1000) w k v (z + 1000) w k) = upd (fun z => xm (z + 1000) w k) j v := funext fun z => by
    by_cases hz : z = j
    · subst hz
      simp [bd_up, upd]
    · rw [upd, if_neg hz, bd_up_n (by omega)]
  have h9 := bd_upX (E := E) (xm := xm) (ym := ym) (om := om) (F := j + 1000) (w := w) (kk := k) (kc := k) (v := v) (e := bd_iA E 4 (upd (fun z => xm (z + 1000) w k) j v)) (by
    rw [hf]
    simp only [bd_ce]
    rw [e9]) (fun _ => rfl) (fun h => absurd h (by rw [hf]; decide))
  rw [hf] at h9
  exact h9
theorem bd_al_8 (C : bd_Cx E p m c cc nL s args own) (hR : bd_Rep E xm ym om H) (hw : w < 2) (hk : k < 24) (hdg : decode cc pc = .ok (.arraylength, 1)) (kk : W p l e R s m args below meth c H locs cells slots Q (F0 m (pc + 1) ls (.int 4 :: rest))) : W p l e R s m args below meth c H locs cells slots Q (F0 m pc ls (.ref (bd_ea E 8 w k) :: rest)) := by
  obtain ⟨q, hq⟩ := bd_pos (f := 8) (w := w) (k := k) ⟨by decide, hw, hk⟩
  exact va_alen (D := bd_eD E) C.1.1 C.1.2.1 C.2.1 hR.P q 0 (bd_ws_at hq) rfl rfl hdg kk
theorem bd_ld_13 (C : bd_Cx E p m c cc nL s args own) (hR : bd_Rep E xm ym om H) {j : Nat} (hj : j < 96) (hdg : decode cc pc = .ok (.iaload, 1)) (kk : W p l e R s m args below meth c H locs cells slots Q (F0 m (pc + 1) ls (.int (ym 13 0 j) :: rest))) : W p l e R s m args below meth c H locs cells slots Q (F0 m pc ls (.int (nI j) :: .ref (bd_ea E 13 0 0) :: rest)) := by
  obtain ⟨q, hq⟩ := bd_pos (f := 13) (w := 0) (k := 0) ⟨by decide, by decide, by decide⟩
  refine va_iald (D := bd_eD E) C.1.1 C.1.2.1 C.2.1 hR.P q 0 (bd_ws_at hq) rfl (vp_in_nI hj (by decide)) hdg ?_
  rw [nI_clamp (Nat.lt_trans hj (by decide))]
  exact kk
theorem bd_st_13 (C : bd_Cx E p m c cc nL s args own) (hR : bd_Rep E xm ym om H) (hS : va_S (bd_A E) H0 H locs) {j : Nat} (hj : j < 96) (hdg : decode cc pc = .ok (.iastore, 1)) {v : Int32} (kk : ∀ (H1 : Heap) (locs1 : List Loc), bd_Rep E xm (bd_up ym 13 0 j v) om H1 → va_S (bd_A E) H0 H1 locs1 → W p l e R s m args below meth c H1 locs1 cells slots Q (F0 m (pc + 1) ls rest)) : W p l e R s m args below meth c H locs cells slots Q (F0 m pc ls (.int v :: .int (nI j) :: .ref (bd_ea E 13 0 0) :: rest)) := by
  obtain ⟨q, hq⟩ := bd_pos (f := 13) (w := 0) (k := 0) ⟨by decide, by decide, by decide⟩
  refine va_iast (D := bd_eD E) C.1.1 C.1.2.1 C.2.1 hR.P hR.D hS q 0 (bd_ws_at hq) rfl (vp_in_nI hj (by decide)) hdg (fun H1 locs1 hP _ hS1 => kk H1 locs1 (bd_back hR hq ?_ hP) hS1)
  rw [nI_clamp (Nat.lt_trans hj (by decide))]
  exact bd_upY (F := 13) (by simp only [bd_ce, bd_fmY]; simp [bd_ce]; funext z; simp [bd_up, upd]) rfl
theorem bd_al_13 (C : bd_Cx E p m c cc nL s args own) (hR : bd_Rep E xm ym om H) (hdg : decode cc pc = .ok (.arraylength, 1)) (kk : W p l e R s m args below meth c H locs cells slots Q (F0 m (pc + 1) ls (.int 96 :: rest))) : W p l e R s m args below meth c H locs cells slots Q (F0 m pc ls (.ref (bd_ea E 13 0 0) :: rest)) := by
  obtain ⟨q, hq⟩ := bd_pos (f := 13) (w := 0) (k := 0) ⟨by decide, by decide, by decide⟩
  exact va_alen (D := bd_eD E) C.1.1 C.1.2.1 C.2.1 hR.P q 0 (bd_ws_at hq) rfl rfl hdg kk
theorem bd_ld_14 (C : bd_Cx E p m c cc nL s args own) (hR : bd_Rep E xm ym om H) {j : Nat} (hj : j < 6) (hdg : decode cc pc = .ok (.iaload, 1)) (kk : W p l e R s m args below meth c H locs cells slots Q (F0 m (pc + 1) ls (.int (ym 14 0 j) :: rest))) : W p l e R s m args below meth c H locs cells slots Q (F0 m pc ls (.int (nI j) :: .ref (bd_ea E 14 0 0) :: rest)) := by
  obtain ⟨q, hq⟩ := bd_pos (f := 14) (w := 0) (k := 0) ⟨by decide, by decide, by decide⟩
  refine va_iald (D := bd_eD E) C.1.1 C.1.2.1 C.2.1 hR.P q 0 (bd_ws_at hq) rfl (vp_in_nI hj (by decide)) hdg ?_
  rw [nI_clamp (Nat.lt_trans hj (by decide))]
  exact kk
theorem bd_st_14 (C : bd_Cx E p m c cc nL s args own) (hR : bd_Rep E xm ym om H) (hS : va_S (bd_A E) H0 H locs) {j : Nat} (hj : j < 6) (hdg : decode cc pc = .ok (.iastore, 1)) {v : Int32} (kk : ∀ (H1 : Heap) (locs1 : List Loc), bd_Rep E xm (bd_up ym 14 0 j v) om H1 → va_S (bd_A E) H0 H1 locs1 → W p l e R s m args below meth c H1 locs1 cells slots Q (F0 m (pc + 1) ls rest)) : W p l e R s m args below meth c H locs cells slots Q (F0 m pc ls (.int v :: .int (nI j) :: .ref (bd_ea E 14 0 0) :: rest)) := by
  obtain ⟨q, hq⟩ := bd_pos (f := 14) (w := 0) (k := 0) ⟨by decide, by decide, by decide⟩
  refine va_iast (D := bd_eD E) C.1.1 C.1.2.1 C.2.1 hR.P hR.D hS q 0 (bd_ws_at hq) rfl (vp_in_nI hj (by decide)) hdg (fun H1 locs1 hP _ hS1 => kk H1 locs1 (bd_back hR hq ?_ hP) hS1)
  rw [nI_clamp (Nat.lt_trans hj (by decide))]
  exact bd_upY (F := 14) (by simp only [bd_ce, bd_fmY]; simp [bd_ce]; funext z; simp [bd_up, upd]) rfl
theorem bd_al_14 (C : bd_Cx E p m c cc nL s args own) (hR : bd_Rep E xm ym om H) (hdg : decode cc pc = .ok (.arraylength, 1)) (kk : W p l e R s m args below meth c H locs cells slots Q (F0 m (pc + 1) ls (.int 6 :: rest))) : W p l e R s m args below meth c H locs cells slots Q (F0 m pc ls (.ref (bd_ea E 14 0 0) :: rest)) := by
  obtain ⟨q, hq⟩ := bd_pos (f := 14) (w := 0) (k := 0) ⟨by decide, by decide, by decide⟩
  exact va_alen (D := bd_eD E) C.1.1 C.1.2.1 C.2.1 hR.P q 0 (bd_ws_at hq) rfl rfl hdg kk
theorem bd_ld_15 (C : bd_Cx E p m c cc nL s args own) (hR : bd_Rep E xm ym om H) {j : Nat} (hj : j < 48) (hdg : decode cc pc = .ok (.iaload, 1)) (kk : W p l e R s m args below meth c H locs cells slots Q (F0 m (pc + 1) ls (.int (ym 15 0 j) :: rest))) : W p l e R s m args below meth c H locs cells slots Q (F0 m pc ls (.int (nI j) :: .ref (bd_ea E 15 0 0) :: rest)) := by
  obtain ⟨q, hq⟩ := bd_pos (f := 15) (w := 0) (k := 0) ⟨by decide, by decide, by decide⟩
  refine va_iald (D := bd_eD E) C.1.1 C.1.2.1 C.2.1 hR.P q 0 (bd_ws_at hq) rfl (vp_in_nI hj (by decide)) hdg ?_
  rw [nI_clamp (Nat.lt_trans hj (by decide))]
  exact kk
theorem bd_st_15 (C : bd_Cx E p m c cc nL s args own) (hR : bd_Rep E xm ym om H) (hS : va_S (bd_A E) H0 H locs) {j : Nat} (hj : j < 48) (hdg : decode cc pc = .ok (.iastore, 1)) {v : Int32} (kk : ∀ (H1 : Heap) (locs1 : List Loc), bd_Rep E xm (bd_up ym 15 0 j v) om H1 → va_S (bd_A E) H0 H1 locs1 → W p l e R s m args below meth c H1 locs1 cells slots Q (F0 m (pc + 1) ls rest)) : W p l e R s m args below meth c H locs cells slots Q (F0 m pc ls (.int v :: .int (nI j) :: .ref (bd_ea E 15 0 0) :: rest)) := by
  obtain ⟨q, hq⟩ := bd_pos (f := 15) (w := 0) (k := 0) ⟨by decide, by decide, by decide⟩
  refine va_iast (D := bd_eD E) C.1.1 C.1.2.1 C.2.1 hR.P hR.D hS q 0 (bd_ws_at hq) rfl (vp_in_nI hj (by decide)) hdg (fun H1 locs1 hP _ hS1 => kk H1 locs1 (bd_back hR hq ?_ hP) hS1)
  rw [nI_clamp (Nat.lt_trans hj (by decide))]
  exact bd_upY (F := 15) (by simp only [bd_ce, bd_fmY]; simp [bd_ce]; funext z; simp [bd_up, upd]) rfl
theorem bd_al_15 (C : bd_Cx E p m c cc nL s args own) (hR : bd_Rep E xm ym om H) (hdg : decode cc pc = .ok (.arraylength, 1)) (kk : W p l e R s m args below meth c H locs cells slots Q (F0 m (pc + 1) ls (.int 48 :: rest))) : W p l e R s m args below meth c H locs cells slots Q (F0 m pc ls (.ref (bd_ea E 15 0 0) :: rest)) := by
  obtain ⟨q, hq⟩ := bd_pos (f := 15) (w := 0) (k := 0) ⟨by decide, by decide, by decide⟩
  exact va_alen (D := bd_eD E) C.1.1 C.1.2.1 C.2.1 hR.P q 0 (bd_ws_at hq) rfl rfl hdg kk
theorem bd_ld_16 (C : bd_Cx E p m c cc nL s args own) (hR : bd_Rep E xm ym om H) {j : Nat} (hj : j < 4) (hdg : decode cc pc = .ok (.iaload, 1)) (kk : W p l e R s m args below meth c H locs cells slots Q (F0 m (pc + 1) ls (.int (ym 16 0 j) :: rest))) : W p l e R s m args below meth c H locs cells slots Q (F0 m pc ls (.int (nI j) :: .ref (bd_ea E 16 0 0) :: rest)) := by
  obtain ⟨q, hq⟩ := bd_pos (f := 16) (w := 0) (k := 0) ⟨by decide, by decide, by decide⟩
  refine va_iald (D := bd_eD E) C.1.1 C.1.2.1 C.2.1 hR.P q 0 (bd_ws_at hq) rfl (vp_in_nI hj (by decide)) hdg ?_
  rw [nI_clamp (Nat.lt_trans hj (by decide))]
  exact kk
theorem bd_st_16 (C : bd_Cx E p m c cc nL s args own) (hR : bd_Rep E xm ym om H) (hS : va_S (bd_A E) H0 H locs) {j : Nat} (hj : j < 4) (hdg : decode cc pc = .ok (.iastore, 1)) {v : Int32} (kk : ∀ (H1 : Heap) (locs1 : List Loc), bd_Rep E xm (bd_up ym 16 0 j v) om H1 → va_S (bd_A E) H0 H1 locs1 → W p l e R s m args below meth c H1 locs1 cells slots Q (F0 m (pc + 1) ls rest)) : W p l e R s m args below meth c H locs cells slots Q (F0 m pc ls (.int v :: .int (nI j) :: .ref (bd_ea E 16 0 0) :: rest)) := by
  obtain ⟨q, hq⟩ := bd_pos (f := 16) (w := 0) (k := 0) ⟨by decide, by decide, by decide⟩
  refine va_iast (D := bd_eD E) C.1.1 C.1.2.1 C.2.1 hR.P hR.D hS q 0 (bd_ws_at hq) rfl (vp_in_nI hj (by decide)) hdg (fun H1 locs1 hP _ hS1 => kk H1 locs1 (bd_back hR hq ?_ hP) hS1)
  rw [nI_clamp (Nat.lt_trans hj (by decide))]
  exact bd_upY (F := 16) (by simp only [bd_ce, bd_fmY]; simp [bd_ce]; funext z; simp [bd_up, upd]) rfl
theorem bd_al_16 (C : bd_Cx E p m c cc nL s args own) (hR : bd_Rep E xm ym om H) (hdg : decode cc pc = .ok (.arraylength, 1)) (kk : W p l e R s m args below meth c H locs cells slots Q (F0 m (pc + 1) ls (.int 4 :: rest))) : W p l e R s m args below meth c H locs cells slots Q (F0 m pc ls (.ref (bd_ea E 16 0 0) :: rest)) := by
  obtain ⟨q, hq⟩ := bd_pos (f := 16) (w := 0) (k := 0) ⟨by decide, by decide, by decide⟩
  exact va_alen (D := bd_eD E) C.1.1 C.1.2.1 C.2.1 hR.P q 0 (bd_ws_at hq) rfl rfl hdg kk
theorem bd_ld_17 (C : bd_Cx E p m c cc nL s args own) (hR : bd_Rep E xm ym om H) {j : Nat} (hj : j < 4) (hdg : decode cc pc = .ok (.iaload, 1)) (kk : W p l e R s m args below meth c H locs cells slots Q (F0 m (pc + 1) ls (.int (ym 17 0 j) :: rest))) : W p l e R s m args below meth c H locs cells slots Q (F0 m pc ls (.int (nI j) :: .ref (bd_ea E 17 0 0) :: rest)) := by
  obtain ⟨q, hq⟩ := bd_pos (f := 17) (w := 0) (k := 0) ⟨by decide, by decide, by decide⟩
  refine va_iald (D := bd_eD E) C.1.1 C.1.2.1 C.2.1 hR.P q 0 (bd_ws_at hq) rfl (vp_in_nI hj (by decide)) hdg ?_
  rw [nI_clamp (Nat.lt_trans hj (by decide))]
  exact kk
theorem bd_st_17 (C : bd_Cx E p m c cc nL s args own) (hR : bd_Rep E xm ym om H) (hS : va_S (bd_A E) H0 H locs) {j : Nat} (hj : j < 4) (hdg : decode cc pc = .ok (.iastore, 1)) {v : Int32} (kk : ∀ (H1 : Heap) (locs1 : List Loc), bd_Rep E xm (bd_up ym 17 0 j v) om H1 → va_S (bd_A E) H0 H1 locs1 → W p l e R s m args below meth c H1 locs1 cells slots Q (F0 m (pc + 1) ls rest)) : W p l e R s m args below meth c H locs cells slots Q (F0 m pc ls (.int v :: .int (nI j) :: .ref (bd_ea E 17 0 0) :: rest)) := by
  obtain ⟨q, hq⟩ := bd_pos (f := 17) (w := 0) (k := 0) ⟨by decide, by decide, by decide⟩
  refine va_iast (D := bd_eD E) C.1.1 C.1.2.1 C.2.1 hR.P hR.D hS q 0 (bd_ws_at hq) rfl (vp_in_nI hj (by decide)) hdg (fun H1 locs1 hP _ hS1 => kk H1 locs1 (bd_back hR hq ?_ hP) hS1)
  rw [nI_clamp (Nat.lt_trans hj (by decide))]
  exact bd_upY (F := 17) (by simp only [bd_ce, bd_fmY]; simp [bd_ce]; funext z; simp [bd_up, upd]) rfl
theorem bd_al_17 (C : bd_Cx E p m c cc nL s args own) (hR : bd_Rep E xm ym om H) (hdg : decode cc pc = .ok (.arraylength, 1)) (kk : W p l e R s m args below meth c H locs cells slots Q (F0 m (pc + 1) ls (.int 4 :: rest))) : W p l e R s m args below meth c H locs cells slots Q (F0 m pc ls (.ref (bd_ea E 17 0 0) :: rest)) := by
  obtain ⟨q, hq⟩ := bd_pos (f := 17) (w := 0) (k := 0) ⟨by decide, by decide, by decide⟩
  exact va_alen (D := bd_eD E) C.1.1 C.1.2.1 C.2.1 hR.P q 0 (bd_ws_at hq) rfl rfl hdg kk
theorem bd_ld_19 (C : bd_Cx E p m c cc nL s args own) (hR : bd_Rep E xm ym om H) (hw : w < 2) {j : Nat} (hj : j < 24) (hdg : decode cc pc = .ok (.iaload, 1)) (kk : W p l e R s m args below meth c H locs cells slots Q (F0 m (pc + 1) ls (.int (ym 19 w j) :: rest))) : W p l e R s m args below meth c H locs cells slots Q (F0 m pc ls (.int (nI j) :: .ref (bd_ea E 19 w 0) :: rest)) := by
  obtain ⟨q, hq⟩ := bd_pos (f := 19) (w := w) (k := 0) ⟨by decide, hw, by decide⟩
  refine va_iald (D := bd_eD E) C.1.1 C.1.2.1 C.2.1 hR.P q 0 (bd_ws_at hq) rfl (vp_in_nI hj (by decide)) hdg ?_
  rw [nI_clamp (Nat.lt_trans hj (by decide))]
  exact kk
theorem bd_st_19 (C : bd_Cx E p m c cc nL s args own) (hR : bd_Rep E xm ym om H) (hS : va_S (bd_A E) H0 H locs) (hw : w < 2) {j : Nat} (hj : j < 24) (hdg : decode cc pc = .ok (.iastore, 1)) {v : Int32} (kk : ∀ (H1 : Heap) (locs1 : List Loc), bd_Rep E xm (bd_up ym 19 w j v) om H1 → va_S (bd_A E) H0 H1 locs1 → W p l e R s m args below meth c H1 locs1 cells slots Q (F0 m (pc + 1) ls rest)) : W p l e R s m args below meth c H locs cells slots Q (F0 m pc ls (.int v :: .int (nI j) :: .ref (bd_ea E 19 w 0) :: rest)) := by
  obtain ⟨q, hq⟩ := bd_pos (f := 19) (w := w) (k := 0) ⟨by decide, hw, by decide⟩
  refine va_iast (D := bd_eD E) C.1.1 C.1.2.1 C.2.1 hR.P hR.D hS q 0 (bd_ws_at hq) rfl (vp_in_nI hj (by decide)) hdg (fun H1 locs1 hP _ hS1 => kk H1 locs1 (bd_back hR hq ?_ hP) hS1)
  rw [nI_clamp (Nat.lt_trans hj (by decide))]
  exact bd_upY (F := 19) (by simp only [bd_ce, bd_fmY]; simp [bd_ce]; funext z; simp [bd_up, upd]) rfl
theorem bd_al_19 (C : bd_Cx E p m c cc nL s args own) (hR : bd_Rep E xm ym om H) (hw : w < 2) (hdg : decode cc pc = .ok (.arraylength, 1)) (kk : W p l e R s m args below meth c H locs cells slots Q (F0 m (pc + 1) ls (.int 24 :: rest))) : W p l e R s m args below meth c H locs cells slots Q (F0 m pc ls (.ref (bd_ea E 19 w 0) :: rest)) := by
  obtain ⟨q, hq⟩ := bd_pos (f := 19) (w := w) (k := 0) ⟨by decide, hw, by decide⟩
  exact va_alen (D := bd_eD E) C.1.1 C.1.2.1 C.2.1 hR.P q 0 (bd_ws_at hq) rfl rfl hdg kk
theorem bd_ld_20 (C : bd_Cx E p m c cc nL s args own) (hR : bd_Rep E xm ym om H) (hw : w < 2) {j : Nat} (hj : j < 24) (hdg : decode cc pc = .ok (.iaload, 1)) (kk : W p l e R s m args below meth c H locs cells slots Q (F0 m (pc + 1) ls (.int (ym 20 w j) :: rest))) : W p l e R s m args below meth c H locs cells slots Q (F0 m pc ls (.int (nI j) :: .ref (bd_ea E 20 w 0) :: rest)) := by
  obtain ⟨q, hq⟩ := bd_pos (f := 20) (w := w) (k := 0) ⟨by decide, hw, by decide⟩
  refine va_iald (D := bd_eD E) C.1.1 C.1.2.1 C.2.1 hR.P q 0 (bd_ws_at hq) rfl (vp_in_nI hj (by decide)) hdg ?_
  rw [nI_clamp (Nat.lt_trans hj (by decide))]
  exact kk
theorem bd_st_20 (C : bd_Cx E p m c cc nL s args own) (hR : bd_Rep E xm ym om H) (hS : va_S (bd_A E) H0 H locs) (hw : w < 2) {j : Nat} (hj : j < 24) (hdg : decode cc pc = .ok (.iastore, 1)) {v : Int32} (kk : ∀ (H1 : Heap) (locs1 : List Loc), bd_Rep E xm (bd_up ym 20 w j v) om H1 → va_S (bd_A E) H0 H1 locs1 → W p l e R s m args below meth c H1 locs1 cells slots Q (F0 m (pc + 1) ls rest)) : W p l e R s m args below meth c H locs cells slots Q (F0 m pc ls (.int v :: .int (nI j) :: .ref (bd_ea E 20 w 0) :: rest)) := by
  obtain ⟨q, hq⟩ := bd_pos (f := 20) (w := w) (k := 0) ⟨by decide, hw, by decide⟩
  refine va_iast (D := bd_eD E) C.1.1 C.1.2.1 C.2.1 hR.P hR.D hS q 0 (bd_ws_at hq) rfl (vp_in_nI hj (by decide)) hdg (fun H1 locs1 hP _ hS1 => kk H1 locs1 (bd_back hR hq ?_ hP) hS1)
  rw [nI_clamp (Nat.lt_trans hj (by decide))]
  exact bd_upY (F := 20) (by simp only [bd_ce, bd_fmY]; simp [bd_ce]; funext z; simp [bd_up, upd]) rfl
theorem bd_al_20 (C : bd_Cx E p m c cc nL s args own) (hR : bd_Rep E xm ym om H) (hw : w < 2) (hdg : decode cc pc = .ok (.arraylength, 1)) (kk : W p l e R s m args below meth c H locs cells slots Q (F0 m (pc + 1) ls (.int 24 :: rest))) : W p l e R s m args below meth c H locs cells slots Q (F0 m pc ls (.ref (bd_ea E 20 w 0) :: rest)) := by
  obtain ⟨q, hq⟩ := bd_pos (f := 20) (w := w) (k := 0) ⟨by decide, hw, by decide⟩
  exact va_alen (D := bd_eD E) C.1.1 C.1.2.1 C.2.1 hR.P q 0 (bd_ws_at hq) rfl rfl hdg kk
theorem bd_ld_21 (C : bd_Cx E p m c cc nL s args own) (hR : bd_Rep E xm ym om H) (hw : w < 2) {j : Nat} (hj : j < 24) (hdg : decode cc pc = .ok (.iaload, 1)) (kk : W p l e R s m args below meth c H locs cells slots Q (F0 m (pc + 1) ls (.int (ym 21 w j) :: rest))) : W p l e R s m args below meth c H locs cells slots Q (F0 m pc ls (.int (nI j) :: .ref (bd_ea E 21 w 0) :: rest)) := by
  obtain ⟨q, hq⟩ := bd_pos (f := 21) (w := w) (k := 0) ⟨by decide, hw, by decide⟩
  refine va_iald (D := bd_eD E) C.1.1 C.1.2.1 C.2.1 hR.P q 0 (bd_ws_at hq) rfl (vp_in_nI hj (by decide)) hdg ?_
  rw [nI_clamp (Nat.lt_trans hj (by decide))]
  exact kk
theorem bd_st_21 (C : bd_Cx E p m c cc nL s args own) (hR : bd_Rep E xm ym om H) (hS : va_S (bd_A E) H0 H locs) (hw : w < 2) {j : Nat} (hj : j < 24) (hdg : decode cc pc = .ok (.iastore, 1)) {v : Int32} (kk : ∀ (H1 : Heap) (locs1 : List Loc), bd_Rep E xm (bd_up ym 21 w j v) om H1 → va_S (bd_A E) H0 H1 locs1 → W p l e R s m args below meth c H1 locs1 cells slots Q (F0 m (pc + 1) ls rest)) : W p l e R s m args below meth c H locs cells slots Q (F0 m pc ls (.int v :: .int (nI j) :: .ref (bd_ea E 21 w 0) :: rest)) := by
  obtain ⟨q, hq⟩ := bd_pos (f := 21) (w := w) (k := 0) ⟨by decide, hw, by decide⟩
  refine va_iast (D := bd_eD E) C.1.1 C.1.2.1 C.2.1 hR.P hR.D hS q 0 (bd_ws_at hq) rfl (vp_in_nI hj (by decide)) hdg (fun H1 locs1 hP _ hS1 => kk H1 locs1 (bd_back hR hq ?_ hP) hS1)
  rw [nI_clamp (Nat.lt_trans hj (by decide))]
  exact bd_upY (F := 21) (by simp only [bd_ce, bd_fmY]; simp [bd_ce]; funext z; simp [bd_up, upd]) rfl
theorem bd_al_21 (C : bd_Cx E p m c cc nL s args own) (hR : bd_Rep E xm ym om H) (hw : w < 2) (hdg : decode cc pc = .ok (.arraylength, 1)) (kk : W p l e R s m args below meth c H locs cells slots Q (F0 m (pc + 1) ls (.int 24 :: rest))) : W p l e R s m args below meth c H locs cells slots Q (F0 m pc ls (.ref (bd_ea E 21 w 0) :: rest)) := by
  obtain ⟨q, hq⟩ := bd_pos (f := 21) (w := w) (k := 0) ⟨by decide, hw, by decide⟩
  exact va_alen (D := bd_eD E) C.1.1 C.1.2.1 C.2.1 hR.P q 0 (bd_ws_at hq) rfl rfl hdg kk
theorem bd_ld_22 (C : bd_Cx E p m c cc nL s args own) (hR : bd_Rep E xm ym om H) (hw : w < 2) {j : Nat} (hj : j < 24) (hdg : decode cc pc = .ok (.iaload, 1)) (kk : W p l e R s m args below meth c H locs cells slots Q (F0 m (pc + 1) ls (.int (ym 22 w j) :: rest))) : W p l e R s m args below meth c H locs cells slots Q (F0 m pc ls (.int (nI j) :: .ref (bd_ea E 22 w 0) :: rest)) := by
  obtain ⟨q, hq⟩ := bd_pos (f := 22) (w := w) (k := 0) ⟨by decide, hw, by decide⟩
  refine va_iald (D := bd_eD E) C.1.1 C.1.2.1 C.2.1 hR.P q 0 (bd_ws_at hq) rfl (vp_in_nI hj (by decide)) hdg ?_
  rw [nI_clamp (Nat.lt_trans hj (by decide))]
  exact kk
theorem bd_st_22 (C : bd_Cx E p m c cc nL s args own) (hR : bd_Rep E xm ym om H) (hS : va_S (bd_A E) H0 H locs) (hw : w < 2) {j : Nat} (hj : j < 24) (hdg : decode cc pc = .ok (.iastore, 1)) {v : Int32} (kk : ∀ (H1 : Heap) (locs1 : List Loc), bd_Rep E xm (bd_up ym 22 w j v) om H1 → va_S (bd_A E) H0 H1 locs1 → W p l e R s m args below meth c H1 locs1 cells slots Q (F0 m (pc + 1) ls rest)) : W p l e R s m args below meth c H locs cells slots Q (F0 m pc ls (.int v :: .int (nI j) :: .ref (bd_ea E 22 w 0) :: rest)) := by
  obtain ⟨q, hq⟩ := bd_pos (f := 22) (w := w) (k := 0) ⟨by decide, hw, by decide⟩
  refine va_iast (D := bd_eD E) C.1.1 C.1.2.1 C.2.1 hR.P hR.D hS q 0 (bd_ws_at hq) rfl (vp_in_nI hj (by decide)) hdg (fun H1 locs1 hP _ hS1 => kk H1 locs1 (bd_back hR hq ?_ hP) hS1)
  rw [nI_clamp (Nat.lt_trans hj (by decide))]
  exact bd_upY (F := 22) (by simp only [bd_ce, bd_fmY]; simp [bd_ce]; funext z; simp [bd_up, upd]) rfl
theorem bd_al_22 (C : bd_Cx E p m c cc nL s args own) (hR : bd_Rep E xm ym om H) (hw : w < 2) (hdg : decode cc pc = .ok (.arraylength, 1)) (kk : W p l e R s m args below meth c H locs cells slots Q (F0 m (pc + 1) ls (.int 24 :: rest))) : W p l e R s m args below meth c H locs cells slots Q (F0 m pc ls (.ref (bd_ea E 22 w 0) :: rest)) := by
  obtain ⟨q, hq⟩ := bd_pos (f := 22) (w := w) (k := 0) ⟨by decide, hw, by decide⟩
  exact va_alen (D := bd_eD E) C.1.1 C.1.2.1 C.2.1 hR.P q 0 (bd_ws_at hq) rfl rfl hdg kk
theorem bd_ld_23 (C : bd_Cx E p m c cc nL s args own) (hR : bd_Rep E xm ym om H) (hw : w < 2) {j : Nat} (hj : j < 48) (hdg : decode cc pc = .ok (.iaload, 1)) (kk : W p l e R s m args below meth c H locs cells slots Q (F0 m (pc + 1) ls (.int (ym 23 w j) :: rest))) : W p l e R s m args below meth c H locs cells slots Q (F0 m pc ls (.int (nI j) :: .ref (bd_ea E 23 w 0) :: rest)) := by
  obtain ⟨q, hq⟩ := bd_pos (f := 23) (w := w) (k := 0) ⟨by decide, hw, by decide⟩
  refine va_iald (D := bd_eD E) C.1.1 C.1.2.1 C.2.1 hR.P q 0 (bd_ws_at hq) rfl (vp_in_nI hj (by decide)) hdg ?_
  rw [nI_clamp (Nat.lt_trans hj (by decide))]
  exact kk
theorem bd_st_23 (C : bd_Cx E p m c cc nL s args own) (hR : bd_Rep E xm ym om H) (hS : va_S (bd_A E) H0 H locs) (hw : w < 2) {j : Nat} (hj : j < 48) (hdg : decode cc pc = .ok (.iastore, 1)) {v : Int32} (kk : ∀ (H1 : Heap) (locs1 : List Loc), bd_Rep E xm (bd_up ym 23 w j v) om H1 → va_S (bd_A E) H0 H1 locs1 → W p l e R s m args below meth c H1 locs1 cells slots Q (F0 m (pc + 1) ls rest)) : W p l e R s m args below meth c H locs cells slots Q (F0 m pc ls (.int v :: .int (nI j) :: .ref (bd_ea E 23 w 0) :: rest)) := by
  obtain ⟨q, hq⟩ := bd_pos (f := 23) (w := w) (k := 0) ⟨by decide, hw, by decide⟩
  refine va_iast (D := bd_eD E) C.1.1 C.1.2.1 C.2.1 hR.P hR.D hS q 0 (bd_ws_at hq) rfl (vp_in_nI hj (by decide)) hdg (fun H1 locs1 hP _ hS1 => kk H1 locs1 (bd_back hR hq ?_ hP) hS1)
  rw [nI_clamp (Nat.lt_trans hj (by decide))]
  exact bd_upY (F := 23) (by simp only [bd_ce, bd_fmY]; simp [bd_ce]; funext z; simp [bd_up, upd]) rfl
theorem bd_al_23 (C : bd_Cx E p m c cc nL s args own) (hR : bd_Rep E xm ym om H) (hw : w < 2) (hdg : decode cc pc = .ok (.arraylength, 1)) (kk : W p l e R s m args below meth c H locs cells slots Q (F0 m (pc + 1) ls (.int 48 :: rest))) : W p l e R s m args below meth c H locs cells slots Q (F0 m pc ls (.ref (bd_ea E 23 w 0) :: rest)) := by
  obtain ⟨q, hq⟩ := bd_pos (f := 23) (w := w) (k := 0) ⟨by decide, hw, by decide⟩
  exact va_alen (D := bd_eD E) C.1.1 C.1.2.1 C.2.1 hR.P q 0 (bd_ws_at hq) rfl rfl hdg kk
theorem bd_ld_24 (C : bd_Cx E p m c cc nL s args own) (hR : bd_Rep E xm ym om H) (hw : w < 2) {j : Nat} (hj : j < 48) (hdg : decode cc pc = .ok (.iaload, 1)) (kk : W p l e R s m args below meth c H locs cells slots Q (F0 m (pc + 1) ls (.int (ym 24 w j) :: rest))) : W p l e R s m args below meth c H locs cells slots Q (F0 m pc ls (.int (nI j) :: .ref (bd_ea E 24 w 0) :: rest)) := by
  obtain ⟨q, hq⟩ := bd_pos (f := 24) (w := w) (k := 0) ⟨by decide, hw, by decide⟩
  refine va_iald (D := bd_eD E) C.1.1 C.1.2.1 C.2.1 hR.P q 0 (bd_ws_at hq) rfl (vp_in_nI hj (by decide)) hdg ?_
  rw [nI_clamp (Nat.lt_trans hj (by decide))]
  exact kk
theorem bd_st_24 (C : bd_Cx E p m c cc nL s args own) (hR : bd_Rep E xm ym om H) (hS : va_S (bd_A E) H0 H locs) (hw : w < 2) {j : Nat} (hj : j < 48) (hdg : decode cc pc = .ok (.iastore, 1)) {v : Int32} (kk : ∀ (H1 : Heap) (locs1 : List Loc), bd_Rep E xm (bd_up ym 24 w j v) om H1 → va_S (bd_A E) H0 H1 locs1 → W p l e R s m args below meth c H1 locs1 cells slots Q (F0 m (pc + 1) ls rest)) : W p l e R s m args below meth c H locs cells slots Q (F0 m pc ls (.int v :: .int (nI j) :: .ref (bd_ea E 24 w 0) :: rest)) := by
  obtain ⟨q, hq⟩ := bd_pos (f := 24) (w := w) (k := 0) ⟨by decide, hw, by decide⟩
  refine va_iast (D := bd_eD E) C.1.1 C.1.2.1 C.2.1 hR.P hR.D hS q 0 (bd_ws_at hq) rfl (vp_in_nI hj (by decide)) hdg (fun H1 locs1 hP _ hS1 => kk H1 locs1 (bd_back hR hq ?_ hP) hS1)
  rw [nI_clamp (Nat.lt_trans hj (by decide))]
  exact bd_upY (F := 24) (by simp only [bd_ce, bd_fmY]; simp [bd_ce]; funext z; simp [bd_up, upd]) rfl
theorem bd_al_24 (C : bd_Cx E p m c cc nL s args own) (hR : bd_Rep E xm ym om H) (hw : w < 2) (hdg : decode cc pc = .ok (.arraylength, 1)) (kk : W p l e R s m args below meth c H locs cells slots Q (F0 m (pc + 1) ls (.int 48 :: rest))) : W p l e R s m args below meth c H locs cells slots Q (F0 m pc ls (.ref (bd_ea E 24 w 0) :: rest)) := by
  obtain ⟨q, hq⟩ := bd_pos (f := 24) (w := w) (k := 0) ⟨by decide, hw, by decide⟩
  exact va_alen (D := bd_eD E) C.1.1 C.1.2.1 C.2.1 hR.P q 0 (bd_ws_at hq) rfl rfl hdg kk
theorem bd_ld_25 (C : bd_Cx E p m c cc nL s args own) (hR : bd_Rep E xm ym om H) (hw : w < 2) {j : Nat} (hj : j < 6) (hdg : decode cc pc = .ok (.iaload, 1)) (kk : W p l e R s m args below meth c H locs cells slots Q (F0 m (pc + 1) ls (.int (ym 25 w j) :: rest))) : W p l e R s m args below meth c H locs cells slots Q (F0 m pc ls (.int (nI j) :: .ref (bd_ea E 25 w 0) :: rest)) := by
  obtain ⟨q, hq⟩ := bd_pos (f := 25) (w := w) (k := 0) ⟨by decide, hw, by decide⟩
  refine va_iald (D := bd_eD E) C.1.1 C.1.2.1 C.2.1 hR.P q 0 (bd_ws_at hq) rfl (vp_in_nI hj (by decide)) hdg ?_
  rw [nI_clamp (Nat.lt_trans hj (by decide))]
  exact kk
theorem bd_st_25 (C : bd_Cx E p m c cc nL s args own) (hR : bd_Rep E xm ym om H) (hS : va_S (bd_A E) H0 H locs) (hw : w < 2) {j : Nat} (hj : j < 6) (hdg : decode cc pc = .ok (.iastore, 1)) {v : Int32} (kk : ∀ (H1 : Heap) (locs1 : List Loc), bd_Rep E xm (bd_up ym 25 w j v) om H1 → va_S (bd_A E) H0 H1 locs1 → W p l e R s m args below meth c H1 locs1 cells slots Q (F0 m (pc + 1) ls rest)) : W p l e R s m args below meth c H locs cells slots Q (F0 m pc ls (.int v :: .int (nI j) :: .ref (bd_ea E 25 w 0) :: rest)) := by
  obtain ⟨q, hq⟩ := bd_pos (f := 25) (w := w) (k := 0) ⟨by decide, hw, by decide⟩
  refine va_iast (D := bd_eD E) C.1.1 C.1.2.1 C.2.1 hR.P hR.D hS q 0 (bd_ws_at hq) rfl (vp_in_nI hj (by decide)) hdg (fun H1 locs1 hP _ hS1 => kk H1 locs1 (bd_back hR hq ?_ hP) hS1)
  rw [nI_clamp (Nat.lt_trans hj (by decide))]
  exact bd_upY (F := 25) (by simp only [bd_ce, bd_fmY]; simp [bd_ce]; funext z; simp [bd_up, upd]) rfl
theorem bd_al_25 (C : bd_Cx E p m c cc nL s args own) (hR : bd_Rep E xm ym om H) (hw : w < 2) (hdg : decode cc pc = .ok (.arraylength, 1)) (kk : W p l e R s m args below meth c H locs cells slots Q (F0 m (pc + 1) ls (.int 6 :: rest))) : W p l e R s m args below meth c H locs cells slots Q (F0 m pc ls (.ref (bd_ea E 25 w 0) :: rest)) := by
  obtain ⟨q, hq⟩ := bd_pos (f := 25) (w := w) (k := 0) ⟨by decide, hw, by decide⟩
  exact va_alen (D := bd_eD E) C.1.1 C.1.2.1 C.2.1 hR.P q 0 (bd_ws_at hq) rfl rfl hdg kk
theorem bd_ld_26 (C : bd_Cx E p m c cc nL s args own) (hR : bd_Rep E xm ym om H) (hw : w < 2) {j : Nat} (hj : j < 6) (hdg : decode cc pc = .ok (.iaload, 1)) (kk : W p l e R s m args below meth c H locs cells slots Q (F0 m (pc + 1) ls (.int (ym 26 w j) :: rest))) : W p l e R s m args below meth c H locs cells slots Q (F0 m pc ls (.int (nI j) :: .ref (bd_ea E 26 w 0) :: rest)) := by
  obtain ⟨q, hq⟩ := bd_pos (f := 26) (w := w) (k := 0) ⟨by decide, hw, by decide⟩
  refine va_iald (D := bd_eD E) C.1.1 C.1.2.1 C.2.1 hR.P q 0 (bd_ws_at hq) rfl (vp_in_nI hj (by decide)) hdg ?_
  rw [nI_clamp (Nat.lt_trans hj (by decide))]
  exact kk
theorem bd_st_26 (C : bd_Cx E p m c cc nL s args own) (hR : bd_Rep E xm ym om H) (hS : va_S (bd_A E) H0 H locs) (hw : w < 2) {j : Nat} (hj : j < 6) (hdg : decode cc pc = .ok (.iastore, 1)) {v : Int32} (kk : ∀ (H1 : Heap) (locs1 : List Loc), bd_Rep E xm (bd_up ym 26 w j v) om H1 → va_S (bd_A E) H0 H1 locs1 → W p l e R s m args below meth c H1 locs1 cells slots Q (F0 m (pc + 1) ls rest)) : W p l e R s m args below meth c H locs cells slots Q (F0 m pc ls (.int v :: .int (nI j) :: .ref (bd_ea E 26 w 0) :: rest)) := by
  obtain ⟨q, hq⟩ := bd_pos (f := 26) (w := w) (k := 0) ⟨by decide, hw, by decide⟩
  refine va_iast (D := bd_eD E) C.1.1 C.1.2.1 C.2.1 hR.P hR.D hS q 0 (bd_ws_at hq) rfl (vp_in_nI hj (by decide)) hdg (fun H1 locs1 hP _ hS1 => kk H1 locs1 (bd_back hR hq ?_ hP) hS1)
  rw [nI_clamp (Nat.lt_trans hj (by decide))]
  exact bd_upY (F := 26) (by simp only [bd_ce, bd_fmY]; simp [bd_ce]; funext z; simp [bd_up, upd]) rfl
theorem bd_al_26 (C : bd_Cx E p m c cc nL s args own) (hR : bd_Rep E xm ym om H) (hw : w < 2) (hdg : decode cc pc = .ok (.arraylength, 1)) (kk : W p l e R s m args below meth c H locs cells slots Q (F0 m (pc + 1) ls (.int 6 :: rest))) : W p l e R s m args below meth c H locs cells slots Q (F0 m pc ls (.ref (bd_ea E 26 w 0) :: rest)) := by
  obtain ⟨q, hq⟩ := bd_pos (f := 26) (w := w) (k := 0) ⟨by decide, hw, by decide⟩
  exact va_alen (D := bd_eD E) C.1.1 C.1.2.1 C.2.1 hR.P q 0 (bd_ws_at hq) rfl rfl hdg kk
theorem bd_ld_27 (C : bd_Cx E p m c cc nL s args own) (hR : bd_Rep E xm ym om H) (hw : w < 2) {j : Nat} (hj : j < 6) (hdg : decode cc pc = .ok (.iaload, 1)) (kk : W p l e R s m args below meth c H locs cells slots Q (F0 m (pc + 1) ls (.int (ym 27 w j) :: rest))) : W p l e R s m args below meth c H locs cells slots Q (F0 m pc ls (.int (nI j) :: .ref (bd_ea E 27 w 0) :: rest)) := by
  obtain ⟨q, hq⟩ := bd_pos (f := 27) (w := w) (k := 0) ⟨by decide, hw, by decide⟩
  refine va_iald (D := bd_eD E) C.1.1 C.1.2.1 C.2.1 hR.P q 0 (bd_ws_at hq) rfl (vp_in_nI hj (by decide)) hdg ?_
  rw [nI_clamp (Nat.lt_trans hj (by decide))]
  exact kk
theorem bd_st_27 (C : bd_Cx E p m c cc nL s args own) (hR : bd_Rep E xm ym om H) (hS : va_S (bd_A E) H0 H locs) (hw : w < 2) {j : Nat} (hj : j < 6) (hdg : decode cc pc = .ok (.iastore, 1)) {v : Int32} (kk : ∀ (H1 : Heap) (locs1 : List Loc), bd_Rep E xm (bd_up ym 27 w j v) om H1 → va_S (bd_A E) H0 H1 locs1 → W p l e R s m args below meth c H1 locs1 cells slots Q (F0 m (pc + 1) ls rest)) : W p l e R s m args below meth c H locs cells slots Q (F0 m pc ls (.int v :: .int (nI j) :: .ref (bd_ea E 27 w 0) :: rest)) := by
  obtain ⟨q, hq⟩ := bd_pos (f := 27) (w := w) (k := 0) ⟨by decide, hw, by decide⟩
  refine va_iast (D := bd_eD E) C.1.1 C.1.2.1 C.2.1 hR.P hR.D hS q 0 (bd_ws_at hq) rfl (vp_in_nI hj (by decide)) hdg (fun H1 locs1 hP _ hS1 => kk H1 locs1 (bd_back hR hq ?_ hP) hS1)
  rw [nI_clamp (Nat.lt_trans hj (by decide))]
  exact bd_upY (F := 27) (by simp only [bd_ce, bd_fmY]; simp [bd_ce]; funext z; simp [bd_up, upd]) rfl
theorem bd_al_27 (C : bd_Cx E p m c cc nL s args own) (hR : bd_Rep E xm ym om H) (hw : w < 2) (hdg : decode cc pc = .ok (.arraylength, 1)) (kk : W p l e R s m args below meth c H locs cells slots Q (F0 m (pc + 1) ls (.int 6 :: rest))) : W p l e R s m args below meth c H locs cells slots Q (F0 m pc ls (.ref (bd_ea E 27 w 0) :: rest)) := by
  obtain ⟨q, hq⟩ := bd_pos (f := 27) (w := w) (k := 0) ⟨by decide, hw, by decide⟩
  exact va_alen (D := bd_eD E) C.1.1 C.1.2.1 C.2.1 hR.P q 0 (bd_ws_at hq) rfl rfl hdg kk
theorem bd_ld_28 (C : bd_Cx E p m c cc nL s args own) (hR : bd_Rep E xm ym om H) (hw : w < 2) {j : Nat} (hj : j < 24) (hdg : decode cc pc = .ok (.iaload, 1)) (kk : W p l e R s m args below meth c H locs cells slots Q (F0 m (pc + 1) ls (.int (ym 28 w j) :: rest))) : W p l e R s m args below meth c H locs cells slots Q (F0 m pc ls (.int (nI j) :: .ref (bd_ea E 28 w 0) :: rest)) := by
  obtain ⟨q, hq⟩ := bd_pos (f := 28) (w := w) (k := 0) ⟨by decide, hw, by decide⟩
  refine va_iald (D := bd_eD E) C.1.1 C.1.2.1 C.2.1 hR.P q 0 (bd_ws_at hq) rfl (vp_in_nI hj (by decide)) hdg ?_
  rw [nI_clamp (Nat.lt_trans hj (by decide))]
  exact kk
theorem bd_st_28 (C : bd_Cx E p m c cc nL s args own) (hR : bd_Rep E xm ym om H) (hS : va_S (bd_A E) H0 H locs) (hw : w < 2) {j : Nat} (hj : j < 24) (hdg : decode cc pc = .ok (.iastore, 1)) {v : Int32} (kk : ∀ (H1 : Heap) (locs1 : List Loc), bd_Rep E xm (bd_up ym 28 w j v) om H1 → va_S (bd_A E) H0 H1 locs1 → W p l e R s m args below meth c H1 locs1 cells slots Q (F0 m (pc + 1) ls rest)) : W p l e R s m args below meth c H locs cells slots Q (F0 m pc ls (.int v :: .int (nI j) :: .ref (bd_ea E 28 w 0) :: rest)) := by
  obtain ⟨q, hq⟩ := bd_pos (f := 28) (w := w) (k := 0) ⟨by decide, hw, by decide⟩
  refine va_iast (D := bd_eD E) C.1.1 C.1.2.1 C.2.1 hR.P hR.D hS q 0 (bd_ws_at hq) rfl (vp_in_nI hj (by decide)) hdg (fun H1 locs1 hP _ hS1 => kk H1 locs1 (bd_back hR hq ?_ hP) hS1)
  rw [nI_clamp (Nat.lt_trans hj (by decide))]
  exact bd_upY (F := 28) (by simp only [bd_ce, bd_fmY]; simp [bd_ce]; funext z; simp [bd_up, upd]) rfl
theorem bd_al_28 (C : bd_Cx E p m c cc nL s args own) (hR : bd_Rep E xm ym om H) (hw : w < 2) (hdg : decode cc pc = .ok (.arraylength, 1)) (kk : W p l e R s m args below meth c H locs cells slots Q (F0 m (pc + 1) ls (.int 24 :: rest))) : W p l e R s m args below meth c H locs cells slots Q (F0 m pc ls (.ref (bd_ea E 28 w 0) :: rest)) := by
  obtain ⟨q, hq⟩ := bd_pos (f := 28) (w := w) (k := 0) ⟨by decide, hw, by decide⟩
  exact va_alen (D := bd_eD E) C.1.1 C.1.2.1 C.2.1 hR.P q 0 (bd_ws_at hq) rfl rfl hdg kk
theorem bd_ld_29 (C : bd_Cx E p m c cc nL s args own) (hR : bd_Rep E xm ym om H) (hw : w < 2) {j : Nat} (hj : j < 24) (hdg : decode cc pc = .ok (.iaload, 1)) (kk : W p l e R s m args below meth c H locs cells slots Q (F0 m (pc + 1) ls (.int (ym 29 w j) :: rest))) : W p l e R s m args below meth c H locs cells slots Q (F0 m pc ls (.int (nI j) :: .ref (bd_ea E 29 w 0) :: rest)) := by
  obtain ⟨q, hq⟩ := bd_pos (f := 29) (w := w) (k := 0) ⟨by decide, hw, by decide⟩
  refine va_iald (D := bd_eD E) C.1.1 C.1.2.1 C.2.1 hR.P q 0 (bd_ws_at hq) rfl (vp_in_nI hj (by decide)) hdg ?_
  rw [nI_clamp (Nat.lt_trans hj (by decide))]
  exact kk
theorem bd_st_29 (C : bd_Cx E p m c cc nL s args own) (hR : bd_Rep E xm ym om H) (hS : va_S (bd_A E) H0 H locs) (hw : w < 2) {j : Nat} (hj : j < 24) (hdg : decode cc pc = .ok (.iastore, 1)) {v : Int32} (kk : ∀ (H1 : Heap) (locs1 : List Loc), bd_Rep E xm (bd_up ym 29 w j v) om H1 → va_S (bd_A E) H0 H1 locs1 → W p l e R s m args below meth c H1 locs1 cells slots Q (F0 m (pc + 1) ls rest)) : W p l e R s m args below meth c H locs cells slots Q (F0 m pc ls (.int v :: .int (nI j) :: .ref (bd_ea E 29 w 0) :: rest)) := by
  obtain ⟨q, hq⟩ := bd_pos (f := 29) (w := w) (k := 0) ⟨by decide, hw, by decide⟩
  refine va_iast (D := bd_eD E) C.1.1 C.1.2.1 C.2.1 hR.P hR.D hS q 0 (bd_ws_at hq) rfl (vp_in_nI hj (by decide)) hdg (fun H1 locs1 hP _ hS1 => kk H1 locs1 (bd_back hR hq ?_ hP) hS1)
  rw [nI_clamp (Nat.lt_trans hj (by decide))]
  exact bd_upY (F := 29) (by simp only [bd_ce, bd_fmY]; simp [bd_ce]; funext z; simp [bd_up, upd]) rfl
theorem bd_al_29 (C : bd_Cx E p m c cc nL s args own) (hR : bd_Rep E xm ym om H) (hw : w < 2) (hdg : decode cc pc = .ok (.arraylength, 1)) (kk : W p l e R s m args below meth c H locs cells slots Q (F0 m (pc + 1) ls (.int 24 :: rest))) : W p l e R s m args below meth c H locs cells slots Q (F0 m pc ls (.ref (bd_ea E 29 w 0) :: rest)) := by
  obtain ⟨q, hq⟩ := bd_pos (f := 29) (w := w) (k := 0) ⟨by decide, hw, by decide⟩
  exact va_alen (D := bd_eD E) C.1.1 C.1.2.1 C.2.1 hR.P q 0 (bd_ws_at hq) rfl rfl hdg kk
theorem bd_ld_3 (C : bd_Cx E p m c cc nL s args own) (hR : bd_Rep E xm ym om H) (hw : w < 2) {j : Nat} (hj : j < 24) (hdg : decode cc pc = .ok (.aaload, 1)) (kk : W p l e R s m args below meth c H locs cells slots Q (F0 m (pc + 1) ls (.ref (bd_ea E 7 w j) :: rest))) : W p l e R s m args below meth c H locs cells slots Q (F0 m pc ls (.int (nI j) :: .ref (bd_ea E 3 w 0) :: rest)) := by
  obtain ⟨q, hq⟩ := bd_pos (f := 3) (w := w) (k := 0) ⟨by decide, hw, by decide⟩
  refine va_aldq (D := bd_eD E) C.1.1 C.1.2.1 C.2.1 hR.P q 1 (bd_ws_at hq) rfl (vp_in_nI hj (by decide)) hdg ?_
  rw [nI_clamp (Nat.lt_trans hj (by decide))]
  exact kk
theorem bd_ld_4 (C : bd_Cx E p m c cc nL s args own) (hR : bd_Rep E xm ym om H) (hw : w < 2) {j : Nat} (hj : j < 6) (hdg : decode cc pc = .ok (.aaload, 1)) (kk : W p l e R s m args below meth c H locs cells slots Q (F0 m (pc + 1) ls (.ref (bd_ea E 9 w j) :: rest))) : W p l e R s m args below meth c H locs cells slots Q (F0 m pc ls (.int (nI j) :: .ref (bd_ea E 4 w 0) :: rest)) := by
  obtain ⟨q, hq⟩ := bd_pos (f := 4) (w := w) (k := 0) ⟨by decide, hw, by decide⟩
  refine va_aldq (D := bd_eD E) C.1.1 C.1.2.1 C.2.1 hR.P q 2 (bd_ws_at hq) rfl (vp_in_nI hj (by decide)) hdg ?_
  rw [nI_clamp (Nat.lt_trans hj (by decide))]
  exact kk
theorem bd_ld_10 (C : bd_Cx E p m c cc nL s args own) (hR : bd_Rep E xm ym om H) (hw : w < 2) (hk : k < 6) {j : Nat} (hj : j < 8) (hdg : decode cc pc = .ok (.aaload, 1)) (kk : W p l e R s m args below meth c H locs cells slots Q (F0 m (pc + 1) ls (.ref (bd_ea E 11 w (8 * k + j)) :: rest))) : W p l e R s m args below meth c H locs cells slots Q (F0 m pc ls (.int (nI j) :: .ref (bd_ea E 10 w k) :: rest)) := by
  obtain ⟨q, hq⟩ := bd_pos (f := 10) (w := w) (k := k) ⟨by decide, hw, hk⟩
  refine va_aldq (D := bd_eD E) C.1.1 C.1.2.1 C.2.1 hR.P q 3 (bd_ws_at hq) rfl (vp_in_nI hj (by decide)) hdg ?_
  rw [nI_clamp (Nat.lt_trans hj (by decide))]
  exact kk
theorem bd_upO {E : bd_E} {xm ym : bd_M} {om om' : Nat → Int64} : bd_Up E xm ym om xm ym om' 30 0 0 (.inl (bd_eK E 4, 1, .inr (.inl om'))) := by
  refine ⟨rfl, fun f' w' k' hd hn => ?_⟩
  obtain ⟨h1, h2, h3⟩ := hd
  match f', h1, h2, h3, hn with
  | 0, _, _, _, _ => rfl
  | 1, _, _, _, _ => rfl
  | 2, _, _, _, _ => rfl
  | 3, _, _, _, _ => rfl
  | 4, _, _, _, _ => rfl
  | 5, _, _, _, _ => rfl
  | 6, _, _, _, _ => rfl
  | 7, _, _, _, _ => rfl
  | 8, _, _, _, _ => rfl
  | 9, _, _, _, _ => rfl
  | 10, _, _, _, _ => rfl
  | 11, _, _, _, _ => rfl
  | 12, _, _, _, _ => rfl
  | 13, _, _, _, _ => rfl
  | 14, _, _, _, _ => rfl
  | 15, _, _, _, _ => rfl
  | 16, _, _, _, _ => rfl
  | 17, _, _, _, _ => rfl
  | 18, _, _, _, _ => rfl
  | 19, _, _, _, _ => rfl
  | 20, _, _, _, _ => rfl
  | 21, _, _, _, _ => rfl
  | 22, _, _, _, _ => rfl
  | 23, _, _, _, _ => rfl
  | 24, _, _, _, _ => rfl
  | 25, _, _, _, _ => rfl
  | 26, _, _, _, _ => rfl
  | 27, _, _, _, _ => rfl
  | 28, _, _, _, _ => rfl
  | 29, _, _, _, _ => rfl
  | 30, _, h2, h3, hn => exact absurd ⟨rfl, Nat.lt_one_iff.mp h2, Nat.lt_one_iff.mp h3⟩ hn
  | n + 31, h1, _, _, _ => exact absurd h1 (by omega)
/-- the value on top of the stack is the place nI j -/
theorem bd_ti {x : Int32} {j : Nat} (h : x = nI j) (kk : W p l e R s m args below meth c H locs cells slots Q (F0 m pc ls (.int (nI j) :: rest))) : W p l e R s m args below meth c H locs cells slots Q (F0 m pc ls (.int x :: rest)) := by rw [h]; exact kk
theorem bd_ti2 {x : Int32} {y : Value} {j : Nat} (h : x = nI j) (kk : W p l e R s m args below meth c H locs cells slots Q (F0 m pc ls (y :: .int (nI j) :: rest))) : W p l e R s m args below meth c H locs cells slots Q (F0 m pc ls (y :: .int x :: rest)) := by rw [h]; exact kk
end BDR
end
section
theorem zz_dummy : True := trivial
end
