section
-- ===== PART A: goes FIRST, ahead of the names: the tables' words, and 'selects' of the private methods out of them =====
/-- a private method of a class that the tables say can be made, by its rows of tables_1 -/
def lw_okq (q : MethodName × Nat) : Prop := (q.1.cls ≠ "java/lang/invoke/MethodHandle" ∧ q.1.cls ≠ "java/lang/invoke/VarHandle") ∧ Cond.instantiable q.1.cls q.2 ∈ tables_1 ∧ Cond.privateMethod q.1 ∈ tables_1 ∧ Cond.instanceMethod q.1 ∈ tables_1
theorem lw_p0 : lw_okq (⟨"BandDay$Season", "withBand", "(JLBandDay$Band;)J"⟩, 9) := ⟨⟨by decide +kernel, by decide +kernel⟩, List.mem_of_getElem? (i := 26) (by decide +kernel), List.mem_of_getElem? (i := 259) (by decide +kernel), List.mem_of_getElem? (i := 260) (by decide +kernel)⟩
theorem lw_p1 : lw_okq (⟨"java/lang/Throwable", "fillInStackTrace", "(I)Ljava/lang/Throwable;"⟩, 6) := ⟨⟨by decide +kernel, by decide +kernel⟩, List.mem_of_getElem? (i := 322) (by decide +kernel), List.mem_of_getElem? (i := 320) (by decide +kernel), List.mem_of_getElem? (i := 321) (by decide +kernel)⟩
theorem lw_p2 : lw_okq (⟨"BandDay", "needChair", "(II)LBandDay$Chair;"⟩, 4) := ⟨⟨by decide +kernel, by decide +kernel⟩, List.mem_of_getElem? (i := 18) (by decide +kernel), List.mem_of_getElem? (i := 403) (by decide +kernel), List.mem_of_getElem? (i := 404) (by decide +kernel)⟩
theorem lw_p3 : lw_okq (⟨"BandDay", "needBand", "(I)LBandDay$Band;"⟩, 4) := ⟨⟨by decide +kernel, by decide +kernel⟩, List.mem_of_getElem? (i := 18) (by decide +kernel), List.mem_of_getElem? (i := 407) (by decide +kernel), List.mem_of_getElem? (i := 408) (by decide +kernel)⟩
theorem lw_p4 : lw_okq (⟨"BandDay", "needPlayer", "(I)LBandDay$Player;"⟩, 4) := ⟨⟨by decide +kernel, by decide +kernel⟩, List.mem_of_getElem? (i := 18) (by decide +kernel), List.mem_of_getElem? (i := 436) (by decide +kernel), List.mem_of_getElem? (i := 437) (by decide +kernel)⟩
theorem lw_p5 : lw_okq (⟨"BandDay$Contest", "forgetDeputies", "()V"⟩, 1) := ⟨⟨by decide +kernel, by decide +kernel⟩, List.mem_of_getElem? (i := 190) (by decide +kernel), List.mem_of_getElem? (i := 564) (by decide +kernel), List.mem_of_getElem? (i := 565) (by decide +kernel)⟩
theorem lw_p6 : lw_okq (⟨"BandDay$Contest", "bandInTurn", "(I)I"⟩, 1) := ⟨⟨by decide +kernel, by decide +kernel⟩, List.mem_of_getElem? (i := 190) (by decide +kernel), List.mem_of_getElem? (i := 568) (by decide +kernel), List.mem_of_getElem? (i := 569) (by decide +kernel)⟩
theorem lw_p7 : lw_okq (⟨"BandDay$Contest", "play", "(I)V"⟩, 1) := ⟨⟨by decide +kernel, by decide +kernel⟩, List.mem_of_getElem? (i := 190) (by decide +kernel), List.mem_of_getElem? (i := 572) (by decide +kernel), List.mem_of_getElem? (i := 573) (by decide +kernel)⟩
theorem lw_p8 : lw_okq (⟨"BandDay$Contest", "marksOnceSeated", "(LBandDay$Band;)I"⟩, 1) := ⟨⟨by decide +kernel, by decide +kernel⟩, List.mem_of_getElem? (i := 190) (by decide +kernel), List.mem_of_getElem? (i := 577) (by decide +kernel), List.mem_of_getElem? (i := 578) (by decide +kernel)⟩
theorem lw_p9 : lw_okq (⟨"BandDay$Contest", "seatMembers", "(LBandDay$Band;)V"⟩, 1) := ⟨⟨by decide +kernel, by decide +kernel⟩, List.mem_of_getElem? (i := 190) (by decide +kernel), List.mem_of_getElem? (i := 581) (by decide +kernel), List.mem_of_getElem? (i := 582) (by decide +kernel)⟩
theorem lw_p10 : lw_okq (⟨"BandDay$Contest", "seatDeputies", "(LBandDay$Band;)V"⟩, 1) := ⟨⟨by decide +kernel, by decide +kernel⟩, List.mem_of_getElem? (i := 190) (by decide +kernel), List.mem_of_getElem? (i := 587) (by decide +kernel), List.mem_of_getElem? (i := 588) (by decide +kernel)⟩
theorem lw_p11 : lw_okq (⟨"BandDay$Contest", "deputyFor", "(LBandDay$Chair;)I"⟩, 1) := ⟨⟨by decide +kernel, by decide +kernel⟩, List.mem_of_getElem? (i := 190) (by decide +kernel), List.mem_of_getElem? (i := 595) (by decide +kernel), List.mem_of_getElem? (i := 596) (by decide +kernel)⟩
theorem lw_p12 : lw_okq (⟨"BandDay$Contest", "isOut", "(LBandDay$Band;)Z"⟩, 1) := ⟨⟨by decide +kernel, by decide +kernel⟩, List.mem_of_getElem? (i := 190) (by decide +kernel), List.mem_of_getElem? (i := 604) (by decide +kernel), List.mem_of_getElem? (i := 605) (by decide +kernel)⟩
theorem lw_p13 : lw_okq (⟨"BandDay$Contest", "marksAsSeated", "(LBandDay$Band;)I"⟩, 1) := ⟨⟨by decide +kernel, by decide +kernel⟩, List.mem_of_getElem? (i := 190) (by decide +kernel), List.mem_of_getElem? (i := 616) (by decide +kernel), List.mem_of_getElem? (i := 617) (by decide +kernel)⟩
theorem lw_p14 : lw_okq (⟨"BandDay$Contest", "marksFor", "(LBandDay$Player;I)I"⟩, 1) := ⟨⟨by decide +kernel, by decide +kernel⟩, List.mem_of_getElem? (i := 190) (by decide +kernel), List.mem_of_getElem? (i := 620) (by decide +kernel), List.mem_of_getElem? (i := 621) (by decide +kernel)⟩
theorem lw_p15 : lw_okq (⟨"BandDay$Contest", "noteSittings", "(LBandDay$Band;)V"⟩, 1) := ⟨⟨by decide +kernel, by decide +kernel⟩, List.mem_of_getElem? (i := 190) (by decide +kernel), List.mem_of_getElem? (i := 642) (by decide +kernel), List.mem_of_getElem? (i := 643) (by decide +kernel)⟩
def lw_privs_1 : List (MethodName × Nat) := [(⟨"BandDay$Season", "withBand", "(JLBandDay$Band;)J"⟩, 9), (⟨"java/lang/Throwable", "fillInStackTrace", "(I)Ljava/lang/Throwable;"⟩, 6), (⟨"BandDay", "needChair", "(II)LBandDay$Chair;"⟩, 4), (⟨"BandDay", "needBand", "(I)LBandDay$Band;"⟩, 4), (⟨"BandDay", "needPlayer", "(I)LBandDay$Player;"⟩, 4), (⟨"BandDay$Contest", "forgetDeputies", "()V"⟩, 1), (⟨"BandDay$Contest", "bandInTurn", "(I)I"⟩, 1), (⟨"BandDay$Contest", "play", "(I)V"⟩, 1), (⟨"BandDay$Contest", "marksOnceSeated", "(LBandDay$Band;)I"⟩, 1), (⟨"BandDay$Contest", "seatMembers", "(LBandDay$Band;)V"⟩, 1), (⟨"BandDay$Contest", "seatDeputies", "(LBandDay$Band;)V"⟩, 1), (⟨"BandDay$Contest", "deputyFor", "(LBandDay$Chair;)I"⟩, 1), (⟨"BandDay$Contest", "isOut", "(LBandDay$Band;)Z"⟩, 1), (⟨"BandDay$Contest", "marksAsSeated", "(LBandDay$Band;)I"⟩, 1), (⟨"BandDay$Contest", "marksFor", "(LBandDay$Player;I)I"⟩, 1), (⟨"BandDay$Contest", "noteSittings", "(LBandDay$Band;)V"⟩, 1)]
theorem lw_r1 : ∀ q ∈ lw_privs_1, lw_okq q := List.forall_mem_cons.mpr ⟨lw_p0, List.forall_mem_cons.mpr ⟨lw_p1, List.forall_mem_cons.mpr ⟨lw_p2, List.forall_mem_cons.mpr ⟨lw_p3, List.forall_mem_cons.mpr ⟨lw_p4, List.forall_mem_cons.mpr ⟨lw_p5, List.forall_mem_cons.mpr ⟨lw_p6, List.forall_mem_cons.mpr ⟨lw_p7, List.forall_mem_cons.mpr ⟨lw_p8, List.forall_mem_cons.mpr ⟨lw_p9, List.forall_mem_cons.mpr ⟨lw_p10, List.forall_mem_cons.mpr ⟨lw_p11, List.forall_mem_cons.mpr ⟨lw_p12, List.forall_mem_cons.mpr ⟨lw_p13, List.forall_mem_cons.mpr ⟨lw_p14, List.forall_mem_cons.mpr ⟨lw_p15, fun _ h => absurd h List.not_mem_nil⟩⟩⟩⟩⟩⟩⟩⟩⟩⟩⟩⟩⟩⟩⟩⟩
theorem lw_p16 : lw_okq (⟨"BandDay$Contest", "moveLips", "()V"⟩, 1) := ⟨⟨by decide +kernel, by decide +kernel⟩, List.mem_of_getElem? (i := 190) (by decide +kernel), List.mem_of_getElem? (i := 647) (by decide +kernel), List.mem_of_getElem? (i := 648) (by decide +kernel)⟩
theorem lw_p17 : lw_okq (⟨"BandDay$Contest", "givePlaces", "()I"⟩, 1) := ⟨⟨by decide +kernel, by decide +kernel⟩, List.mem_of_getElem? (i := 190) (by decide +kernel), List.mem_of_getElem? (i := 657) (by decide +kernel), List.mem_of_getElem? (i := 658) (by decide +kernel)⟩
theorem lw_p18 : lw_okq (⟨"BandDay$Contest", "aheadByMarks", "(I)I"⟩, 1) := ⟨⟨by decide +kernel, by decide +kernel⟩, List.mem_of_getElem? (i := 190) (by decide +kernel), List.mem_of_getElem? (i := 661) (by decide +kernel), List.mem_of_getElem? (i := 662) (by decide +kernel)⟩
theorem lw_p19 : lw_okq (⟨"BandDay$Contest", "isAhead", "(II)Z"⟩, 1) := ⟨⟨by decide +kernel, by decide +kernel⟩, List.mem_of_getElem? (i := 190) (by decide +kernel), List.mem_of_getElem? (i := 665) (by decide +kernel), List.mem_of_getElem? (i := 666) (by decide +kernel)⟩
theorem lw_p20 : lw_okq (⟨"BandDay$Season", "aheadByPoints", "(I)I"⟩, 9) := ⟨⟨by decide +kernel, by decide +kernel⟩, List.mem_of_getElem? (i := 26) (by decide +kernel), List.mem_of_getElem? (i := 690) (by decide +kernel), List.mem_of_getElem? (i := 691) (by decide +kernel)⟩
theorem lw_p21 : lw_okq (⟨"BandDayModel", "no", "(I)I"⟩, 10) := ⟨⟨by decide +kernel, by decide +kernel⟩, List.mem_of_getElem? (i := 762) (by decide +kernel), List.mem_of_getElem? (i := 882) (by decide +kernel), List.mem_of_getElem? (i := 883) (by decide +kernel)⟩
theorem lw_p22 : lw_okq (⟨"BandDayModel", "isSeat", "(II)Z"⟩, 10) := ⟨⟨by decide +kernel, by decide +kernel⟩, List.mem_of_getElem? (i := 762) (by decide +kernel), List.mem_of_getElem? (i := 896) (by decide +kernel), List.mem_of_getElem? (i := 897) (by decide +kernel)⟩
theorem lw_p23 : lw_okq (⟨"BandDayModel", "isBand", "(I)Z"⟩, 10) := ⟨⟨by decide +kernel, by decide +kernel⟩, List.mem_of_getElem? (i := 762) (by decide +kernel), List.mem_of_getElem? (i := 900) (by decide +kernel), List.mem_of_getElem? (i := 901) (by decide +kernel)⟩
theorem lw_p24 : lw_okq (⟨"BandDayModel", "isPlayer", "(I)Z"⟩, 10) := ⟨⟨by decide +kernel, by decide +kernel⟩, List.mem_of_getElem? (i := 762) (by decide +kernel), List.mem_of_getElem? (i := 904) (by decide +kernel), List.mem_of_getElem? (i := 905) (by decide +kernel)⟩
theorem lw_p25 : lw_okq (⟨"BandDayModel", "playerTold", "(II)I"⟩, 10) := ⟨⟨by decide +kernel, by decide +kernel⟩, List.mem_of_getElem? (i := 762) (by decide +kernel), List.mem_of_getElem? (i := 940) (by decide +kernel), List.mem_of_getElem? (i := 941) (by decide +kernel)⟩
theorem lw_p26 : lw_okq (⟨"BandDayModel", "bandTold", "(II)I"⟩, 10) := ⟨⟨by decide +kernel, by decide +kernel⟩, List.mem_of_getElem? (i := 762) (by decide +kernel), List.mem_of_getElem? (i := 948) (by decide +kernel), List.mem_of_getElem? (i := 949) (by decide +kernel)⟩
theorem lw_p27 : lw_okq (⟨"BandDayModel", "chairTold", "(II)I"⟩, 10) := ⟨⟨by decide +kernel, by decide +kernel⟩, List.mem_of_getElem? (i := 762) (by decide +kernel), List.mem_of_getElem? (i := 960) (by decide +kernel), List.mem_of_getElem? (i := 961) (by decide +kernel)⟩
theorem lw_p28 : lw_okq (⟨"BandDayModel$State", "play", "(I)V"⟩, 15) := ⟨⟨by decide +kernel, by decide +kernel⟩, List.mem_of_getElem? (i := 768) (by decide +kernel), List.mem_of_getElem? (i := 972) (by decide +kernel), List.mem_of_getElem? (i := 973) (by decide +kernel)⟩
theorem lw_p29 : lw_okq (⟨"BandDayModel$State", "find", "(II)I"⟩, 15) := ⟨⟨by decide +kernel, by decide +kernel⟩, List.mem_of_getElem? (i := 768) (by decide +kernel), List.mem_of_getElem? (i := 976) (by decide +kernel), List.mem_of_getElem? (i := 977) (by decide +kernel)⟩
theorem lw_p30 : lw_okq (⟨"BandDayModel$State", "sits", "(II)Z"⟩, 15) := ⟨⟨by decide +kernel, by decide +kernel⟩, List.mem_of_getElem? (i := 768) (by decide +kernel), List.mem_of_getElem? (i := 980) (by decide +kernel), List.mem_of_getElem? (i := 981) (by decide +kernel)⟩
theorem lw_p31 : lw_okq (⟨"BandDayModel$State", "isAhead", "(II)Z"⟩, 15) := ⟨⟨by decide +kernel, by decide +kernel⟩, List.mem_of_getElem? (i := 768) (by decide +kernel), List.mem_of_getElem? (i := 987) (by decide +kernel), List.mem_of_getElem? (i := 988) (by decide +kernel)⟩
def lw_privs_2 : List (MethodName × Nat) := [(⟨"BandDay$Contest", "moveLips", "()V"⟩, 1), (⟨"BandDay$Contest", "givePlaces", "()I"⟩, 1), (⟨"BandDay$Contest", "aheadByMarks", "(I)I"⟩, 1), (⟨"BandDay$Contest", "isAhead", "(II)Z"⟩, 1), (⟨"BandDay$Season", "aheadByPoints", "(I)I"⟩, 9), (⟨"BandDayModel", "no", "(I)I"⟩, 10), (⟨"BandDayModel", "isSeat", "(II)Z"⟩, 10), (⟨"BandDayModel", "isBand", "(I)Z"⟩, 10), (⟨"BandDayModel", "isPlayer", "(I)Z"⟩, 10), (⟨"BandDayModel", "playerTold", "(II)I"⟩, 10), (⟨"BandDayModel", "bandTold", "(II)I"⟩, 10), (⟨"BandDayModel", "chairTold", "(II)I"⟩, 10), (⟨"BandDayModel$State", "play", "(I)V"⟩, 15), (⟨"BandDayModel$State", "find", "(II)I"⟩, 15), (⟨"BandDayModel$State", "sits", "(II)Z"⟩, 15), (⟨"BandDayModel$State", "isAhead", "(II)Z"⟩, 15)]
theorem lw_r2 : ∀ q ∈ lw_privs_2, lw_okq q := List.forall_mem_cons.mpr ⟨lw_p16, List.forall_mem_cons.mpr ⟨lw_p17, List.forall_mem_cons.mpr ⟨lw_p18, List.forall_mem_cons.mpr ⟨lw_p19, List.forall_mem_cons.mpr ⟨lw_p20, List.forall_mem_cons.mpr ⟨lw_p21, List.forall_mem_cons.mpr ⟨lw_p22, List.forall_mem_cons.mpr ⟨lw_p23, List.forall_mem_cons.mpr ⟨lw_p24, List.forall_mem_cons.mpr ⟨lw_p25, List.forall_mem_cons.mpr ⟨lw_p26, List.forall_mem_cons.mpr ⟨lw_p27, List.forall_mem_cons.mpr ⟨lw_p28, List.forall_mem_cons.mpr ⟨lw_p29, List.forall_mem_cons.mpr ⟨lw_p30, List.forall_mem_cons.mpr ⟨lw_p31, fun _ h => absurd h List.not_mem_nil⟩⟩⟩⟩⟩⟩⟩⟩⟩⟩⟩⟩⟩⟩⟩⟩
theorem lw_p32 : lw_okq (⟨"BandDayModel", "counted", "(I)I"⟩, 10) := ⟨⟨by decide +kernel, by decide +kernel⟩, List.mem_of_getElem? (i := 762) (by decide +kernel), List.mem_of_getElem? (i := 999) (by decide +kernel), List.mem_of_getElem? (i := 1000) (by decide +kernel)⟩
theorem lw_p33 : lw_okq (⟨"BandDayModel$State", "copy", "([I[I)V"⟩, 15) := ⟨⟨by decide +kernel, by decide +kernel⟩, List.mem_of_getElem? (i := 768) (by decide +kernel), List.mem_of_getElem? (i := 1011) (by decide +kernel), List.mem_of_getElem? (i := 1012) (by decide +kernel)⟩
def lw_privs_3 : List (MethodName × Nat) := [(⟨"BandDayModel", "counted", "(I)I"⟩, 10), (⟨"BandDayModel$State", "copy", "([I[I)V"⟩, 15)]
theorem lw_r3 : ∀ q ∈ lw_privs_3, lw_okq q := List.forall_mem_cons.mpr ⟨lw_p32, List.forall_mem_cons.mpr ⟨lw_p33, fun _ h => absurd h List.not_mem_nil⟩⟩
def lw_privs : List (MethodName × Nat) := lw_privs_1 ++ (lw_privs_2 ++ (lw_privs_3))
def lw_tbl : List Cond := k2_sels lw_privs ++ tables_1
theorem lw_privs_ok : ∀ q ∈ lw_privs, lw_okq q := by
  show ∀ q ∈ lw_privs_1 ++ (lw_privs_2 ++ (lw_privs_3)), lw_okq q
  exact List.forall_mem_append.mpr ⟨lw_r1, List.forall_mem_append.mpr ⟨lw_r2, lw_r3⟩⟩
/-- the streams that the claim lets the run draw from -/
abbrev lw_cs : List Choice := [Jvm.Choice.named "NaN.bits"]
theorem lw_bits : nanBits ∈ lw_cs := by first | decide | exact List.mem_cons_self | simp [lw_cs, nanBits]
end
section
/-! ===== BEGIN words of one list among another's, by their places ===== -/
theorem goodIn_r {big : List Cond} (ws : List Cond) (ps : List Nat) (hp : ws = ps.filterMap (fun i => big[i]?)) (h : ws.all goodWord = true) : GoodIn big ws := by
  intro w hw
  have h1 := List.all_eq_true.mp h w hw
  rw [hp] at hw
  obtain ⟨i, -, hi⟩ := List.mem_filterMap.mp hw
  have hm : w ∈ big := by first | exact List.mem_of_getElem? hi | exact List.getElem?_mem hi
  exact ⟨hm, good_of_word h1⟩
theorem goodIn_app {big a b : List Cond} (ha : GoodIn big a) (hb : GoodIn big b) : GoodIn big (a ++ b) := fun w h => (List.mem_append.mp h).elim (ha w) (hb w)
theorem goodIn_ca {big a b : List Cond} {c : Cond} (ha : GoodIn big (c :: a)) (hb : GoodIn big b) : GoodIn big (c :: (a ++ b)) := fun w h => (List.mem_cons.mp h).elim (fun e => ha w (List.mem_cons.mpr (Or.inl e))) (fun h => (List.mem_append.mp h).elim (fun h => ha w (List.mem_cons.mpr (Or.inr h))) (hb w))
theorem goodIn_sub {big ws : List Cond} (hm : ∀ w ∈ ws, w ∈ big) (h : ws.all goodWord = true) : GoodIn big ws := fun w hw => ⟨hm w hw, good_of_word (List.all_eq_true.mp h w hw)⟩
/-! ===== END ===== -/

/-! ===== BEGIN exceptions that leave a method, and their catching by the caller (launches without stack traces) ===== -/
section VXA
/-! The laws vx_back, vx_callV, vx_callS, vx_callSW, vx_throw0, vx_throwS follow proofs of the library, with one case more: JvmDerived/Free/Laws.lean (Back.of_free), Shelf42/LK1.lean (callV, callS), Shelf/KitTraced.lean (throwNew0V, throwNewS). -/
/-- where a method has thrown q: the class by its name, the cell, what was written, the world -/
def vx_T (XC : String → State → State → Prop) (st : State) (q : Addr) (t : State) (mc ms : Nat) (free : Addr → Prop) : Prop :=
  ∃ (E : String) (ce : Cell) (L : List Loc), XC E st t ∧ t.heap[q]? = some ce ∧ ce.vm = .none ∧ st.vm.findClass E = some ce.cls ∧ st.WarmedH t.vm ∧ st.sameButNew ({ t with vm := st.vm } : State) L mc ms ∧ ∀ z ∈ L, free z.base
def vx_Q (Qc : Array Value → State → Outcome → State → Prop) (XC : String → State → State → Prop) (mc ms : Nat) (free : Addr → Prop) : Array Value → State → Outcome → State → Prop := fun a st o t =>
  (Qc a st o t ∧ ∃ L, FrameEnd st o t L mc ms ∧ ∀ q ∈ L, free q.base) ∨ ∃ q, o = .threw q ∧ vx_T XC st q t mc ms free
/-- a callee that returns or throws -/
def vx_Met (l : Launch) (y : MethodName) (ws : List Cond) (rm : Room) (Pc : Array Value → State → Prop) (Qc : Array Value → State → Outcome → State → Prop) (XC : String → State → State → Prop) (mc ms : Nat) (free : Addr → Prop) : Prop :=
  MetFree l y (headSpec ws rm) Pc (fun _ _ _ _ _ => True) (vx_Q Qc XC mc ms free)
def vx_Post (XC : String → State → State → Prop) (mc ms : Nat) (free : Addr → Prop) : Pt → Array Value → Addr → Pt → Prop := fun A a q B =>
  ∃ (g : JFrame) (mk : MethodId) (t : State) (L : List Loc) (E : String) (ce : Cell), B.U.heap = t.heap ∧ B.U.vm = t.vm ∧ XC E (A.U.calling g mk a) t ∧ t.heap[q]? = some ce ∧ ce.vm = .none ∧ A.U.vm.findClass E = some ce.cls ∧ B.locs = A.locs ++ L ∧ (∀ z ∈ L, free z.base) ∧ B.cells = A.cells + mc ∧ B.slots = A.slots + ms
def vx_Back (l : Launch) (R : Room) (p : Program) (e : Env) (below : List Frame) (s : State) (sargs : Array Value) (y : MethodName) (len W9 : Nat)
    (Pre : Pt → Array Value → Prop) (Post : Pt → Array Value → Option Value → Pt → Prop) (PostX : Pt → Array Value → Addr → Pt → Prop) : Prop :=
  ∀ (m : MethodId) (meth : Method) (c : Code) (A : Pt) (g : JFrame) (ig : Instr) (mk : MethodId) (a : Array Value),
    Stand p l e R s m sargs below meth c A.U A.locs A.cells A.slots → g.method = m → g.locals.size = c.maxLocals → decode c.code g.pc = .ok (ig, len) →
    2 * g.monitorRoom + (g.stack.map fun v => v.category).sum ≤ W9 → A.U.methodNamed? y = some mk → Pre A a →
    (∃ (v : Option Value) (B : Pt), Stand p l e R s m sargs below meth c B.U B.locs B.cells B.slots ∧ Post A a v B ∧
      Steps p.tables e below (doInvoke e (A.U.setTop g) [] mk a).1 (B.U.setTop { g with pc := g.pc + len, stack := v.toList ++ g.stack })) ∨
    (∃ (q : Addr) (B : Pt), Stand p l e R s m sargs below meth c B.U B.locs B.cells B.slots ∧ PostX A a q B ∧
      Steps p.tables e below (doInvoke e (A.U.setTop g) [] mk a).1 ((B.U.setTop g).pushFrame (.throwing q)))
section Payer
variable {l : Launch} {R : Room} {p : Program} {e : Env} {below : List Frame} {s : State} {sargs : Array Value} {y : MethodName} {len W9 : Nat}
theorem vx_back {ws : List Cond} {rm : Room} {Pc : Array Value → State → Prop} {Qc : Array Value → State → Outcome → State → Prop} {XC : String → State → State → Prop} {mc ms : Nat} {free : Addr → Prop} {bytes : ByteArray} {maxL : Nat} {ret : Option FieldType}
    (hM : vx_Met l y ws rm Pc Qc XC mc ms free) (hblind : FrameBlind Pc) (hrc : rm.cells = mc) (hrs : rm.slots = ms)
    (hframes : rm.frames + 1 ≤ R.frames) (hlocals : W9 + (maxL + 11) + rm.locals ≤ R.locals)
    (hws : ∀ w ∈ ws, ∀ a' U, s.WarmedH U.vm → w.before a' U = true) (hcode : Cond.code y bytes maxL ret ∈ ws) (hinit : ∀ a' U, s.WarmedH U.vm → (Cond.initialized y.cls).before a' U = true) :
    vx_Back l R p e below s sargs y len W9 (PreOf R mc ms Pc) (PostOf Qc mc ms free) (vx_Post XC mc ms free) := by
  intro m meth c A g ig mk a X hg hsize hdg hW hn hp
  have h1 : (headSpec ws rm).pre.before a A.U = true := atoms_intro fun w hw => hws w hw _ _ X.warmed
  have h2 : (Cond.code y bytes maxL ret).before a A.U = true := hws _ hcode _ _ X.warmed
  have h3 : (Cond.initialized y.cls).before a A.U = true := hinit _ _ X.warmed
  have h4 : A.cells + (headSpec ws rm).room.cells ≤ R.cells := by rw [show (headSpec ws rm).room.cells = mc from hrc]; exact hp.1
  have h5 : A.slots + (headSpec ws rm).room.slots ≤ R.slots := by rw [show (headSpec ws rm).room.slots = ms from hrs]; exact hp.2.1
  have hPc : Pc a (A.U.calling g mk a) := hblind _ _ _ _ hp.2.2
  obtain ⟨U, Ls, c0, s0⟩ := A
  dsimp only [Pt.U, Pt.locs, Pt.cells, Pt.slots] at h1 h2 h3 h4 h5 X hn hPc ⊢
  obtain ⟨methY, cY, hmY, hcY, -, hlY, -, -, -, -⟩ := Cond.code_spec hn h2
  obtain ⟨kY, hkY, -⟩ := className_of_methodNamed hn
  have hinitY : kY.init = .initialized := Cond.initialized_spec (findClass_of_methodNamed hn) hkY h3
  have h : At U g.method c below := by rw [hg]; exact X.here
  have hlocals9 : W9 + (maxL + 11) + (headSpec ws rm).room.locals ≤ R.locals := hlocals
  have happ : (headSpec ws rm).appliesLoose y e.platform (U.calling g mk a) = true :=
    Spec.appliesLoose_calling (g := g) h hdg hn hkY hinitY
      (X.room_calling (g := g) (R' := (headSpec ws rm).room) hsize hmY hcY hframes (by rw [hlY]; omega) h4 h5) h1
  obtain ⟨mid, hmid⟩ := h.above
  have hfr : (U.setTop g).frames = (.java g :: mid) ++ below := by rw [State.frames_setTop' g h.top, hmid]; rfl
  obtain ⟨o, s₂, hsteps, -, hend, hq⟩ := Steps.callFree hM p X.admits X.cas X.clock (acts := []) hfr happ hPc trivial
  have hq' : vx_Q Qc XC mc ms free a (U.calling g mk a) o s₂ := hq
  rw [State.frames_setTop' g h.top] at hend
  obtain ⟨g₀, hg0⟩ := Option.isSome_iff_exists.mp h.top
  obtain ⟨r, hr⟩ := State.topJava?_eq_some.mp hg0
  have hr' : (({ U with heap := s₂.heap, slotsUsed := s₂.slotsUsed } : State).setVm s₂.vm).frames = .java g₀ :: r := hr
  rcases hq' with ⟨hqc, L, hfe, hL⟩ | ⟨q, rfl, E, ce, L, hx, hce, hcv, hcl, hW₂, hsm, hL⟩
  · obtain ⟨⟨v, rfl⟩, hW₂, e2, q2, q3, q4, q5, q6⟩ := id hfe
    have e3 : s₂ = ({ (U.calling g mk a).setFrames s₂.frames with heap := s₂.heap, slotsUsed := s₂.slotsUsed } : State).setVm s₂.vm := by
      have : s₂ = ({ s₂ with vm := (U.calling g mk a).vm } : State).setVm s₂.vm := rfl
      rw [e2] at this
      exact this
    obtain ⟨c₂, i₂, len₂, hc₂, hd₂, hf₂⟩ := hend
    have hW' : U.WarmedH s₂.vm := hW₂
    have hcc : c₂ = c := by
      have h1 : s₂.code? g.method = U.code? g.method := by
        rw [State.code?_eq, State.code?_eq, hW'.alike.method?]
      exact Option.some.inj (hc₂.symm.trans (h1.trans h.code))
    subst hcc
    have hlen : len₂ = len := by rw [hdg] at hd₂; cases hd₂; rfl
    subst hlen
    have hs₂ : s₂ = (({ U with heap := s₂.heap, slotsUsed := s₂.slotsUsed } : State).setVm s₂.vm).setTop { g with pc := g.pc + len₂, stack := v.toList ++ g.stack } := by
      refine e3.trans ?_
      rw [hf₂, State.calling_eq h.top, State.setFrames_setFrames, State.setTop_of_frames _ hr', hr]
      rfl
    have hsame : U.sameButNew ({ U with heap := s₂.heap, slotsUsed := s₂.slotsUsed } : State) L mc ms := by
      refine ⟨?_, q2, q3, q4, q5, q6⟩
      obtain ⟨t, ht, -⟩ := State.frames_cons hr
      show ({ U with heap := s₂.heap, slotsUsed := s₂.slotsUsed } : State) = { U.setFrames U.frames with heap := s₂.heap, slotsUsed := s₂.slotsUsed }
      rw [State.setFrames_self ht]
    subst hg
    refine Or.inl ⟨v, ⟨(({ U with heap := s₂.heap, slotsUsed := s₂.slotsUsed } : State).setVm s₂.vm), Ls ++ L, c0 + mc, s0 + ms⟩,
      ⟨X.admits, X.cas, X.clock, X.frames, X.room, X.hears, X.method, X.code, (X.here.setHeapUsed s₂.heap s₂.slotsUsed).setVm hW'.alike, X.tail, State.WarmedH.trans X.warmed hW', X.limits, X.bytes, X.same.trans (hsame.setVm s.vm)⟩,
      ⟨g, mk, s₂, L, rfl, rfl, hqc, rfl, hL, rfl, rfl⟩, ?_⟩
    show Steps p.tables e below _ ((({ U with heap := s₂.heap, slotsUsed := s₂.slotsUsed } : State).setVm s₂.vm).setTop { g with pc := g.pc + len₂, stack := v.toList ++ g.stack })
    rw [← hs₂]
    exact hsteps
  · obtain ⟨e2, q2, q3, q4, q5, q6⟩ := id hsm
    have e3 : s₂ = ({ (U.calling g mk a).setFrames s₂.frames with heap := s₂.heap, slotsUsed := s₂.slotsUsed } : State).setVm s₂.vm := by
      have : s₂ = ({ s₂ with vm := (U.calling g mk a).vm } : State).setVm s₂.vm := rfl
      rw [e2] at this
      exact this
    have hf₂ : s₂.frames = .throwing q :: .java g :: U.frames.tail := hend
    have hW' : U.WarmedH s₂.vm := hW₂
    have hs₂ : s₂ = ((({ U with heap := s₂.heap, slotsUsed := s₂.slotsUsed } : State).setVm s₂.vm).setTop g).pushFrame (.throwing q) := by
      refine e3.trans ?_
      rw [hf₂, State.calling_eq h.top, State.setFrames_setFrames, State.pushFrame, State.frames_setTop _ hr', State.setTop_of_frames _ hr', State.setFrames_setFrames, hr]
      rfl
    have hsame : U.sameButNew ({ U with heap := s₂.heap, slotsUsed := s₂.slotsUsed } : State) L mc ms := by
      refine ⟨?_, q2, q3, q4, q5, q6⟩
      obtain ⟨t, ht, -⟩ := State.frames_cons hr
      show ({ U with heap := s₂.heap, slotsUsed := s₂.slotsUsed } : State) = { U.setFrames U.frames with heap := s₂.heap, slotsUsed := s₂.slotsUsed }
      rw [State.setFrames_self ht]
    subst hg
    refine Or.inr ⟨q, ⟨(({ U with heap := s₂.heap, slotsUsed := s₂.slotsUsed } : State).setVm s₂.vm), Ls ++ L, c0 + mc, s0 + ms⟩,
      ⟨X.admits, X.cas, X.clock, X.frames, X.room, X.hears, X.method, X.code, (X.here.setHeapUsed s₂.heap s₂.slotsUsed).setVm hW'.alike, X.tail, State.WarmedH.trans X.warmed hW', X.limits, X.bytes, X.same.trans (hsame.setVm s.vm)⟩,
      ⟨g, mk, s₂, L, E, ce, rfl, rfl, hx, hce, hcv, hcl, rfl, hL, rfl, rfl⟩, ?_⟩
    show Steps p.tables e below _ (((({ U with heap := s₂.heap, slotsUsed := s₂.slotsUsed } : State).setVm s₂.vm).setTop g).pushFrame (.throwing q))
    rw [← hs₂]
    exact hsteps
end Payer
section Calls
variable {p : Program} {l : Launch} {e : Env} {R : Room} {s : State} {m : MethodId} {args : Array Value} {below : List Frame} {meth : Method} {c : Code} {T : State} {locs : List Loc} {cells slots : Nat}
theorem vx_callV (X : Stand p l e R s m args below meth c T locs cells slots) (hexec : p.tables.exec = Jvm.exec) {own C : String} {index : Nat} {y : MethodName} {bytes : ByteArray} {maxL : Nat} {ret : Option FieldType}
    (hown : s.vm.findClass own = some m.cls) (hlink : (Cond.methodLink own index y).before args s = true) (hinst : (Cond.instanceMethod y).before args s = true) (hsel : (Cond.selects C y y).before args s = true)
    (hcode : (Cond.code y bytes maxL ret).before args s = true) (hy : y.cls ≠ "java/lang/invoke/MethodHandle" ∧ y.cls ≠ "java/lang/invoke/VarHandle")
    {W9 : Nat} {Pre : Pt → Array Value → Prop} {Post : Pt → Array Value → Option Value → Pt → Prop} {PostX : Pt → Array Value → Addr → Pt → Prop} (hK : vx_Back l R p e below s args y 3 W9 Pre Post PostX)
    {b : Addr} {cellB : Cell} (hcell : T.heap[b]? = some cellB) (hobj : cellB.vm.isStatics = false) (hcls : s.vm.findClass C = some cellB.cls)
    {g : JFrame} (hg : g.method = m) (hsize : g.locals.size = c.maxLocals) {argsL rest : List Value} (hlen : ∀ sig, parseMethodDescriptor y.desc = some sig → argsL.length = sig.parameters.length)
    (hstack : g.stack = argsL.reverse ++ .ref b :: rest) (hW : 2 * g.monitorRoom + (rest.map fun v => v.category).sum ≤ W9) (hdg : decode c.code g.pc = .ok (.invokevirtual index, 3))
    (hpre : ∀ vm₁, s.WarmedH vm₁ → Pre ⟨T.setVm vm₁, locs, cells, slots⟩ (Value.ref b :: argsL).toArray) :
    (∃ (v : Option Value) (vm₁ : Vm) (B : Pt), s.WarmedH vm₁ ∧ Stand p l e R s m args below meth c B.U B.locs B.cells B.slots ∧ Post ⟨T.setVm vm₁, locs, cells, slots⟩ (Value.ref b :: argsL).toArray v B ∧
      ∀ target, Steps p.tables e below (B.U.setTop { g with pc := g.pc + 3, stack := v.toList ++ rest }) target → Steps p.tables e below (T.setTop g) target) ∨
    (∃ (q : Addr) (vm₁ : Vm) (B : Pt), s.WarmedH vm₁ ∧ Stand p l e R s m args below meth c B.U B.locs B.cells B.slots ∧ PostX ⟨T.setVm vm₁, locs, cells, slots⟩ (Value.ref b :: argsL).toArray q B ∧
      Steps p.tables e below (T.setTop g) ((B.U.setTop { g with stack := rest }).pushFrame (.throwing q))) := by
  obtain ⟨mk, methM, hnamed, hmethM, hstM, habM⟩ := Cond.instanceMethod_spec hinst
  obtain ⟨methM', cM, hmethM', -, -, -, -, -, -, hsigM⟩ := Cond.code_spec hnamed hcode
  cases hmethM.symm.trans hmethM'
  obtain ⟨c2, r2, m2, q1, q2, q3, q4, kP, hkP, hkPi⟩ := Cond.selects_spec hsel
  cases hcls.symm.trans q1
  cases (State.methodFound?_of_named hnamed hy).symm.trans q2
  cases hnamed.symm.trans q3
  have hselP : selectMethod e.platform s.vm cellB.cls mk = .method mk := by rw [Launch.admits_selectMethod X.admits]; exact q4
  obtain ⟨vm₁, X₁, hstep₁⟩ := X.invokevirtual hexec hown hlink hnamed hmethM hstM hkP hkPi hy (a := b) (cell := cellB) hcell
    (fun z h => by rw [h] at hobj; cases hobj) hselP hmethM habM hkP hkPi (g := g) hg (argsL := argsL) (rest := rest) (hlen _ hsigM) hstack hdg
  rcases hK m meth c ⟨T.setVm vm₁, locs, cells, slots⟩ { g with stack := rest } (.invokevirtual index) mk (Value.ref b :: argsL).toArray X₁ hg hsize hdg hW (X₁.named hnamed) (hpre vm₁ X₁.warmed) with ⟨v, B, X', hpost, hsteps⟩ | ⟨q, B, X', hpost, hsteps⟩
  · exact Or.inl ⟨v, vm₁, B, X₁.warmed, X', hpost, fun target h => hstep₁ _ fun acts => by rw [doInvoke_state]; exact hsteps.trans h⟩
  · exact Or.inr ⟨q, vm₁, B, X₁.warmed, X', hpost, hstep₁ _ fun acts => by rw [doInvoke_state]; exact hsteps⟩
theorem vx_callS (X : Stand p l e R s m args below meth c T locs cells slots) (hexec : p.tables.exec = Jvm.exec) {own : String} {index : Nat} {y : MethodName} {bytes : ByteArray} {maxL : Nat} {ret : Option FieldType}
    (hown : s.vm.findClass own = some m.cls) (hlink : (Cond.methodLink own index y).before args s = true) (hstat : (Cond.static y).before args s = true) (hinit : (Cond.initialized y.cls).before args s = true)
    (hcode : (Cond.code y bytes maxL ret).before args s = true) (hy : y.cls ≠ "java/lang/invoke/MethodHandle" ∧ y.cls ≠ "java/lang/invoke/VarHandle")
    {W9 : Nat} {Pre : Pt → Array Value → Prop} {Post : Pt → Array Value → Option Value → Pt → Prop} {PostX : Pt → Array Value → Addr → Pt → Prop} (hK : vx_Back l R p e below s args y 3 W9 Pre Post PostX)
    {g : JFrame} (hg : g.method = m) (hsize : g.locals.size = c.maxLocals) {argsL rest : List Value} (hlen : ∀ sig, parseMethodDescriptor y.desc = some sig → argsL.length = sig.parameters.length)
    (hstack : g.stack = argsL.reverse ++ rest) (hW : 2 * g.monitorRoom + (rest.map fun v => v.category).sum ≤ W9) (hdg : decode c.code g.pc = .ok (.invokestatic index, 3))
    (hpre : ∀ vm₁, s.WarmedH vm₁ → Pre ⟨T.setVm vm₁, locs, cells, slots⟩ argsL.toArray) :
    (∃ (v : Option Value) (vm₁ : Vm) (B : Pt), s.WarmedH vm₁ ∧ Stand p l e R s m args below meth c B.U B.locs B.cells B.slots ∧ Post ⟨T.setVm vm₁, locs, cells, slots⟩ argsL.toArray v B ∧
      ∀ target, Steps p.tables e below (B.U.setTop { g with pc := g.pc + 3, stack := v.toList ++ rest }) target → Steps p.tables e below (T.setTop g) target) ∨
    (∃ (q : Addr) (vm₁ : Vm) (B : Pt), s.WarmedH vm₁ ∧ Stand p l e R s m args below meth c B.U B.locs B.cells B.slots ∧ PostX ⟨T.setVm vm₁, locs, cells, slots⟩ argsL.toArray q B ∧
      Steps p.tables e below (T.setTop g) ((B.U.setTop { g with stack := rest }).pushFrame (.throwing q))) := by
  obtain ⟨mk, hnamed⟩ := Cond.code_named hcode
  obtain ⟨methM, cM, hmethM, -, -, -, -, -, -, hsigM⟩ := Cond.code_spec hnamed hcode
  have hstatic : methM.isStatic = true := Cond.static_spec hnamed hmethM hstat
  obtain ⟨kP, hkP, -⟩ := className_of_methodNamed hnamed
  have hinitP : kP.init = .initialized := Cond.initialized_spec (findClass_of_methodNamed hnamed) hkP hinit
  obtain ⟨vm₁, X₁, hstep₁⟩ := X.invokestatic hexec hown hlink hnamed hmethM hstatic hkP hinitP hy (g := g) hg (argsL := argsL) (rest := rest) (hlen _ hsigM) hstack hdg
  rcases hK m meth c ⟨T.setVm vm₁, locs, cells, slots⟩ { g with stack := rest } (.invokestatic index) mk argsL.toArray X₁ hg hsize hdg hW (X₁.named hnamed) (hpre vm₁ X₁.warmed) with ⟨v, B, X', hpost, hsteps⟩ | ⟨q, B, X', hpost, hsteps⟩
  · exact Or.inl ⟨v, vm₁, B, X₁.warmed, X', hpost, fun target h => hstep₁ _ fun acts => by rw [doInvoke_state]; exact hsteps.trans h⟩
  · exact Or.inr ⟨q, vm₁, B, X₁.warmed, X', hpost, hstep₁ _ fun acts => by rw [doInvoke_state]; exact hsteps⟩
end Calls
theorem vx_cls {s : State} {T : State} {vm₁ : Vm} {E : String} {k : ClassId} (hW : s.WarmedH vm₁) (h : (T.setVm vm₁).vm.findClass E = some k) : s.vm.findClass E = some k := by
  have h1 : vm₁.findClass E = some k := h
  rw [hW.alike.findClass] at h1
  exact h1
/-- the method's frame g, with q thrown over it -/
def vx_W (p : Program) (l : Launch) (e : Env) (R : Room) (s : State) (m : MethodId) (args : Array Value) (below : List Frame) (meth : Method) (c : Code) (H : Heap) (locs : List Loc) (cells slots : Nat) (Q : State → Prop) (g : JFrame) (q : Addr) : Prop :=
  ∀ T : State, T.heap = H → Stand p l e R s m args below meth c T locs cells slots → ∃ t, Steps p.tables e below ((T.setTop g).pushFrame (.throwing q)) t ∧ Q t
def vx_Run (p : Program) (l : Launch) (e : Env) (R : Room) (s : State) (m : MethodId) (args : Array Value) (below : List Frame) (meth : Method) (c : Code) (H : Heap) (locs : List Loc) (cells slots mc ms : Nat) (g : JFrame) (rest : List Value) (Qa : State → Outcome → State → Prop) (XC : String → State → State → Prop) (free : Addr → Prop) : Prop :=
  ∀ T : State, T.heap = H → Stand p l e R s m args below meth c T locs cells slots →
    (∃ (v : Option Value) (st₀ t T' : State) (L : List Loc), st₀.heap = H ∧ Stand p l e R s m args below meth c T' (locs ++ L) (cells + mc) (slots + ms) ∧ (∀ q ∈ L, free q.base) ∧ T'.heap = t.heap ∧ T'.vm = t.vm ∧ Qa st₀ (.returned v) t ∧
      Goes p e below T g T' { g with pc := g.pc + 3, stack := v.toList ++ rest }) ∨
    (∃ (q : Addr) (st₀ t T' : State) (L : List Loc) (E : String) (ce : Cell), st₀.heap = H ∧ Stand p l e R s m args below meth c T' (locs ++ L) (cells + mc) (slots + ms) ∧ (∀ z ∈ L, free z.base) ∧ T'.heap = t.heap ∧ T'.vm = t.vm ∧ XC E st₀ t ∧ t.heap[q]? = some ce ∧ ce.vm = .none ∧ s.vm.findClass E = some ce.cls ∧
      Steps p.tables e below (T.setTop g) ((T'.setTop { g with stack := rest }).pushFrame (.throwing q)))
def vx_X {S : Type} (px : S → Prop) (B : String → S → State → Prop) (A : Nat → Prop) : String → State → State → Prop := fun E st t => ∃ u : S, px u ∧ B E u t ∧ va_F A st t
section Runs
variable {p : Program} {l : Launch} {e : Env} {R : Room} {s : State} {m : MethodId} {args : Array Value} {below : List Frame} {meth : Method} {c : Code} {H : Heap} {locs : List Loc} {cells slots : Nat}
variable {y : MethodName} {bytes cc : ByteArray} {maxL nL mc ms n index : Nat} {ret : Option FieldType} {ws : List Cond} {rm : Room} {Pc : Array Value → State → Prop} {Qc : Array Value → State → Outcome → State → Prop} {XC : String → State → State → Prop} {free : Addr → Prop} {Ts : List Cond} {own C : String} {b : Addr} {As rest : List Value} {g : JFrame}
theorem vx_callBack (cb : CallB R s args own index y bytes maxL ret ws rm mc ms n) (hM : vx_Met l y ws rm Pc Qc XC mc ms free) (hbl : FrameBlind Pc) : vx_Back l R p e below s args y 3 8 (PreOf R mc ms Pc) (PostOf Qc mc ms free) (vx_Post XC mc ms free) := by
  obtain ⟨hrc, hrs, hfr, hlo, hws, hcw, -, hini, -⟩ := cb
  exact vx_back (bytes := bytes) (maxL := maxL) (ret := ret) hM hbl hrc hrs hfr hlo hws hcw (fun a' U hW => word_at hW (Or.inl (by first | rfl | simp [Cond.onTables, Cond.keeps, Cond.steady])) hini)
theorem vx_runV (S : CallFix p m c cc nL s args Ts own) (hM : vx_Met l y ws rm Pc Qc XC mc ms free) (cw : CallW R s args own C index y bytes maxL ret ws rm mc ms n) (hp : PreV s H C b Pc As)
    (hg : g.method = m) (hn : As.length = n) (hsize : g.locals.size = nL) (hstack : g.stack = As.reverse ++ .ref b :: rest) (hW : 2 * g.monitorRoom + (rest.map fun v => v.category).sum ≤ 8) (hdg : decode cc g.pc = .ok (.invokevirtual index, 3)) (hf : cells + mc ≤ R.cells ∧ slots + ms ≤ R.slots) :
    vx_Run p l e R s m args below meth c H locs cells slots mc ms g rest (Qc (Value.ref b :: As).toArray) XC free := by
  have hK : vx_Back l R p e below s args y 3 8 (PreOf R mc ms Pc) (PostOf Qc mc ms free) (vx_Post XC mc ms free) := vx_callBack cw.1 hM hp.1
  obtain ⟨⟨-, -, -, -, -, -, hcode, -, hy, hlen, hl⟩, hin, hse⟩ := cw
  obtain ⟨hx, hb, hml, ho, -⟩ := S
  obtain ⟨-, ⟨cellB, hcB, hoB, hclB⟩, hPc⟩ := hp
  intro T hT X
  rcases vx_callV X hx (C := C) (bytes := bytes) (maxL := maxL) (ret := ret) ho hl hin hse hcode hy hK (by rw [hT]; exact hcB) hoB hclB hg (hsize.trans hml.symm) (argsL := As) (rest := rest) (fun sig h => hn.trans (hlen sig h)) hstack hW (by rw [hb]; exact hdg)
    (fun vm₁ hW₁ => ⟨hf.1, hf.2, hPc (T.setVm vm₁) hT hW₁⟩) with ⟨v, vm₁, ⟨U', l2, c2, s2⟩, hW₁, X', ⟨g', mk, t, L, e1, e2, hq, h1, hL, h2, h3⟩, st⟩ | ⟨q, vm₁, ⟨U', l2, c2, s2⟩, hW₁, X', ⟨g', mk, t, L, E, ce, e1, e2, hq, hce, hcv, hcl, h1, hL, h2, h3⟩, st⟩
  · dsimp only [Pt.U, Pt.locs, Pt.cells, Pt.slots] at X' e1 e2 h1 h2 h3 st
    subst h1; subst h2; subst h3
    exact Or.inl ⟨v, (T.setVm vm₁).calling g' mk (Value.ref b :: As).toArray, t, U', L, hT, X', hL, e1, e2, hq, st⟩
  · dsimp only [Pt.U, Pt.locs, Pt.cells, Pt.slots] at X' e1 e2 h1 h2 h3 st hcl
    subst h1; subst h2; subst h3
    exact Or.inr ⟨q, (T.setVm vm₁).calling g' mk (Value.ref b :: As).toArray, t, U', L, E, ce, hT, X', hL, e1, e2, hq, hce, hcv, vx_cls hW₁ hcl, st⟩
theorem vx_runS (S : CallFix p m c cc nL s args Ts own) (hM : vx_Met l y ws rm Pc Qc XC mc ms free) (cw : CallB R s args own index y bytes maxL ret ws rm mc ms n ∧ (Cond.static y).before args s = true) (hp : PreS s H Pc As)
    (hg : g.method = m) (hn : As.length = n) (hsize : g.locals.size = nL) (hstack : g.stack = As.reverse ++ rest) (hW : 2 * g.monitorRoom + (rest.map fun v => v.category).sum ≤ 8) (hdg : decode cc g.pc = .ok (.invokestatic index, 3)) (hf : cells + mc ≤ R.cells ∧ slots + ms ≤ R.slots) :
    vx_Run p l e R s m args below meth c H locs cells slots mc ms g rest (Qc As.toArray) XC free := by
  have hK : vx_Back l R p e below s args y 3 8 (PreOf R mc ms Pc) (PostOf Qc mc ms free) (vx_Post XC mc ms free) := vx_callBack cw.1 hM hp.1
  obtain ⟨⟨-, -, -, -, -, -, hcode, hini, hy, hlen, hl⟩, hstt⟩ := cw
  obtain ⟨hx, hb, hml, ho, -⟩ := S
  intro T hT X
  rcases vx_callS X hx (bytes := bytes) (maxL := maxL) (ret := ret) ho hl hstt hini hcode hy hK hg (hsize.trans hml.symm) (argsL := As) (rest := rest) (fun sig h => hn.trans (hlen sig h)) hstack hW (by rw [hb]; exact hdg)
    (fun vm₁ hW₁ => ⟨hf.1, hf.2, hp.2 (T.setVm vm₁) hT hW₁⟩) with ⟨v, vm₁, ⟨U', l2, c2, s2⟩, hW₁, X', ⟨g', mk, t, L, e1, e2, hq, h1, hL, h2, h3⟩, st⟩ | ⟨q, vm₁, ⟨U', l2, c2, s2⟩, hW₁, X', ⟨g', mk, t, L, E, ce, e1, e2, hq, hce, hcv, hcl, h1, hL, h2, h3⟩, st⟩
  · dsimp only [Pt.U, Pt.locs, Pt.cells, Pt.slots] at X' e1 e2 h1 h2 h3 st
    subst h1; subst h2; subst h3
    exact Or.inl ⟨v, (T.setVm vm₁).calling g' mk As.toArray, t, U', L, hT, X', hL, e1, e2, hq, st⟩
  · dsimp only [Pt.U, Pt.locs, Pt.cells, Pt.slots] at X' e1 e2 h1 h2 h3 st hcl
    subst h1; subst h2; subst h3
    exact Or.inr ⟨q, (T.setVm vm₁).calling g' mk As.toArray, t, U', L, E, ce, hT, X', hL, e1, e2, hq, hce, hcv, vx_cls hW₁ hcl, st⟩
end Runs
section Rows
variable {p : Program} {l : Launch} {e : Env} {R : Room} {s : State} {m : MethodId} {args : Array Value} {below : List Frame} {meth : Method} {c : Code} {H : Heap} {locs : List Loc} {cells slots : Nat} {Q : State → Prop}
variable {mc ms : Nat} {free : Addr → Prop} {A0 A1 : Nat → Prop} {H0 : Heap} {a : Array Value} {pc : Nat} {ls : Array Slot} {st0 rest : List Value}
theorem vx_keep {st₀ t T' : State} {L : List Loc} (h0 : st₀.heap = H) (e1 : T'.heap = t.heap) (hS : va_S A0 H0 H locs) (hA : ∀ q, q < H.size → A1 q → A0 q) (hf : ∀ q, free q → A0 q) (hL : ∀ q ∈ L, free q.base) (hF : va_F A1 st₀ t) :
    H.size ≤ T'.heap.size ∧ (∀ q : Nat, q < H.size → ¬ A1 q → T'.heap[q]? = H[q]?) ∧ va_S A0 H0 T'.heap (locs ++ L) := by
  obtain ⟨hz, hk⟩ := hF
  rw [h0] at hz hk
  exact ⟨by rw [e1]; exact hz, fun q h1 h2 => by rw [e1]; exact hk q h1 h2,
    ⟨Nat.le_trans hS.1 (by rw [e1]; exact hz), fun q h1 h2 => by rw [e1, hk q (Nat.lt_of_lt_of_le h1 hS.1) (fun z => h2 (hA q (Nat.lt_of_lt_of_le h1 hS.1) z))]; exact hS.2.1 q h1 h2, fun q hq => by
      rcases List.mem_append.mp hq with h | h
      · exact hS.2.2 q h
      · exact hf _ (hL q h)⟩⟩
theorem vx_calli {S SX : Type} {post : Int32 → S → Prop} {px : SX → Prop} {B : S → State → Prop} {BX : String → SX → State → Prop} {AX : Nat → Prop} (hr : vx_Run p l e R s m args below meth c H locs cells slots mc ms (F0 m pc ls st0) rest (va_Qi post B A1 a) (vx_X px BX AX) free) (hS : va_S A0 H0 H locs) (hA : ∀ q, q < H.size → A1 q → A0 q) (hf : ∀ q, free q → A0 q) (hAX : ∀ q, q < H.size → AX q → A0 q)
    (kx : ∀ (E : String) (ce : Cell) (q9 : Addr) (u : SX) (t : State) (H1 : Heap) (locs1 : List Loc), t.heap = H1 → s.vm.Alike t.vm → px u → BX E u t → H.size ≤ H1.size → (∀ q : Nat, q < H.size → ¬ AX q → H1[q]? = H[q]?) → va_S A0 H0 H1 locs1 → H1[q9]? = some ce → ce.vm = .none → s.vm.findClass E = some ce.cls → vx_W p l e R s m args below meth c H1 locs1 (cells + mc) (slots + ms) Q (F0 m pc ls rest) q9)
    (kk : ∀ (r : Int32) (u : S) (t : State) (H1 : Heap) (locs1 : List Loc), t.heap = H1 → s.vm.Alike t.vm → post r u → B u t → H.size ≤ H1.size → (∀ q : Nat, q < H.size → ¬ A1 q → H1[q]? = H[q]?) → va_S A0 H0 H1 locs1 → W p l e R s m args below meth c H1 locs1 (cells + mc) (slots + ms) Q (F0 m (pc + 3) ls (.int r :: rest))) : W p l e R s m args below meth c H locs cells slots Q (F0 m pc ls st0) := by
  intro T hT X
  rcases hr T hT X with ⟨v, st₀, t, T', L, h0, X', hL, e1, e2, ⟨⟨r, u, hv, hp, hb⟩, hF⟩, st⟩ | ⟨q, st₀, t, T', L, E, ce, h0, X', hL, e1, e2, ⟨u, hp, hb, hF⟩, hce, hcv, hcl, st⟩
  · cases hv
    obtain ⟨k1, k2, k3⟩ := vx_keep h0 e1 hS hA hf hL hF
    obtain ⟨t2, a1, b1⟩ := kk r u t T'.heap (locs ++ L) e1.symm (by rw [← e2]; exact X'.warmed.alike) hp hb k1 k2 k3 T' rfl X'
    exact ⟨t2, st t2 a1, b1⟩
  · obtain ⟨k1, k2, k3⟩ := vx_keep h0 e1 hS hAX hf hL hF
    obtain ⟨t2, a1, b1⟩ := kx E ce q u t T'.heap (locs ++ L) e1.symm (by rw [← e2]; exact X'.warmed.alike) hp hb k1 k2 k3 (by rw [e1]; exact hce) hcv hcl T' rfl X'
    exact ⟨t2, st.trans a1, b1⟩
theorem vx_calll {S SX : Type} {post : Int64 → S → Prop} {px : SX → Prop} {B : S → State → Prop} {BX : String → SX → State → Prop} {AX : Nat → Prop} (hr : vx_Run p l e R s m args below meth c H locs cells slots mc ms (F0 m pc ls st0) rest (va_Ql post B A1 a) (vx_X px BX AX) free) (hS : va_S A0 H0 H locs) (hA : ∀ q, q < H.size → A1 q → A0 q) (hf : ∀ q, free q → A0 q) (hAX : ∀ q, q < H.size → AX q → A0 q)
    (kx : ∀ (E : String) (ce : Cell) (q9 : Addr) (u : SX) (t : State) (H1 : Heap) (locs1 : List Loc), t.heap = H1 → s.vm.Alike t.vm → px u → BX E u t → H.size ≤ H1.size → (∀ q : Nat, q < H.size → ¬ AX q → H1[q]? = H[q]?) → va_S A0 H0 H1 locs1 → H1[q9]? = some ce → ce.vm = .none → s.vm.findClass E = some ce.cls → vx_W p l e R s m args below meth c H1 locs1 (cells + mc) (slots + ms) Q (F0 m pc ls rest) q9)
    (kk : ∀ (r : Int64) (u : S) (t : State) (H1 : Heap) (locs1 : List Loc), t.heap = H1 → s.vm.Alike t.vm → post r u → B u t → H.size ≤ H1.size → (∀ q : Nat, q < H.size → ¬ A1 q → H1[q]? = H[q]?) → va_S A0 H0 H1 locs1 → W p l e R s m args below meth c H1 locs1 (cells + mc) (slots + ms) Q (F0 m (pc + 3) ls (.long r :: rest))) : W p l e R s m args below meth c H locs cells slots Q (F0 m pc ls st0) := by
  intro T hT X
  rcases hr T hT X with ⟨v, st₀, t, T', L, h0, X', hL, e1, e2, ⟨⟨r, u, hv, hp, hb⟩, hF⟩, st⟩ | ⟨q, st₀, t, T', L, E, ce, h0, X', hL, e1, e2, ⟨u, hp, hb, hF⟩, hce, hcv, hcl, st⟩
  · cases hv
    obtain ⟨k1, k2, k3⟩ := vx_keep h0 e1 hS hA hf hL hF
    obtain ⟨t2, a1, b1⟩ := kk r u t T'.heap (locs ++ L) e1.symm (by rw [← e2]; exact X'.warmed.alike) hp hb k1 k2 k3 T' rfl X'
    exact ⟨t2, st t2 a1, b1⟩
  · obtain ⟨k1, k2, k3⟩ := vx_keep h0 e1 hS hAX hf hL hF
    obtain ⟨t2, a1, b1⟩ := kx E ce q u t T'.heap (locs ++ L) e1.symm (by rw [← e2]; exact X'.warmed.alike) hp hb k1 k2 k3 (by rw [e1]; exact hce) hcv hcl T' rfl X'
    exact ⟨t2, st.trans a1, b1⟩
theorem vx_callf {S SX : Type} {post : UInt32 → S → Prop} {px : SX → Prop} {B : S → State → Prop} {BX : String → SX → State → Prop} {AX : Nat → Prop} (hr : vx_Run p l e R s m args below meth c H locs cells slots mc ms (F0 m pc ls st0) rest (va_Qf post B A1 a) (vx_X px BX AX) free) (hS : va_S A0 H0 H locs) (hA : ∀ q, q < H.size → A1 q → A0 q) (hf : ∀ q, free q → A0 q) (hAX : ∀ q, q < H.size → AX q → A0 q)
    (kx : ∀ (E : String) (ce : Cell) (q9 : Addr) (u : SX) (t : State) (H1 : Heap) (locs1 : List Loc), t.heap = H1 → s.vm.Alike t.vm → px u → BX E u t → H.size ≤ H1.size → (∀ q : Nat, q < H.size → ¬ AX q → H1[q]? = H[q]?) → va_S A0 H0 H1 locs1 → H1[q9]? = some ce → ce.vm = .none → s.vm.findClass E = some ce.cls → vx_W p l e R s m args below meth c H1 locs1 (cells + mc) (slots + ms) Q (F0 m pc ls rest) q9)
    (kk : ∀ (r : UInt32) (u : S) (t : State) (H1 : Heap) (locs1 : List Loc), t.heap = H1 → s.vm.Alike t.vm → post r u → B u t → H.size ≤ H1.size → (∀ q : Nat, q < H.size → ¬ A1 q → H1[q]? = H[q]?) → va_S A0 H0 H1 locs1 → W p l e R s m args below meth c H1 locs1 (cells + mc) (slots + ms) Q (F0 m (pc + 3) ls (.float r :: rest))) : W p l e R s m args below meth c H locs cells slots Q (F0 m pc ls st0) := by
  intro T hT X
  rcases hr T hT X with ⟨v, st₀, t, T', L, h0, X', hL, e1, e2, ⟨⟨r, u, hv, hp, hb⟩, hF⟩, st⟩ | ⟨q, st₀, t, T', L, E, ce, h0, X', hL, e1, e2, ⟨u, hp, hb, hF⟩, hce, hcv, hcl, st⟩
  · cases hv
    obtain ⟨k1, k2, k3⟩ := vx_keep h0 e1 hS hA hf hL hF
    obtain ⟨t2, a1, b1⟩ := kk r u t T'.heap (locs ++ L) e1.symm (by rw [← e2]; exact X'.warmed.alike) hp hb k1 k2 k3 T' rfl X'
    exact ⟨t2, st t2 a1, b1⟩
  · obtain ⟨k1, k2, k3⟩ := vx_keep h0 e1 hS hAX hf hL hF
    obtain ⟨t2, a1, b1⟩ := kx E ce q u t T'.heap (locs ++ L) e1.symm (by rw [← e2]; exact X'.warmed.alike) hp hb k1 k2 k3 (by rw [e1]; exact hce) hcv hcl T' rfl X'
    exact ⟨t2, st.trans a1, b1⟩
theorem vx_calld {S SX : Type} {post : UInt64 → S → Prop} {px : SX → Prop} {B : S → State → Prop} {BX : String → SX → State → Prop} {AX : Nat → Prop} (hr : vx_Run p l e R s m args below meth c H locs cells slots mc ms (F0 m pc ls st0) rest (va_Qd post B A1 a) (vx_X px BX AX) free) (hS : va_S A0 H0 H locs) (hA : ∀ q, q < H.size → A1 q → A0 q) (hf : ∀ q, free q → A0 q) (hAX : ∀ q, q < H.size → AX q → A0 q)
    (kx : ∀ (E : String) (ce : Cell) (q9 : Addr) (u : SX) (t : State) (H1 : Heap) (locs1 : List Loc), t.heap = H1 → s.vm.Alike t.vm → px u → BX E u t → H.size ≤ H1.size → (∀ q : Nat, q < H.size → ¬ AX q → H1[q]? = H[q]?) → va_S A0 H0 H1 locs1 → H1[q9]? = some ce → ce.vm = .none → s.vm.findClass E = some ce.cls → vx_W p l e R s m args below meth c H1 locs1 (cells + mc) (slots + ms) Q (F0 m pc ls rest) q9)
    (kk : ∀ (r : UInt64) (u : S) (t : State) (H1 : Heap) (locs1 : List Loc), t.heap = H1 → s.vm.Alike t.vm → post r u → B u t → H.size ≤ H1.size → (∀ q : Nat, q < H.size → ¬ A1 q → H1[q]? = H[q]?) → va_S A0 H0 H1 locs1 → W p l e R s m args below meth c H1 locs1 (cells + mc) (slots + ms) Q (F0 m (pc + 3) ls (.double r :: rest))) : W p l e R s m args below meth c H locs cells slots Q (F0 m pc ls st0) := by
  intro T hT X
  rcases hr T hT X with ⟨v, st₀, t, T', L, h0, X', hL, e1, e2, ⟨⟨r, u, hv, hp, hb⟩, hF⟩, st⟩ | ⟨q, st₀, t, T', L, E, ce, h0, X', hL, e1, e2, ⟨u, hp, hb, hF⟩, hce, hcv, hcl, st⟩
  · cases hv
    obtain ⟨k1, k2, k3⟩ := vx_keep h0 e1 hS hA hf hL hF
    obtain ⟨t2, a1, b1⟩ := kk r u t T'.heap (locs ++ L) e1.symm (by rw [← e2]; exact X'.warmed.alike) hp hb k1 k2 k3 T' rfl X'
    exact ⟨t2, st t2 a1, b1⟩
  · obtain ⟨k1, k2, k3⟩ := vx_keep h0 e1 hS hAX hf hL hF
    obtain ⟨t2, a1, b1⟩ := kx E ce q u t T'.heap (locs ++ L) e1.symm (by rw [← e2]; exact X'.warmed.alike) hp hb k1 k2 k3 (by rw [e1]; exact hce) hcv hcl T' rfl X'
    exact ⟨t2, st.trans a1, b1⟩
theorem vx_callv {S SX : Type} {post : S → Prop} {px : SX → Prop} {B : S → State → Prop} {BX : String → SX → State → Prop} {AX : Nat → Prop} (hr : vx_Run p l e R s m args below meth c H locs cells slots mc ms (F0 m pc ls st0) rest (va_Qv post B A1 a) (vx_X px BX AX) free) (hS : va_S A0 H0 H locs) (hA : ∀ q, q < H.size → A1 q → A0 q) (hf : ∀ q, free q → A0 q) (hAX : ∀ q, q < H.size → AX q → A0 q)
    (kx : ∀ (E : String) (ce : Cell) (q9 : Addr) (u : SX) (t : State) (H1 : Heap) (locs1 : List Loc), t.heap = H1 → s.vm.Alike t.vm → px u → BX E u t → H.size ≤ H1.size → (∀ q : Nat, q < H.size → ¬ AX q → H1[q]? = H[q]?) → va_S A0 H0 H1 locs1 → H1[q9]? = some ce → ce.vm = .none → s.vm.findClass E = some ce.cls → vx_W p l e R s m args below meth c H1 locs1 (cells + mc) (slots + ms) Q (F0 m pc ls rest) q9)
    (kk : ∀ (u : S) (t : State) (H1 : Heap) (locs1 : List Loc), t.heap = H1 → s.vm.Alike t.vm → post u → B u t → H.size ≤ H1.size → (∀ q : Nat, q < H.size → ¬ A1 q → H1[q]? = H[q]?) → va_S A0 H0 H1 locs1 → W p l e R s m args below meth c H1 locs1 (cells + mc) (slots + ms) Q (F0 m (pc + 3) ls (rest))) : W p l e R s m args below meth c H locs cells slots Q (F0 m pc ls st0) := by
  intro T hT X
  rcases hr T hT X with ⟨v, st₀, t, T', L, h0, X', hL, e1, e2, ⟨⟨u, hv, hp, hb⟩, hF⟩, st⟩ | ⟨q, st₀, t, T', L, E, ce, h0, X', hL, e1, e2, ⟨u, hp, hb, hF⟩, hce, hcv, hcl, st⟩
  · cases hv
    obtain ⟨k1, k2, k3⟩ := vx_keep h0 e1 hS hA hf hL hF
    obtain ⟨t2, a1, b1⟩ := kk u t T'.heap (locs ++ L) e1.symm (by rw [← e2]; exact X'.warmed.alike) hp hb k1 k2 k3 T' rfl X'
    exact ⟨t2, st t2 a1, b1⟩
  · obtain ⟨k1, k2, k3⟩ := vx_keep h0 e1 hS hAX hf hL hF
    obtain ⟨t2, a1, b1⟩ := kx E ce q u t T'.heap (locs ++ L) e1.symm (by rw [← e2]; exact X'.warmed.alike) hp hb k1 k2 k3 (by rw [e1]; exact hce) hcv hcl T' rfl X'
    exact ⟨t2, st.trans a1, b1⟩
/-- caught by the row x of this method's table; the rows ahead don't take it -/
theorem vx_catch {own name : String} {E : String} {ce : Cell} {q : Addr} (hown : s.vm.findClass own = some m.cls) (pre : List ExceptionTableEntry) (x : ExceptionTableEntry) (suf : List ExceptionTableEntry) (hsplit : c.exceptionTable.toList = pre ++ x :: suf)
    (hpass : ∀ z ∈ pre, covers z pc = false ∨ (z.catchType ≠ 0 ∧ ∃ nm : String, (Cond.classLink own z.catchType nm).before args s = true ∧ va_Nc E nm s)) (hx : covers x pc = true) (h0 : x.catchType ≠ 0)
    (hlink : (Cond.classLink own x.catchType name).before args s = true) (hcast : (Cond.castable E name).before args s = true) (hcell : H[q]? = some ce) (hv : ce.vm = .none) (hcl : s.vm.findClass E = some ce.cls)
    (kk : W p l e R s m args below meth c H locs cells slots Q (F0 m x.handlerPc ls [.ref q])) : vx_W p l e R s m args below meth c H locs cells slots Q (F0 m pc ls rest) q := by
  intro T hT X
  have hpl : e.platform.magicAccessors = ({} : Platform).magicAccessors := by rw [X.admits.platform]
  obtain ⟨c3, c4, hc3, hc4, hasg⟩ := Cond.castable_spec hcast
  cases Option.some.inj (hc3.symm.trans hcl)
  obtain ⟨c5, hc5, hcl5⟩ := Cond.classLink_spec hown hlink e.platform hpl
  cases Option.some.inj (hc4.symm.trans hc5)
  obtain ⟨vm', X', st⟩ := X.thenCaughtThrough q (g := F0 m pc ls rest) rfl (Steps.refl _) (by rw [hT]; exact hcell) (by rw [hv]; rfl) (by obtain ⟨k9, h9, -⟩ := Vm.findClass_spec hcl; exact ⟨k9, h9⟩) pre x suf hsplit
    (fun z hz => by
      rcases hpass z hz with h | ⟨hz0, nm, hl1, hn1⟩
      · exact Or.inl h
      · obtain ⟨c6, hc6, hcl6⟩ := Cond.classLink_spec hown hl1 e.platform hpl
        obtain ⟨a8, b8, h1, h2, h3⟩ := hn1
        cases Option.some.inj (h1.symm.trans hcl)
        cases Option.some.inj (h2.symm.trans hc6)
        exact Or.inr ⟨hz0, _, hcl6, h3⟩) hx (Or.inr ⟨h0, c4, hcl5, hasg⟩)
  obtain ⟨t, a1, b1⟩ := kk (T.setVm vm') hT X'
  exact ⟨t, st.trans a1, b1⟩
end Rows
section Ends
variable {p : Program} {l : Launch} {e : Env} {R : Room} {s : State} {m : MethodId} {args : Array Value} {below : List Frame} {meth : Method} {c : Code} {H : Heap} {locs : List Loc} {cells slots : Nat} {Q : State → Prop}
variable {mc ms : Nat} {free : Addr → Prop} {A0 A1 : Nat → Prop} {H0 : Heap} {a : Array Value} {ls : Array Slot} {st0 rest : List Value}
variable {Qc : Array Value → State → Outcome → State → Prop} {XC : String → State → State → Prop}
/-- what a body that may throw owes at its end -/
def vx_MQ (below : List Frame) (Qc : Array Value → State → Outcome → State → Prop) (XC : String → State → State → Prop) (a : Array Value) (s : State) (mc ms : Nat) (free : Addr → Prop) : State → Prop := fun t =>
  ∃ o, t.status = .running ∧ Ended t below o ∧ vx_Q Qc XC mc ms free a s o t
theorem vx_ret {g : JFrame} {mc ms : Nat} (k : W p l e R s m args below meth c H locs cells slots (MQ below Qc args s mc ms free) g) : W p l e R s m args below meth c H locs cells slots (vx_MQ below Qc XC args s mc ms free) g := by
  intro T hT X
  obtain ⟨t, a1, o, b1, b2, b3, b4⟩ := k T hT X
  exact ⟨t, a1, o, b1, b2, Or.inl ⟨b3, b4⟩⟩
/-- not caught here: it goes on to the caller -/
theorem vx_widen {g : JFrame} {q : Addr} {k n : Nat} (h1 : cells ≤ k) (h2 : slots ≤ n) (kk : vx_W p l e R s m args below meth c H locs k n Q g q) : vx_W p l e R s m args below meth c H locs cells slots Q g q := fun T hT X => kk T hT (stand_widen X h1 h2)
theorem vx_out {pc : Nat} {E : String} {ce : Cell} {q : Addr} {mc ms : Nat} (hout : ∀ x ∈ c.exceptionTable.toList, covers x pc = false) (hlocks : meth.locks = false) (hcell : H[q]? = some ce) (hv : ce.vm = .none) (hcl : s.vm.findClass E = some ce.cls)
    (hx : ∀ t : State, t.heap = H → s.vm.Alike t.vm → XC E s t) (hf : ∀ z ∈ locs, free z.base) (hc : cells ≤ mc) (hs : slots ≤ ms) :
    vx_W p l e R s m args below meth c H locs cells slots (vx_MQ below Qc XC args s mc ms free) (F0 m pc ls rest) q := by
  intro T hT X
  obtain ⟨st1, hrun, hend, hW, hsm⟩ := X.leaveThrown q (g := F0 m pc ls rest) rfl rfl rfl hout hlocks
  have hcell9 : (T.setFrames (.throwing q :: below)).heap[q]? = some ce := by
    show T.heap[q]? = some ce
    rw [hT]; exact hcell
  exact ⟨_, st1, .threw q, hrun, hend, Or.inr ⟨q, rfl, E, ce, locs, hx _ hT hW.alike, hcell9, hv, hcl, hW, hsm.mono hc hs, hf⟩⟩
theorem vx_frame {U : State} {k n : Nat} (h : s.sameButNew ({ U with vm := s.vm } : State) locs k n) : s.heap.size ≤ U.heap.size ∧ ∀ q : Nat, q < s.heap.size → (∀ z ∈ locs, z.base ≠ q) → U.heap[q]? = s.heap[q]? := by
  obtain ⟨-, h2, -, -, -, h6⟩ := h
  refine ⟨h2, fun q hq hz => ?_⟩
  obtain ⟨c9, e1, e2, e3, e4⟩ := h6 q _ (Array.getElem?_eq_getElem hq)
  have hs : c9.slots = (s.heap[q]).slots := Array.ext_getElem? fun i => e4 i fun hm => hz _ hm rfl
  have h9 : c9 = s.heap[q] := by
    rw [hs] at e2
    exact e2
  have e5 : U.heap[q]? = some c9 := e1
  rw [e5, h9, Array.getElem?_eq_getElem hq]
/-- the words of a throw but the four that speak of the heap -/
def vx_no (w : Cond) : Bool := decide (w ≠ .isRef (.static Bundle.tN "UNASSIGNED_STACK" Bundle.steD)) && decide (w ≠ .isRef (.static Bundle.tN "SUPPRESSED_SENTINEL" Bundle.listD)) && decide (w ≠ .laysStatic Bundle.tN "UNASSIGNED_STACK" Bundle.steD) && decide (w ≠ .laysStatic Bundle.tN "SUPPRESSED_SENTINEL" Bundle.listD)
def vx_at0 (own : String) (ic : Nat) (X : String) (names : List String) : List Cond := (Bundle.ownAtoms0 own ic X names).filter vx_no
def vx_atS (own : String) (ic : Nat) (X : String) (names : List String) : List Cond := (Bundle.ownAtoms own ic X names).filter vx_no
/-- a word that the tables alone decide, or a good one -/
def vx_ot (w : Cond) : Bool := w.onTables || goodWord w
theorem vx_ot_at {args a' : Array Value} {s U : State} {w : Cond} (hW : s.WarmedH U.vm) (hvm : s.vm = U.vm) (hg : vx_ot w = true) (h : w.before args s = true) : w.before a' U = true := by
  simp only [vx_ot, Bool.or_eq_true] at hg
  rcases hg with hg | hg
  · exact va_tabs hg hvm h
  · exact word_at hW (good_of_word hg) h
/-- a list's words: the good ones out of the method's own list, the others by premises of their own -/
theorem vx_hat {args : Array Value} {s : State} {L B : List Cond} (h1 : ∀ w ∈ L.filter goodWord, w.before args s = true) (h2 : ∀ w ∈ L.filter (fun w => !goodWord w), w ∈ B) (h3 : ∀ w ∈ B, w.before args s = true) : ∀ w ∈ L, w.before args s = true := by
  intro w hw
  by_cases g : goodWord w = true
  · exact h1 w (List.mem_filter.mpr ⟨hw, g⟩)
  · refine h3 w (h2 w (List.mem_filter.mpr ⟨hw, ?_⟩))
    show (!goodWord w) = true
    cases hgw : goodWord w
    · rfl
    · exact absurd hgw g
theorem vx_c {args : Array Value} {s : State} {w : Cond} {B : List Cond} (h : w.before args s = true) (t : ∀ w ∈ B, w.before args s = true) : ∀ w' ∈ w :: B, w'.before args s = true := fun w' h' => (List.mem_cons.mp h').elim (fun e => by rw [e]; exact h) (t w')
theorem vx_n {args : Array Value} {s : State} : ∀ w ∈ ([] : List Cond), w.before args s = true := fun _ h => nomatch h
theorem vx_own {args : Array Value} {s : State} {L : List Cond} (h1 : ∀ w ∈ L.filter vx_no, w.before args s = true)
    (hU : (Cond.isRef (.static Bundle.tN "UNASSIGNED_STACK" Bundle.steD)).before args s = true) (hN : (Cond.isRef (.static Bundle.tN "SUPPRESSED_SENTINEL" Bundle.listD)).before args s = true)
    (lU : (Cond.laysStatic Bundle.tN "UNASSIGNED_STACK" Bundle.steD).before args s = true) (lN : (Cond.laysStatic Bundle.tN "SUPPRESSED_SENTINEL" Bundle.listD).before args s = true) : ∀ w ∈ L, w.before args s = true := by
  intro w hw
  by_cases e1 : w = .isRef (.static Bundle.tN "UNASSIGNED_STACK" Bundle.steD)
  · rw [e1]; exact hU
  · by_cases e2 : w = .isRef (.static Bundle.tN "SUPPRESSED_SENTINEL" Bundle.listD)
    · rw [e2]; exact hN
    · by_cases e3 : w = .laysStatic Bundle.tN "UNASSIGNED_STACK" Bundle.steD
      · rw [e3]; exact lU
      · by_cases e4 : w = .laysStatic Bundle.tN "SUPPRESSED_SENTINEL" Bundle.listD
        · rw [e4]; exact lN
        · exact h1 w (List.mem_filter.mpr ⟨hw, by unfold vx_no; rw [decide_eq_true e1, decide_eq_true e2, decide_eq_true e3, decide_eq_true e4]; rfl⟩)
/-- where a static field lies, its class's statics cell in H -/
def vx_L (C n d : String) (A : Nat → Prop) (U : State) (H : Heap) : Prop := ∃ (c : ClassId) (k : Class) (i : Nat) (f : Field) (a : Nat) (cell : Cell), U.vm.findClass C = some c ∧ U.fieldFound? C n d = some (c, k, i, f) ∧ f.isStatic = true ∧ k.statics = some a ∧ H[a]? = some cell ∧ cell.vm.isStatics = true ∧ cell.cls = c ∧ f.slot < cell.slots.size ∧ k.staticTypes[f.slot]? = some f.type ∧ ¬ A a
theorem vx_L.moved {C n d : String} {A : Nat → Prop} {u U : State} {H : Heap} (hvm : u.vm.Alike U.vm) (h : vx_L C n d A u H) : vx_L C n d A U H := by
  obtain ⟨c, k, i, f, a, cell, h1, h2, h3, h4, h5, h6, h7, h8, h9, h10⟩ := h
  obtain ⟨k', hi', he⟩ := State.fieldFound?_setVm hvm h2
  exact ⟨c, k', i, f, a, cell, by rw [hvm.findClass]; exact h1, hi', h3, by rw [he]; exact h4, h5, h6, h7, h8, by rw [he]; exact h9, h10⟩
theorem vx_L.kept {C n d : String} {A : Nat → Prop} {U : State} {H H1 : Heap} (h : vx_L C n d A U H) (hq : ∀ a : Nat, a < H.size → ¬ A a → H1[a]? = H[a]?) : vx_L C n d A U H1 := by
  obtain ⟨c, k, i, f, a, cell, h1, h2, h3, h4, h5, h6, h7, h8, h9, h10⟩ := h
  exact ⟨c, k, i, f, a, cell, h1, h2, h3, h4, by rw [hq a (Array.getElem?_eq_some_iff.mp h5).1 h10]; exact h5, h6, h7, h8, h9, h10⟩
theorem vx_L.narrow {C n d : String} {A B : Nat → Prop} {U : State} {H : Heap} (h : vx_L C n d A U H) (hAB : ∀ q, B q → A q) : vx_L C n d B U H := by
  obtain ⟨c, k, i, f, a, cell, h1, h2, h3, h4, h5, h6, h7, h8, h9, h10⟩ := h
  exact ⟨c, k, i, f, a, cell, h1, h2, h3, h4, h5, h6, h7, h8, h9, fun z => h10 (hAB _ z)⟩
theorem vx_L.word {C n d : String} {A : Nat → Prop} {s : State} {args : Array Value} (h : vx_L C n d A s s.heap) : (Cond.laysStatic C n d).before args s = true := by
  obtain ⟨c, k, i, f, a, cell, h1, h2, h3, h4, h5, h6, h7, h8, h9, -⟩ := h
  show (Cond.laysStatic C n d).holds args s none s [] = true
  exact Cond.laysStatic_of h1 h2 h3 h4 h5 h6 h7 h8 h9
/-- .. and what it holds: null or some reference -/
def vx_Zq (C n d : String) (A : Nat → Prop) (U : State) (H : Heap) : Prop := va_Zq C n d A U H ∧ vx_L C n d A U H
theorem vx_Zq.moved {C n d : String} {A : Nat → Prop} {u U : State} {H : Heap} (hvm : u.vm.Alike U.vm) (h : vx_Zq C n d A u H) : vx_Zq C n d A U H := ⟨va_Zq.moved hvm h.1, vx_L.moved hvm h.2⟩
theorem vx_Zq.kept {C n d : String} {A : Nat → Prop} {U : State} {H H1 : Heap} (h : vx_Zq C n d A U H) (hq : ∀ a : Nat, a < H.size → ¬ A a → H1[a]? = H[a]?) : vx_Zq C n d A U H1 := ⟨va_Zq.kept h.1 hq, vx_L.kept h.2 hq⟩
theorem vx_Zq.narrow {C n d : String} {A B : Nat → Prop} {U : State} {H : Heap} (h : vx_Zq C n d A U H) (hAB : ∀ q, B q → A q) : vx_Zq C n d B U H := ⟨va_Zq.narrow h.1 hAB, vx_L.narrow h.2 hAB⟩
theorem vx_Zqof {args : Array Value} {s : State} {C n d : String} {A : Nat → Prop} (hl : (Cond.laysStatic C n d).before args s = true) (hini : (Cond.initialized C).before args s = true) (h : (Cond.isRef (.static C n d)).before args s = true) (hA : ∀ a : Nat, a < s.heap.size → ¬ A a) : vx_Zq C n d A s s.heap := by
  refine ⟨va_Zqof hl hini h hA, ?_⟩
  obtain ⟨c, k, i, f, a, cell, h1, h2, h3, h4, h5, h6, h7, h8, h9⟩ := Cond.laysStatic_spec hl
  exact ⟨c, k, i, f, a, cell, h1, h2, h3, h4, h5, h6, h7, h8, h9, hA a (Array.getElem?_eq_some_iff.mp h5).1⟩
theorem vx_isRef {C n d : String} {v : Value} {A : Nat → Prop} {s : State} {args : Array Value} (h : va_Z C n d v A s s.heap) (hv : v.isRef = true) : (Cond.isRef (.static C n d)).before args s = true := by
  obtain ⟨cf, kf, fi, f, a, cell, h1, h2, h3, h4, h5, h6, h7, -⟩ := h
  have he : (Term.static C n d).eval args s none [] s = some v := by
    simp [Term.eval, State.fieldNamed?, h1, h2, h4, h5, h6, h7]
  simp only [Cond.before, Cond.holds, Cond.value, he]
  cases v <;> simp_all [Value.isRef]
theorem vx_isRefq {C n d : String} {A : Nat → Prop} {s : State} {args : Array Value} (h : va_Zq C n d A s s.heap) : (Cond.isRef (.static C n d)).before args s = true := by
  rcases h with h | ⟨t, h⟩
  · exact vx_isRef h rfl
  · exact vx_isRef h rfl
/-- the same frame, seen from here: as if the method were called anew in this heap -/
theorem vx_rebase {T : State} (X : Stand p l e R s m args below meth c T locs cells slots) {R' : Room} (hf : R'.frames ≤ R.frames) (hl : R'.locals ≤ R.locals) (hc : cells + R'.cells ≤ R.cells) (hs : slots + R'.slots ≤ R.slots) :
    Stand p l e R' ((T.setVm s.vm).setFrames (.invoking m args :: below)) m args below meth c T [] 0 0 := by
  have htop : (T.setVm s.vm).topJava?.isSome := X.here.top
  have hF : ((T.setVm s.vm).setFrames (.invoking m args :: below)).frames = .invoking m args :: below := State.frames_setFrames _ (State.cur_lt_of_top htop)
  obtain ⟨g₀, hg0⟩ := Option.isSome_iff_exists.mp htop
  obtain ⟨r, hr⟩ := State.topJava?_eq_some.mp hg0
  have hl9 : e.platform.stackLimits (T.setVm s.vm).me = e.platform.stackLimits s.me := X.limits
  have hb9 : (T.setVm s.vm).me.stackBytes = s.me.stackBytes := X.bytes
  refine ⟨X.admits, X.cas, X.clock, hF, ?_, X.hears, X.method, X.code, X.here, X.tail, X.warmed, ?_, ?_, ?_⟩
  · have h := X.room
    have hU : ((T.setVm s.vm).setFrames (.invoking m args :: below)).localsInUse = s.localsInUse := by
      rw [State.localsInUse_invoking hF (meth := meth) (c := c) X.method X.code, State.localsInUse_invoking X.frames X.method X.code]
    simp only [State.hasRoom, Bool.and_eq_true, decide_eq_true_eq] at h ⊢
    obtain ⟨⟨⟨⟨h1, h2, h3, h4, h5, h6⟩, h7⟩, h8⟩, h9⟩ := h
    rw [X.frames, List.length_cons] at h2 h3
    have q1 := X.heapSize
    have q2 := X.used
    simp only [hF, hU, List.length_cons, State.stackLimits_setFrames, State.stackBytes_setFrames, hl9, hb9]
    refine ⟨⟨⟨⟨by omega, by omega, by omega, by omega, by omega, h6⟩, ?_⟩, ?_⟩, X.book⟩
    · show T.heap.size + R'.cells ≤ e.platform.maxCells
      omega
    · show T.slotsUsed + R'.slots ≤ e.platform.maxSlots
      omega
  · rw [State.stackLimits_setFrames]; rfl
  · rw [State.stackBytes_setFrames]; rfl
  · refine ⟨?_, Nat.le_refl _, Nat.le_refl _, ?_, ?_, fun a c9 h9 => ⟨c9, h9, rfl, rfl, fun _ _ => rfl⟩⟩
    · obtain ⟨t, ht, -⟩ := State.frames_cons hr
      show T.setVm s.vm = { ((T.setVm s.vm).setFrames (.invoking m args :: below)).setFrames (T.setVm s.vm).frames with heap := T.heap, slotsUsed := T.slotsUsed }
      rw [State.setFrames_setFrames, State.setFrames_self ht]
      rfl
    · show T.slotsUsed = T.slotsUsed + ((T.heap.toList.drop T.heap.size).map (·.slots.size)).sum
      rw [List.drop_eq_nil_of_le (Nat.le_of_eq Array.length_toList)]
      rfl
    · show ((T.heap.toList.drop T.heap.size).map (·.slots.size)).sum ≤ 0
      rw [List.drop_eq_nil_of_le (Nat.le_of_eq Array.length_toList)]
      exact Nat.le_refl _
/-- 'throw new E()': new; dup; invokespecial; athrow -/
theorem vx_throw0 {cc : ByteArray} {pc : Nat} (hexec : p.tables.exec = Jvm.exec) (hb : c.code = cc) (hl : l.stackTraces = false) {own cls : String} {names : List String} {ik ic mc ms : Nat} {A : Nat → Prop}
    (hown : s.vm.findClass own = some m.cls) (hcls : Bundle.fit cls = true) (hnames : ∀ n ∈ names, Bundle.fit n = true)
    (hk : (Cond.classLink own ik cls).before args s = true) (hini : (Cond.initialized cls).before args s = true) (hat : ∀ w ∈ vx_at0 own ic cls names, w.before args s = true)
    (hgood : ∀ w ∈ Cond.classLink own ik cls :: Cond.initialized cls :: vx_at0 own ic cls names, vx_ot w = true)
    (hU : vx_Zq Bundle.tN "UNASSIGNED_STACK" Bundle.steD A s s.heap) (hN : vx_Zq Bundle.tN "SUPPRESSED_SENTINEL" Bundle.listD A s s.heap) (hS : va_S A s.heap H locs) (hsize : ls.size = c.maxLocals)
    (d0 : decode cc pc = .ok (.new ik, 3)) (d3 : decode cc (pc + 3) = .ok (.dup, 1)) (d4 : decode cc (pc + 4) = .ok (.invokespecial ic, 3)) (d7 : decode cc (pc + 7) = .ok (.athrow, 1))
    (hout : ∀ x ∈ c.exceptionTable.toList, covers x (pc + 7) = false)
    (hRframes : names.length + 3 < R.frames) (hRlocals : (rest.map fun v => v.category).sum + (13 * (names.length + 1) + 42) ≤ R.locals) (hRcells : cells + 1 ≤ R.cells) (hRslots : slots + 6 ≤ R.slots) (hlocks : meth.locks = false)
    (hx : ∀ t : State, s.vm.Alike t.vm → H.size ≤ t.heap.size → (∀ q : Nat, q < H.size → t.heap[q]? = H[q]?) → XC cls s t)
    (hf : ∀ z ∈ locs, free z.base) (hc : cells + 1 ≤ mc) (hs : slots + 6 ≤ ms) :
    W p l e R s m args below meth c H locs cells slots (vx_MQ below Qc XC args s mc ms free) (F0 m pc ls rest) := by
  intro T hT X
  have htr : e.platform.stackTraces = false := (show e.platform.stackTraces = l.stackTraces by rw [X.admits.platform]).trans hl
  have Y := vx_rebase X (R' := { frames := R.frames, locals := R.locals, cells := 1, slots := 6 }) (Nat.le_refl _) (Nat.le_refl _) hRcells hRslots
  obtain ⟨s', hA⟩ : ∃ z, z = (T.setVm s.vm).setFrames (.invoking m args :: below) := ⟨_, rfl⟩
  rw [← hA] at Y
  have hvm : s'.vm = s.vm := by rw [hA]; rfl
  have hhp : s'.heap = H := by rw [hA]; exact hT
  have hW0 : s.WarmedH s'.vm := by rw [hvm]; exact State.WarmedH.refl s
  have hat' : ∀ w ∈ vx_at0 own ic cls names, w.before args s' = true := fun w hw => vx_ot_at hW0 hvm.symm (hgood w (List.mem_cons_of_mem _ (List.mem_cons_of_mem _ hw))) (hat w hw)
  have hk' : (Cond.classLink own ik cls).before args s' = true := vx_ot_at hW0 hvm.symm (hgood _ List.mem_cons_self) hk
  have hini' : (Cond.initialized cls).before args s' = true := vx_ot_at hW0 hvm.symm (hgood _ (List.mem_cons_of_mem _ List.mem_cons_self)) hini
  have hU' : vx_Zq Bundle.tN "UNASSIGNED_STACK" Bundle.steD A s' s'.heap := by rw [hhp]; exact vx_Zq.moved hW0.alike (hU.kept hS.2.1)
  have hN' : vx_Zq Bundle.tN "SUPPRESSED_SENTINEL" Bundle.listD A s' s'.heap := by rw [hhp]; exact vx_Zq.moved hW0.alike (hN.kept hS.2.1)
  have h : ∀ w ∈ Bundle.ownAtoms0 own ic cls names, w.before args s' = true := vx_own hat' (vx_isRefq hU'.1) (vx_isRefq hN'.1) hU'.2.word hN'.2.word
  have hown' : s'.vm.findClass own = some m.cls := by rw [hvm]; exact hown
  have hins : (Cond.instantiable cls 6).before args s' = true := h _ (by simp [Bundle.ownAtoms0])
  obtain ⟨vm₁, cX, kX, hfX, hkX, -, -, X₁, st1⟩ := Y.newCold hexec (own := own) (C := cls) (index := ik) (n := 6) hown' hk' hins hini'
    (g := F0 m pc ls rest) rfl (by rw [hb]; exact d0) (Nat.le_refl _) (Nat.le_refl _)
  generalize hT1 : (T.setVm vm₁).pushCell { cls := cX, slots := kX.instanceTypes.map defaultValue, vm := .none } = T1 at X₁ st1
  have hcat : (Value.ref T.heap.size).category = 1 := rfl
  have hcellA : T1.heap[T.heap.size]? = some (freshCell cX kX) := by rw [← hT1]; exact State.heap_pushCell_size _ _
  have d3' : decode c.code (pc + 3) = .ok (.dup, 1) := by rw [hb]; exact d3
  obtain ⟨U, hsteps, hrun, hend, hW, hsame, ce, hce, hO⟩ := X₁.ctorThrow0 hexec htr (own := own) (cls := cls) (names := names) (ic := ic) hown' hcls hnames h (fun x hx => nomatch hx) hfX hkX hcellA (by rw [hhp, hT]; exact Nat.le_refl _)
    (g := { method := m, pc := pc + 4, locals := ls, stack := .ref T.heap.size :: .ref T.heap.size :: rest, locked := none }) rfl hsize rfl rfl (rest := rest) rfl
    (by rw [hb]; exact d4) (by rw [hb]; exact d7) hout hRframes (by simp only [List.map_cons, List.sum_cons, hcat]; omega) hlocks
  obtain ⟨f1, f2⟩ := vx_frame hsame
  rw [hhp] at f1 f2
  have hWs : s.WarmedH U.vm := State.WarmedH.trans hW0 hW
  have hcl : s.vm.findClass cls = some ce.cls := by
    have h9 := hO.cls
    rw [hvm] at h9
    exact h9
  have hall : s.sameButNew ({ U with vm := s.vm } : State) locs mc ms := by
    subst hA
    obtain ⟨e1, e2⟩ := hsame
    rw [State.setFrames_setFrames] at e1
    have h2 : (T.setVm s.vm).sameButNew ({ U with vm := s.vm } : State) [] (0 + 1) (0 + 6) := ⟨e1, e2⟩
    have h3 := X.same.trans h2
    rw [List.append_nil] at h3
    exact h3.mono hc hs
  refine ⟨U, ?_, .threw T.heap.size, hrun, hend, Or.inr ⟨T.heap.size, rfl, cls, ce, locs, hx U hWs.alike f1 (fun q hq => f2 q hq (fun z hz => nomatch hz)), hce, hO.vm, hcl, hWs, hall, hf⟩⟩
  refine st1 _ ?_
  show Steps p.tables e below (T1.setTop { method := m, pc := pc + 3, locals := ls, stack := .ref T.heap.size :: rest, locked := none }) _
  jvm_step X₁.here [X₁.here.top, hexec, d3', Value.category]
  exact hsteps
/-- 'throw new E("text")': new; dup; ldc; invokespecial; athrow -/
theorem vx_throwS {cc : ByteArray} {pc : Nat} (hexec : p.tables.exec = Jvm.exec) (hb : c.code = cc) (hl : l.stackTraces = false) {own cls text : String} {names : List String} {ik is ic mc ms sa : Nat} {A : Nat → Prop}
    (hown : s.vm.findClass own = some m.cls) (hcls : Bundle.fit cls = true) (hnames : ∀ n ∈ names, Bundle.fit n = true)
    (hk : (Cond.classLink own ik cls).before args s = true) (hini : (Cond.initialized cls).before args s = true) (hstr : vk_R own is text sa s) (hat : ∀ w ∈ vx_atS own ic cls names, w.before args s = true)
    (hgood : ∀ w ∈ Cond.classLink own ik cls :: Cond.initialized cls :: vx_atS own ic cls names, vx_ot w = true)
    (hU : vx_Zq Bundle.tN "UNASSIGNED_STACK" Bundle.steD A s s.heap) (hN : vx_Zq Bundle.tN "SUPPRESSED_SENTINEL" Bundle.listD A s s.heap) (hS : va_S A s.heap H locs) (hsize : ls.size = c.maxLocals)
    (d0 : decode cc pc = .ok (.new ik, 3)) (d3 : decode cc (pc + 3) = .ok (.dup, 1)) (d4 : decode cc (pc + 4) = .ok (.ldc is, 2)) (d6 : decode cc (pc + 6) = .ok (.invokespecial ic, 3)) (d9 : decode cc (pc + 9) = .ok (.athrow, 1))
    (hout : ∀ x ∈ c.exceptionTable.toList, covers x (pc + 9) = false)
    (hRframes : names.length + 3 < R.frames) (hRlocals : (rest.map fun v => v.category).sum + (13 * (names.length + 1) + 43) ≤ R.locals) (hRcells : cells + 1 ≤ R.cells) (hRslots : slots + 6 ≤ R.slots) (hlocks : meth.locks = false)
    (hx : ∀ t : State, s.vm.Alike t.vm → H.size ≤ t.heap.size → (∀ q : Nat, q < H.size → t.heap[q]? = H[q]?) → XC cls s t)
    (hf : ∀ z ∈ locs, free z.base) (hc : cells + 1 ≤ mc) (hs : slots + 6 ≤ ms) :
    W p l e R s m args below meth c H locs cells slots (vx_MQ below Qc XC args s mc ms free) (F0 m pc ls rest) := by
  intro T hT X
  have htr : e.platform.stackTraces = false := (show e.platform.stackTraces = l.stackTraces by rw [X.admits.platform]).trans hl
  have Y := vx_rebase X (R' := { frames := R.frames, locals := R.locals, cells := 1, slots := 6 }) (Nat.le_refl _) (Nat.le_refl _) hRcells hRslots
  obtain ⟨s', hA⟩ : ∃ z, z = (T.setVm s.vm).setFrames (.invoking m args :: below) := ⟨_, rfl⟩
  rw [← hA] at Y
  have hvm : s'.vm = s.vm := by rw [hA]; rfl
  have hhp : s'.heap = H := by rw [hA]; exact hT
  have hW0 : s.WarmedH s'.vm := by rw [hvm]; exact State.WarmedH.refl s
  have hat' : ∀ w ∈ vx_atS own ic cls names, w.before args s' = true := fun w hw => vx_ot_at hW0 hvm.symm (hgood w (List.mem_cons_of_mem _ (List.mem_cons_of_mem _ hw))) (hat w hw)
  have hk' : (Cond.classLink own ik cls).before args s' = true := vx_ot_at hW0 hvm.symm (hgood _ List.mem_cons_self) hk
  have hini' : (Cond.initialized cls).before args s' = true := vx_ot_at hW0 hvm.symm (hgood _ (List.mem_cons_of_mem _ List.mem_cons_self)) hini
  have hU' : vx_Zq Bundle.tN "UNASSIGNED_STACK" Bundle.steD A s' s'.heap := by rw [hhp]; exact vx_Zq.moved hW0.alike (hU.kept hS.2.1)
  have hN' : vx_Zq Bundle.tN "SUPPRESSED_SENTINEL" Bundle.listD A s' s'.heap := by rw [hhp]; exact vx_Zq.moved hW0.alike (hN.kept hS.2.1)
  have h : ∀ w ∈ Bundle.ownAtoms own ic cls names, w.before args s' = true := vx_own hat' (vx_isRefq hU'.1) (vx_isRefq hN'.1) hU'.2.word hN'.2.word
  have hown' : s'.vm.findClass own = some m.cls := by rw [hvm]; exact hown
  have hins : (Cond.instantiable cls 6).before args s' = true := h _ (by simp [Bundle.ownAtoms])
  obtain ⟨vm₁, cX, kX, hfX, hkX, -, -, X₁, st1⟩ := Y.newCold hexec (own := own) (C := cls) (index := ik) (n := 6) hown' hk' hins hini'
    (g := F0 m pc ls rest) rfl (by rw [hb]; exact d0) (Nat.le_refl _) (Nat.le_refl _)
  generalize hT1 : (T.setVm vm₁).pushCell { cls := cX, slots := kX.instanceTypes.map defaultValue, vm := .none } = T1 at X₁ st1
  have hcat : (Value.ref T.heap.size).category = 1 := rfl
  have hcellA : T1.heap[T.heap.size]? = some (freshCell cX kX) := by rw [← hT1]; exact State.heap_pushCell_size _ _
  have d3' : decode c.code (pc + 3) = .ok (.dup, 1) := by rw [hb]; exact d3
  have d4' : decode c.code (pc + 4) = .ok (.ldc is, 2) := by rw [hb]; exact d4
  have hstr' : vk_R own is text sa s' := vk_R.warm hW0 hstr
  obtain ⟨U, hsteps, hrun, hend, hW, hsame, ce, hce, hO⟩ := X₁.ctorThrowS hexec htr (own := own) (cls := cls) (names := names) (ic := ic) hown' hcls hnames h (fun x hx => nomatch hx) hfX hkX hcellA (by rw [hhp, hT]; exact Nat.le_refl _) (msg := .ref sa) rfl
    (g := { method := m, pc := pc + 6, locals := ls, stack := .ref sa :: .ref T.heap.size :: .ref T.heap.size :: rest, locked := none }) rfl hsize rfl rfl (rest := rest) rfl
    (by rw [hb]; exact d6) (by rw [hb]; exact d9) hout hRframes (by simp only [List.map_cons, List.sum_cons, hcat]; omega) hlocks
  obtain ⟨f1, f2⟩ := vx_frame hsame
  rw [hhp] at f1 f2
  have hWs : s.WarmedH U.vm := State.WarmedH.trans hW0 hW
  have hcl : s.vm.findClass cls = some ce.cls := by
    have h9 := hO.cls
    rw [hvm] at h9
    exact h9
  have hall : s.sameButNew ({ U with vm := s.vm } : State) locs mc ms := by
    subst hA
    obtain ⟨e1, e2⟩ := hsame
    rw [State.setFrames_setFrames] at e1
    have h2 : (T.setVm s.vm).sameButNew ({ U with vm := s.vm } : State) [] (0 + 1) (0 + 6) := ⟨e1, e2⟩
    have h3 := X.same.trans h2
    rw [List.append_nil] at h3
    exact h3.mono hc hs
  refine ⟨U, ?_, .threw T.heap.size, hrun, hend, Or.inr ⟨T.heap.size, rfl, cls, ce, locs, hx U hWs.alike f1 (fun q hq => f2 q hq (fun z hz => nomatch hz)), hce, hO.vm, hcl, hWs, hall, hf⟩⟩
  refine st1 _ ?_
  show Steps p.tables e below (T1.setTop { method := m, pc := pc + 3, locals := ls, stack := .ref T.heap.size :: rest, locked := none }) _
  jvm_step X₁.here [X₁.here.top, hexec, d3', Value.category]
  exact X₁.ldcString hexec (own := own) (text := text) (index := is) (a := sa) hown' hstr'.1 hstr'.2
    (g := { method := m, pc := pc + 4, locals := ls, stack := .ref T.heap.size :: .ref T.heap.size :: rest, locked := none }) rfl d4' _ hsteps
/-- 'throw new E("text")', the text by a wide index -/
theorem vx_throwSW {cc : ByteArray} {pc : Nat} (hexec : p.tables.exec = Jvm.exec) (hb : c.code = cc) (hl : l.stackTraces = false) {own cls text : String} {names : List String} {ik is ic mc ms sa : Nat} {A : Nat → Prop}
    (hown : s.vm.findClass own = some m.cls) (hcls : Bundle.fit cls = true) (hnames : ∀ n ∈ names, Bundle.fit n = true)
    (hk : (Cond.classLink own ik cls).before args s = true) (hini : (Cond.initialized cls).before args s = true) (hstr : vk_R own is text sa s) (hat : ∀ w ∈ vx_atS own ic cls names, w.before args s = true)
    (hgood : ∀ w ∈ Cond.classLink own ik cls :: Cond.initialized cls :: vx_atS own ic cls names, vx_ot w = true)
    (hU : vx_Zq Bundle.tN "UNASSIGNED_STACK" Bundle.steD A s s.heap) (hN : vx_Zq Bundle.tN "SUPPRESSED_SENTINEL" Bundle.listD A s s.heap) (hS : va_S A s.heap H locs) (hsize : ls.size = c.maxLocals)
    (d0 : decode cc pc = .ok (.new ik, 3)) (d3 : decode cc (pc + 3) = .ok (.dup, 1)) (d4 : decode cc (pc + 4) = .ok (.ldc_w is, 3)) (d7 : decode cc (pc + 7) = .ok (.invokespecial ic, 3)) (d10 : decode cc (pc + 10) = .ok (.athrow, 1))
    (hout : ∀ x ∈ c.exceptionTable.toList, covers x (pc + 10) = false)
    (hRframes : names.length + 3 < R.frames) (hRlocals : (rest.map fun v => v.category).sum + (13 * (names.length + 1) + 43) ≤ R.locals) (hRcells : cells + 1 ≤ R.cells) (hRslots : slots + 6 ≤ R.slots) (hlocks : meth.locks = false)
    (hx : ∀ t : State, s.vm.Alike t.vm → H.size ≤ t.heap.size → (∀ q : Nat, q < H.size → t.heap[q]? = H[q]?) → XC cls s t)
    (hf : ∀ z ∈ locs, free z.base) (hc : cells + 1 ≤ mc) (hs : slots + 6 ≤ ms) :
    W p l e R s m args below meth c H locs cells slots (vx_MQ below Qc XC args s mc ms free) (F0 m pc ls rest) := by
  intro T hT X
  have htr : e.platform.stackTraces = false := (show e.platform.stackTraces = l.stackTraces by rw [X.admits.platform]).trans hl
  have Y := vx_rebase X (R' := { frames := R.frames, locals := R.locals, cells := 1, slots := 6 }) (Nat.le_refl _) (Nat.le_refl _) hRcells hRslots
  obtain ⟨s', hA⟩ : ∃ z, z = (T.setVm s.vm).setFrames (.invoking m args :: below) := ⟨_, rfl⟩
  rw [← hA] at Y
  have hvm : s'.vm = s.vm := by rw [hA]; rfl
  have hhp : s'.heap = H := by rw [hA]; exact hT
  have hW0 : s.WarmedH s'.vm := by rw [hvm]; exact State.WarmedH.refl s
  have hat' : ∀ w ∈ vx_atS own ic cls names, w.before args s' = true := fun w hw => vx_ot_at hW0 hvm.symm (hgood w (List.mem_cons_of_mem _ (List.mem_cons_of_mem _ hw))) (hat w hw)
  have hk' : (Cond.classLink own ik cls).before args s' = true := vx_ot_at hW0 hvm.symm (hgood _ List.mem_cons_self) hk
  have hini' : (Cond.initialized cls).before args s' = true := vx_ot_at hW0 hvm.symm (hgood _ (List.mem_cons_of_mem _ List.mem_cons_self)) hini
  have hU' : vx_Zq Bundle.tN "UNASSIGNED_STACK" Bundle.steD A s' s'.heap := by rw [hhp]; exact vx_Zq.moved hW0.alike (hU.kept hS.2.1)
  have hN' : vx_Zq Bundle.tN "SUPPRESSED_SENTINEL" Bundle.listD A s' s'.heap := by rw [hhp]; exact vx_Zq.moved hW0.alike (hN.kept hS.2.1)
  have h : ∀ w ∈ Bundle.ownAtoms own ic cls names, w.before args s' = true := vx_own hat' (vx_isRefq hU'.1) (vx_isRefq hN'.1) hU'.2.word hN'.2.word
  have hown' : s'.vm.findClass own = some m.cls := by rw [hvm]; exact hown
  have hins : (Cond.instantiable cls 6).before args s' = true := h _ (by simp [Bundle.ownAtoms])
  obtain ⟨vm₁, cX, kX, hfX, hkX, -, -, X₁, st1⟩ := Y.newCold hexec (own := own) (C := cls) (index := ik) (n := 6) hown' hk' hins hini'
    (g := F0 m pc ls rest) rfl (by rw [hb]; exact d0) (Nat.le_refl _) (Nat.le_refl _)
  generalize hT1 : (T.setVm vm₁).pushCell { cls := cX, slots := kX.instanceTypes.map defaultValue, vm := .none } = T1 at X₁ st1
  have hcat : (Value.ref T.heap.size).category = 1 := rfl
  have hcellA : T1.heap[T.heap.size]? = some (freshCell cX kX) := by rw [← hT1]; exact State.heap_pushCell_size _ _
  have d3' : decode c.code (pc + 3) = .ok (.dup, 1) := by rw [hb]; exact d3
  have d4' : decode c.code (pc + 4) = .ok (.ldc_w is, 3) := by rw [hb]; exact d4
  have hstr' : vk_R own is text sa s' := vk_R.warm hW0 hstr
  obtain ⟨U, hsteps, hrun, hend, hW, hsame, ce, hce, hO⟩ := X₁.ctorThrowS hexec htr (own := own) (cls := cls) (names := names) (ic := ic) hown' hcls hnames h (fun x hx => nomatch hx) hfX hkX hcellA (by rw [hhp, hT]; exact Nat.le_refl _) (msg := .ref sa) rfl
    (g := { method := m, pc := pc + 7, locals := ls, stack := .ref sa :: .ref T.heap.size :: .ref T.heap.size :: rest, locked := none }) rfl hsize rfl rfl (rest := rest) rfl
    (by rw [hb]; exact d7) (by rw [hb]; exact d10) hout hRframes (by simp only [List.map_cons, List.sum_cons, hcat]; omega) hlocks
  obtain ⟨f1, f2⟩ := vx_frame hsame
  rw [hhp] at f1 f2
  have hWs : s.WarmedH U.vm := State.WarmedH.trans hW0 hW
  have hcl : s.vm.findClass cls = some ce.cls := by
    have h9 := hO.cls
    rw [hvm] at h9
    exact h9
  have hall : s.sameButNew ({ U with vm := s.vm } : State) locs mc ms := by
    subst hA
    obtain ⟨e1, e2⟩ := hsame
    rw [State.setFrames_setFrames] at e1
    have h2 : (T.setVm s.vm).sameButNew ({ U with vm := s.vm } : State) [] (0 + 1) (0 + 6) := ⟨e1, e2⟩
    have h3 := X.same.trans h2
    rw [List.append_nil] at h3
    exact h3.mono hc hs
  refine ⟨U, ?_, .threw T.heap.size, hrun, hend, Or.inr ⟨T.heap.size, rfl, cls, ce, locs, hx U hWs.alike f1 (fun q hq => f2 q hq (fun z hz => nomatch hz)), hce, hO.vm, hcl, hWs, hall, hf⟩⟩
  refine st1 _ ?_
  show Steps p.tables e below (T1.setTop { method := m, pc := pc + 3, locals := ls, stack := .ref T.heap.size :: rest, locked := none }) _
  jvm_step X₁.here [X₁.here.top, hexec, d3', Value.category]
  exact X₁.ldcStringW hexec (own := own) (text := text) (index := is) (a := sa) hown' hstr'.1 hstr'.2
    (g := { method := m, pc := pc + 4, locals := ls, stack := .ref T.heap.size :: .ref T.heap.size :: rest, locked := none }) rfl d4' _ hsteps
end Ends
section Bodies
variable {l : Launch}
theorem vx_ofW {y : MethodName} {ws ws' : List Cond} {rm : Room} {Pc : Array Value → State → Prop} {Qc : Array Value → State → Outcome → State → Prop} {XC : String → State → State → Prop} {mc ms : Nat} {free : Addr → Prop} {cc : ByteArray} {maxL : Nat} {ret : Option FieldType}
    (hy : plainName y.cls = true) (hw : ws = Cond.code y cc maxL ret :: ws')
    (body : ∀ p e s m args below meth c s₁, BodyLoose p l y (headSpec ws rm) cc maxL ret e s m args below meth c s₁ → c.maxLocals = maxL → (∀ x ∈ c.exceptionTable.toList, False) → Pc args s →
      W p l e (headSpec ws rm).room s m args below meth c s.heap [] 0 0 (vx_MQ below Qc XC args s mc ms free) (entryFrame m args maxL)) : vx_Met l y ws rm Pc Qc XC mc ms free := by
  refine MetFree.of_bodyS (code := cc) (maxLocals := maxL) (ret := ret) hy ?_ ?_
  · intro args s m h hn
    obtain ⟨meth, c, h1, h2, h3, h4, h5, h6, -, -⟩ := Cond.code_spec hn (atoms_spec (ws := ws) h _ (by rw [hw]; exact List.mem_cons_self))
    exact ⟨meth, c, h1, h2, h3, h4, h5, h6⟩
  · intro p e s m args below meth c s₁ B hml hP _
    have hh0 : s₁.heap = s.heap := by rw [B.state]; rfl
    have ht : ∀ x ∈ c.exceptionTable.toList, False := by
      obtain ⟨meth9, c9, h1, h2, -, -, -, -, h7, -⟩ := Cond.code_spec B.named (atoms_spec (ws := ws) B.pre _ (by rw [hw]; exact List.mem_cons_self))
      cases Option.some.inj (h1.symm.trans B.method)
      cases Option.some.inj (h2.symm.trans (Stand.of_body B).code)
      intro x hx
      rw [Array.isEmpty_iff.mp h7] at hx
      cases hx
    obtain ⟨t, a1, o, b1, b2, b3⟩ := body p e s m args below meth c s₁ B hml ht hP s₁ hh0 (Stand.of_body B)
    exact ⟨t, o, a1, b1, b2, b3⟩
/-- the table of a body with handlers -/
theorem vx_table {p : Program} {x y : MethodName} {S : Spec} {cc bytes : ByteArray} {maxL maxL' : Nat} {ret ret' : Option FieldType} {e : Env} {s s₁ : State} {m : MethodId} {args : Array Value} {below : List Frame} {meth : Method} {c : Code} {hh : List (Nat × Nat × Nat × Nat)}
    (B : BodyLoose p l y S cc maxL ret e s m args below meth c s₁) (h : (Cond.codeWith y bytes maxL' ret' hh).before args s = true) : c.exceptionTable.toList = tableOf hh := by
  obtain ⟨m9, meth9, c9, hn9, h1, h2, -, -, h6, -⟩ := Cond.codeWith_spec h
  cases Option.some.inj (hn9.symm.trans B.named)
  cases Option.some.inj (h1.symm.trans B.method)
  cases Option.some.inj (h2.symm.trans (Stand.of_body B).code)
  rw [← h6, table_eq]
end Bodies
end VXA
/-! ===== END ===== -/
/-! ===== BEGIN a static call of a method with an exception table ===== -/
section VXS
variable {p : Program} {l : Launch} {e : Env} {R : Room} {s : State} {m : MethodId} {args : Array Value} {below : List Frame} {meth : Method} {c : Code} {T : State} {H : Heap} {locs : List Loc} {cells slots : Nat}
abbrev vx_CSW (R : Room) (s : State) (args : Array Value) (own : String) (index : Nat) (y : MethodName) (bytes : ByteArray) (maxL : Nat) (ret : Option FieldType) (hh : List (Nat × Nat × Nat × Nat)) (ws : List Cond) (rm : Room) (mc ms n : Nat) : Prop :=
  (rm.cells = mc ∧ rm.slots = ms ∧ rm.frames + 1 ≤ R.frames ∧ 8 + (maxL + 11) + rm.locals ≤ R.locals ∧ (∀ w ∈ ws, ∀ (a' : Array Value) (U : State), s.WarmedH U.vm → w.before a' U = true) ∧ Cond.codeWith y bytes maxL ret hh ∈ ws) ∧
  (Cond.codeWith y bytes maxL ret hh).before args s = true ∧ (Cond.initialized y.cls).before args s = true ∧ (y.cls ≠ "java/lang/invoke/MethodHandle" ∧ y.cls ≠ "java/lang/invoke/VarHandle") ∧
  (∀ sig, parseMethodDescriptor y.desc = some sig → n = sig.parameters.length) ∧ (Cond.methodLink own index y).before args s = true ∧ (Cond.static y).before args s = true
theorem vx_cwSW {own : String} {index maxL mc ms : Nat} {y : MethodName} {bytes : ByteArray} {ret : Option FieldType} {hh : List (Nat × Nat × Nat × Nat)} {Ts ws ws' : List Cond} {rm : Room} (n : Nat) (ht : ∀ w ∈ Ts, w.before args s = true) (hT : GoodIn Ts (va_wsS own index y ws)) (hw : ws = Cond.codeWith y bytes maxL ret hh :: ws') (hrc : rm.cells = mc) (hrs : rm.slots = ms)
    (hd : y.cls ≠ "java/lang/invoke/MethodHandle" ∧ y.cls ≠ "java/lang/invoke/VarHandle" ∧ (parseMethodDescriptor y.desc).map (fun d => d.parameters.length) = some n) (hR : rm.frames + 1 ≤ R.frames ∧ 8 + (maxL + 11) + rm.locals ≤ R.locals) :
    vx_CSW R s args own index y bytes maxL ret hh ws rm mc ms n := by
  have ok : ∀ w ∈ va_wsS own index y ws, w.before args s = true := fun w h => ht w (hT w h).1
  have hG : GoodIn Ts ws := fun w h => hT w (by unfold va_wsS; exact List.mem_append_right _ h)
  have hc : Cond.codeWith y bytes maxL ret hh ∈ ws := by rw [hw]; exact List.mem_cons_self
  refine ⟨⟨hrc, hrs, hR.1, hR.2, pay_in ht hG, hc⟩, ht _ (hG _ hc).1, ok _ (by simp [va_wsS]), ⟨hd.1, hd.2.1⟩, fun sig h => ?_, ok _ (by simp [va_wsS]), ok _ (by simp [va_wsS])⟩
  have h2 := hd.2.2
  rw [h] at h2
  exact (Option.some.inj h2).symm
theorem vx_callSW (X : Stand p l e R s m args below meth c T locs cells slots) (hexec : p.tables.exec = Jvm.exec) {own : String} {index : Nat} {y : MethodName} {bytes : ByteArray} {maxL : Nat} {ret : Option FieldType} {hh : List (Nat × Nat × Nat × Nat)}
    (hown : s.vm.findClass own = some m.cls) (hlink : (Cond.methodLink own index y).before args s = true) (hstat : (Cond.static y).before args s = true) (hinit : (Cond.initialized y.cls).before args s = true)
    (hcode : (Cond.codeWith y bytes maxL ret hh).before args s = true) (hy : y.cls ≠ "java/lang/invoke/MethodHandle" ∧ y.cls ≠ "java/lang/invoke/VarHandle")
    {W9 : Nat} {Pre : Pt → Array Value → Prop} {Post : Pt → Array Value → Option Value → Pt → Prop} (hK : Back l R p e below s args y 3 W9 Pre Post)
    {g : JFrame} (hg : g.method = m) (hsize : g.locals.size = c.maxLocals) {argsL rest : List Value} (hlen : ∀ sig, parseMethodDescriptor y.desc = some sig → argsL.length = sig.parameters.length)
    (hstack : g.stack = argsL.reverse ++ rest) (hW : 2 * g.monitorRoom + (rest.map fun v => v.category).sum ≤ W9) (hdg : decode c.code g.pc = .ok (.invokestatic index, 3))
    (hpre : ∀ vm₁, s.WarmedH vm₁ → Pre ⟨T.setVm vm₁, locs, cells, slots⟩ argsL.toArray) :
    ∃ (v : Option Value) (vm₁ : Vm) (B : Pt), s.WarmedH vm₁ ∧ Stand p l e R s m args below meth c B.U B.locs B.cells B.slots ∧ Post ⟨T.setVm vm₁, locs, cells, slots⟩ argsL.toArray v B ∧
      ∀ target, Steps p.tables e below (B.U.setTop { g with pc := g.pc + 3, stack := v.toList ++ rest }) target → Steps p.tables e below (T.setTop g) target := by
  obtain ⟨mk, methM, cM, hnamed, hmethM, -, -, -, -, -, -, hsigM⟩ := Cond.codeWith_spec hcode
  have hstatic : methM.isStatic = true := Cond.static_spec hnamed hmethM hstat
  obtain ⟨kP, hkP, -⟩ := className_of_methodNamed hnamed
  have hinitP : kP.init = .initialized := Cond.initialized_spec (findClass_of_methodNamed hnamed) hkP hinit
  obtain ⟨vm₁, X₁, hstep₁⟩ := X.invokestatic hexec hown hlink hnamed hmethM hstatic hkP hinitP hy (g := g) hg (argsL := argsL) (rest := rest) (hlen _ hsigM) hstack hdg
  obtain ⟨v, B, X', hpost, hsteps⟩ := hK m meth c ⟨T.setVm vm₁, locs, cells, slots⟩ { g with stack := rest } (.invokestatic index) mk argsL.toArray X₁ hg hsize hdg hW (X₁.named hnamed) (hpre vm₁ X₁.warmed)
  exact ⟨v, vm₁, B, X₁.warmed, X', hpost, fun target h => hstep₁ _ fun acts => by rw [doInvoke_state]; exact hsteps.trans h⟩
theorem vx_runSW {y : MethodName} {bytes cc : ByteArray} {maxL nL mc ms n index : Nat} {ret : Option FieldType} {hh : List (Nat × Nat × Nat × Nat)} {ws : List Cond} {rm : Room} {Pc : Array Value → State → Prop} {Qc : Array Value → State → Outcome → State → Prop} {free : Addr → Prop} {Ts : List Cond} {own : String} {As rest : List Value} {g : JFrame}
    (S : CallFix p m c cc nL s args Ts own) (hM : Met l y ws rm Pc Qc mc ms free) (cw : vx_CSW R s args own index y bytes maxL ret hh ws rm mc ms n) (hp : PreS s H Pc As)
    (hg : g.method = m) (hn : As.length = n) (hsize : g.locals.size = nL) (hstack : g.stack = As.reverse ++ rest) (hW : 2 * g.monitorRoom + (rest.map fun v => v.category).sum ≤ 8) (hdg : decode cc g.pc = .ok (.invokestatic index, 3)) (hf : cells + mc ≤ R.cells ∧ slots + ms ≤ R.slots) :
    va_Run p l e R s m args below meth c H locs cells slots mc ms g rest (Qc As.toArray) (free) := by
  obtain ⟨⟨hrc, hrs, hfr, hlo, hws, hcw⟩, hcode, hini, hy, hlen, hl, hstt⟩ := cw
  have hK : Back l R p e below s args y 3 8 (PreOf R mc ms Pc) (PostOf Qc mc ms free) := va_backW (hh := hh) (bytes := bytes) (maxL := maxL) (ret := ret) hM hp.1 hrc hrs hfr hlo hws hcw (fun a' U hW => word_at hW (Or.inl (by first | rfl | simp [Cond.onTables, Cond.keeps, Cond.steady])) hini)
  obtain ⟨hx, hb, hml, ho, -⟩ := S
  intro T hT X
  obtain ⟨v, vm₁, ⟨U', l2, c2, s2⟩, hW₁, X', ⟨g', mk, t, L, e1, e2, hq, h1, hL, h2, h3⟩, st⟩ := vx_callSW X hx (hh := hh) (bytes := bytes) (maxL := maxL) (ret := ret) ho hl hstt hini hcode hy hK hg (hsize.trans hml.symm) (argsL := As) (rest := rest) (fun sig h => hn.trans (hlen sig h)) hstack hW (by rw [hb]; exact hdg)
    (fun vm₁ hW₁ => ⟨hf.1, hf.2, hp.2 (T.setVm vm₁) hT hW₁⟩)
  dsimp only [Pt.U, Pt.locs, Pt.cells, Pt.slots] at X' e1 e2 h1 h2 h3 st
  subst h1; subst h2; subst h3
  exact ⟨v, (T.setVm vm₁).calling g' mk As.toArray, t, U', L, hT, X', hL, e1, e2, hq, st⟩
/-- not caught here, past rows that name other classes: it goes on to the caller -/
theorem vx_outP {p : Program} {l : Launch} {e : Env} {R : Room} {s : State} {m : MethodId} {args : Array Value} {below : List Frame} {meth : Method} {c : Code} {H : Heap} {locs : List Loc} {cells slots : Nat} {free : Addr → Prop} {ls : Array Slot} {rest : List Value} {Qc : Array Value → State → Outcome → State → Prop} {XC : String → State → State → Prop}
    {pc : Nat} {own E : String} {ce : Cell} {q : Addr} {mc ms : Nat} (hown : s.vm.findClass own = some m.cls) (hlocks : meth.locks = false)
    (hpass : ∀ z ∈ c.exceptionTable.toList, covers z pc = false ∨ (z.catchType ≠ 0 ∧ ∃ nm : String, (Cond.classLink own z.catchType nm).before args s = true ∧ va_Nc E nm s)) (hcell : H[q]? = some ce) (hv : ce.vm = .none) (hcl : s.vm.findClass E = some ce.cls)
    (hx : ∀ t : State, t.heap = H → s.vm.Alike t.vm → XC E s t) (hf : ∀ z ∈ locs, free z.base) (hc : cells ≤ mc) (hs : slots ≤ ms) :
    vx_W p l e R s m args below meth c H locs cells slots (vx_MQ below Qc XC args s mc ms free) (F0 m pc ls rest) q := by
  intro T hT X
  have hpl : e.platform.magicAccessors = ({} : Platform).magicAccessors := by rw [X.admits.platform]
  obtain ⟨vm', hW', X', st⟩ := X.outThrough hlocks q (g := F0 m pc ls rest) rfl rfl rfl (cell := ce) (by rw [hT]; exact hcell) (by rw [hv]; rfl)
    (by obtain ⟨k9, h9, -⟩ := Vm.findClass_spec hcl; exact ⟨k9, h9⟩) (fun z hz => by
      rcases hpass z hz with h | ⟨hz0, nm, hl1, hn1⟩
      · exact Or.inl h
      · obtain ⟨c6, hc6, hcl6⟩ := Cond.classLink_spec hown hl1 e.platform hpl
        obtain ⟨a8, b8, h1, h2, h3⟩ := hn1
        cases Option.some.inj (h1.symm.trans hcl)
        cases Option.some.inj (h2.symm.trans hc6)
        exact Or.inr ⟨hz0, _, hcl6, h3⟩)
  obtain ⟨g₀, hfr⟩ := X'.frames_eq
  have hcell9 : ((T.setVm vm').setFrames (.throwing q :: below)).heap[q]? = some ce := by
    show T.heap[q]? = some ce
    rw [hT]; exact hcell
  have hend : Ended ((T.setVm vm').setFrames (.throwing q :: below)) below (.threw q) := State.frames_setFrames _ (State.cur_lt_of_frames hfr)
  refine ⟨(T.setVm vm').setFrames (.throwing q :: below), ?_, .threw q, X'.here.running, hend, Or.inr ⟨q, rfl, E, ce, locs, hx _ hT (X'.ends _).1.alike, hcell9, hv, hcl, (X'.ends _).1, (X'.ends _).2.mono hc hs, hf⟩⟩
  rw [X.pushThrowing_eq]
  exact st
/-- a thing of a world lies in the heap -/
theorem vx_lt {D : va_G} {cl : List vw_C} {ws : va_W} {H1 : Heap} (h : va_P D cl ws H1) {k : Nat} {q : Nat × va_E} (hk : ws[k]? = some q) : q.1 < H1.size := (h k q hk).lt
end VXS
/-! ===== END ===== -/
/-! ===== BEGIN methods with a table of their own: called by a name, returning or throwing ===== -/
section VXH
/-! vx_backW, vx_callVX, vx_callSX, vx_callVW, vx_runVW, vx_runVX, vx_runSX, vx_ofWH follow the same proofs as their sisters above (Free/Laws.lean, Shelf42/LK1.lean); vx_outP calls Shelf42/NT130.lean (outThrough). -/
section
variable {l : Launch} {R : Room} {p : Program} {e : Env} {below : List Frame} {s : State} {sargs : Array Value} {y : MethodName} {len W9 : Nat}
theorem vx_backW {ws : List Cond} {rm : Room} {Pc : Array Value → State → Prop} {Qc : Array Value → State → Outcome → State → Prop} {XC : String → State → State → Prop} {mc ms : Nat} {free : Addr → Prop} {bytes : ByteArray} {maxL : Nat} {ret : Option FieldType} {hh : List (Nat × Nat × Nat × Nat)}
    (hM : vx_Met l y ws rm Pc Qc XC mc ms free) (hblind : FrameBlind Pc) (hrc : rm.cells = mc) (hrs : rm.slots = ms)
    (hframes : rm.frames + 1 ≤ R.frames) (hlocals : W9 + (maxL + 11) + rm.locals ≤ R.locals)
    (hws : ∀ w ∈ ws, ∀ a' U, s.WarmedH U.vm → w.before a' U = true) (hcode : Cond.codeWith y bytes maxL ret hh ∈ ws) (hinit : ∀ a' U, s.WarmedH U.vm → (Cond.initialized y.cls).before a' U = true) :
    vx_Back l R p e below s sargs y len W9 (PreOf R mc ms Pc) (PostOf Qc mc ms free) (vx_Post XC mc ms free) := by
  intro m meth c A g ig mk a X hg hsize hdg hW hn hp
  have h1 : (headSpec ws rm).pre.before a A.U = true := atoms_intro fun w hw => hws w hw _ _ X.warmed
  have h2 : (Cond.codeWith y bytes maxL ret hh).before a A.U = true := hws _ hcode _ _ X.warmed
  have h3 : (Cond.initialized y.cls).before a A.U = true := hinit _ _ X.warmed
  have h4 : A.cells + (headSpec ws rm).room.cells ≤ R.cells := by rw [show (headSpec ws rm).room.cells = mc from hrc]; exact hp.1
  have h5 : A.slots + (headSpec ws rm).room.slots ≤ R.slots := by rw [show (headSpec ws rm).room.slots = ms from hrs]; exact hp.2.1
  have hPc : Pc a (A.U.calling g mk a) := hblind _ _ _ _ hp.2.2
  obtain ⟨U, Ls, c0, s0⟩ := A
  dsimp only [Pt.U, Pt.locs, Pt.cells, Pt.slots] at h1 h2 h3 h4 h5 X hn hPc ⊢
  obtain ⟨m9, methY, cY, hn9, hmY, hcY, -, hlY, -⟩ := Cond.codeWith_spec h2
  cases Option.some.inj (hn9.symm.trans hn)
  obtain ⟨kY, hkY, -⟩ := className_of_methodNamed hn
  have hinitY : kY.init = .initialized := Cond.initialized_spec (findClass_of_methodNamed hn) hkY h3
  have h : At U g.method c below := by rw [hg]; exact X.here
  have hlocals9 : W9 + (maxL + 11) + (headSpec ws rm).room.locals ≤ R.locals := hlocals
  have happ : (headSpec ws rm).appliesLoose y e.platform (U.calling g mk a) = true :=
    Spec.appliesLoose_calling (g := g) h hdg hn hkY hinitY
      (X.room_calling (g := g) (R' := (headSpec ws rm).room) hsize hmY hcY hframes (by rw [hlY]; omega) h4 h5) h1
  obtain ⟨mid, hmid⟩ := h.above
  have hfr : (U.setTop g).frames = (.java g :: mid) ++ below := by rw [State.frames_setTop' g h.top, hmid]; rfl
  obtain ⟨o, s₂, hsteps, -, hend, hq⟩ := Steps.callFree hM p X.admits X.cas X.clock (acts := []) hfr happ hPc trivial
  have hq' : vx_Q Qc XC mc ms free a (U.calling g mk a) o s₂ := hq
  rw [State.frames_setTop' g h.top] at hend
  obtain ⟨g₀, hg0⟩ := Option.isSome_iff_exists.mp h.top
  obtain ⟨r, hr⟩ := State.topJava?_eq_some.mp hg0
  have hr' : (({ U with heap := s₂.heap, slotsUsed := s₂.slotsUsed } : State).setVm s₂.vm).frames = .java g₀ :: r := hr
  rcases hq' with ⟨hqc, L, hfe, hL⟩ | ⟨q, rfl, E, ce, L, hx, hce, hcv, hcl, hW₂, hsm, hL⟩
  · obtain ⟨⟨v, rfl⟩, hW₂, e2, q2, q3, q4, q5, q6⟩ := id hfe
    have e3 : s₂ = ({ (U.calling g mk a).setFrames s₂.frames with heap := s₂.heap, slotsUsed := s₂.slotsUsed } : State).setVm s₂.vm := by
      have : s₂ = ({ s₂ with vm := (U.calling g mk a).vm } : State).setVm s₂.vm := rfl
      rw [e2] at this
      exact this
    obtain ⟨c₂, i₂, len₂, hc₂, hd₂, hf₂⟩ := hend
    have hW' : U.WarmedH s₂.vm := hW₂
    have hcc : c₂ = c := by
      have h1 : s₂.code? g.method = U.code? g.method := by
        rw [State.code?_eq, State.code?_eq, hW'.alike.method?]
      exact Option.some.inj (hc₂.symm.trans (h1.trans h.code))
    subst hcc
    have hlen : len₂ = len := by rw [hdg] at hd₂; cases hd₂; rfl
    subst hlen
    have hs₂ : s₂ = (({ U with heap := s₂.heap, slotsUsed := s₂.slotsUsed } : State).setVm s₂.vm).setTop { g with pc := g.pc + len₂, stack := v.toList ++ g.stack } := by
      refine e3.trans ?_
      rw [hf₂, State.calling_eq h.top, State.setFrames_setFrames, State.setTop_of_frames _ hr', hr]
      rfl
    have hsame : U.sameButNew ({ U with heap := s₂.heap, slotsUsed := s₂.slotsUsed } : State) L mc ms := by
      refine ⟨?_, q2, q3, q4, q5, q6⟩
      obtain ⟨t, ht, -⟩ := State.frames_cons hr
      show ({ U with heap := s₂.heap, slotsUsed := s₂.slotsUsed } : State) = { U.setFrames U.frames with heap := s₂.heap, slotsUsed := s₂.slotsUsed }
      rw [State.setFrames_self ht]
    subst hg
    refine Or.inl ⟨v, ⟨(({ U with heap := s₂.heap, slotsUsed := s₂.slotsUsed } : State).setVm s₂.vm), Ls ++ L, c0 + mc, s0 + ms⟩,
      ⟨X.admits, X.cas, X.clock, X.frames, X.room, X.hears, X.method, X.code, (X.here.setHeapUsed s₂.heap s₂.slotsUsed).setVm hW'.alike, X.tail, State.WarmedH.trans X.warmed hW', X.limits, X.bytes, X.same.trans (hsame.setVm s.vm)⟩,
      ⟨g, mk, s₂, L, rfl, rfl, hqc, rfl, hL, rfl, rfl⟩, ?_⟩
    show Steps p.tables e below _ ((({ U with heap := s₂.heap, slotsUsed := s₂.slotsUsed } : State).setVm s₂.vm).setTop { g with pc := g.pc + len₂, stack := v.toList ++ g.stack })
    rw [← hs₂]
    exact hsteps
  · obtain ⟨e2, q2, q3, q4, q5, q6⟩ := id hsm
    have e3 : s₂ = ({ (U.calling g mk a).setFrames s₂.frames with heap := s₂.heap, slotsUsed := s₂.slotsUsed } : State).setVm s₂.vm := by
      have : s₂ = ({ s₂ with vm := (U.calling g mk a).vm } : State).setVm s₂.vm := rfl
      rw [e2] at this
      exact this
    have hf₂ : s₂.frames = .throwing q :: .java g :: U.frames.tail := hend
    have hW' : U.WarmedH s₂.vm := hW₂
    have hs₂ : s₂ = ((({ U with heap := s₂.heap, slotsUsed := s₂.slotsUsed } : State).setVm s₂.vm).setTop g).pushFrame (.throwing q) := by
      refine e3.trans ?_
      rw [hf₂, State.calling_eq h.top, State.setFrames_setFrames, State.pushFrame, State.frames_setTop _ hr', State.setTop_of_frames _ hr', State.setFrames_setFrames, hr]
      rfl
    have hsame : U.sameButNew ({ U with heap := s₂.heap, slotsUsed := s₂.slotsUsed } : State) L mc ms := by
      refine ⟨?_, q2, q3, q4, q5, q6⟩
      obtain ⟨t, ht, -⟩ := State.frames_cons hr
      show ({ U with heap := s₂.heap, slotsUsed := s₂.slotsUsed } : State) = { U.setFrames U.frames with heap := s₂.heap, slotsUsed := s₂.slotsUsed }
      rw [State.setFrames_self ht]
    subst hg
    refine Or.inr ⟨q, ⟨(({ U with heap := s₂.heap, slotsUsed := s₂.slotsUsed } : State).setVm s₂.vm), Ls ++ L, c0 + mc, s0 + ms⟩,
      ⟨X.admits, X.cas, X.clock, X.frames, X.room, X.hears, X.method, X.code, (X.here.setHeapUsed s₂.heap s₂.slotsUsed).setVm hW'.alike, X.tail, State.WarmedH.trans X.warmed hW', X.limits, X.bytes, X.same.trans (hsame.setVm s.vm)⟩,
      ⟨g, mk, s₂, L, E, ce, rfl, rfl, hx, hce, hcv, hcl, rfl, hL, rfl, rfl⟩, ?_⟩
    show Steps p.tables e below _ (((({ U with heap := s₂.heap, slotsUsed := s₂.slotsUsed } : State).setVm s₂.vm).setTop g).pushFrame (.throwing q))
    rw [← hs₂]
    exact hsteps
end
variable {p : Program} {l : Launch} {e : Env} {R : Room} {s : State} {m : MethodId} {args : Array Value} {below : List Frame} {meth : Method} {c : Code} {T : State} {H : Heap} {locs : List Loc} {cells slots : Nat}
theorem vx_callVX (X : Stand p l e R s m args below meth c T locs cells slots) (hexec : p.tables.exec = Jvm.exec) {own C : String} {index : Nat} {y : MethodName} {bytes : ByteArray} {maxL : Nat} {ret : Option FieldType} {hh : List (Nat × Nat × Nat × Nat)}
    (hown : s.vm.findClass own = some m.cls) (hlink : (Cond.methodLink own index y).before args s = true) (hinst : (Cond.instanceMethod y).before args s = true) (hsel : (Cond.selects C y y).before args s = true)
    (hcode : (Cond.codeWith y bytes maxL ret hh).before args s = true) (hy : y.cls ≠ "java/lang/invoke/MethodHandle" ∧ y.cls ≠ "java/lang/invoke/VarHandle")
    {W9 : Nat} {Pre : Pt → Array Value → Prop} {Post : Pt → Array Value → Option Value → Pt → Prop} {PostX : Pt → Array Value → Addr → Pt → Prop} (hK : vx_Back l R p e below s args y 3 W9 Pre Post PostX)
    {b : Addr} {cellB : Cell} (hcell : T.heap[b]? = some cellB) (hobj : cellB.vm.isStatics = false) (hcls : s.vm.findClass C = some cellB.cls)
    {g : JFrame} (hg : g.method = m) (hsize : g.locals.size = c.maxLocals) {argsL rest : List Value} (hlen : ∀ sig, parseMethodDescriptor y.desc = some sig → argsL.length = sig.parameters.length)
    (hstack : g.stack = argsL.reverse ++ .ref b :: rest) (hW : 2 * g.monitorRoom + (rest.map fun v => v.category).sum ≤ W9) (hdg : decode c.code g.pc = .ok (.invokevirtual index, 3))
    (hpre : ∀ vm₁, s.WarmedH vm₁ → Pre ⟨T.setVm vm₁, locs, cells, slots⟩ (Value.ref b :: argsL).toArray) :
    (∃ (v : Option Value) (vm₁ : Vm) (B : Pt), s.WarmedH vm₁ ∧ Stand p l e R s m args below meth c B.U B.locs B.cells B.slots ∧ Post ⟨T.setVm vm₁, locs, cells, slots⟩ (Value.ref b :: argsL).toArray v B ∧
      ∀ target, Steps p.tables e below (B.U.setTop { g with pc := g.pc + 3, stack := v.toList ++ rest }) target → Steps p.tables e below (T.setTop g) target) ∨
    (∃ (q : Addr) (vm₁ : Vm) (B : Pt), s.WarmedH vm₁ ∧ Stand p l e R s m args below meth c B.U B.locs B.cells B.slots ∧ PostX ⟨T.setVm vm₁, locs, cells, slots⟩ (Value.ref b :: argsL).toArray q B ∧
      Steps p.tables e below (T.setTop g) ((B.U.setTop { g with stack := rest }).pushFrame (.throwing q))) := by
  obtain ⟨mk, methM, hnamed, hmethM, hstM, habM⟩ := Cond.instanceMethod_spec hinst
  obtain ⟨m8, methM', cM, hn8, hmethM', -, -, -, -, -, -, hsigM⟩ := Cond.codeWith_spec hcode
  cases Option.some.inj (hn8.symm.trans hnamed)
  cases hmethM.symm.trans hmethM'
  obtain ⟨c2, r2, m2, q1, q2, q3, q4, kP, hkP, hkPi⟩ := Cond.selects_spec hsel
  cases hcls.symm.trans q1
  cases (State.methodFound?_of_named hnamed hy).symm.trans q2
  cases hnamed.symm.trans q3
  have hselP : selectMethod e.platform s.vm cellB.cls mk = .method mk := by rw [Launch.admits_selectMethod X.admits]; exact q4
  obtain ⟨vm₁, X₁, hstep₁⟩ := X.invokevirtual hexec hown hlink hnamed hmethM hstM hkP hkPi hy (a := b) (cell := cellB) hcell
    (fun z h => by rw [h] at hobj; cases hobj) hselP hmethM habM hkP hkPi (g := g) hg (argsL := argsL) (rest := rest) (hlen _ hsigM) hstack hdg
  rcases hK m meth c ⟨T.setVm vm₁, locs, cells, slots⟩ { g with stack := rest } (.invokevirtual index) mk (Value.ref b :: argsL).toArray X₁ hg hsize hdg hW (X₁.named hnamed) (hpre vm₁ X₁.warmed) with ⟨v, B, X', hpost, hsteps⟩ | ⟨q, B, X', hpost, hsteps⟩
  · exact Or.inl ⟨v, vm₁, B, X₁.warmed, X', hpost, fun target h => hstep₁ _ fun acts => by rw [doInvoke_state]; exact hsteps.trans h⟩
  · exact Or.inr ⟨q, vm₁, B, X₁.warmed, X', hpost, hstep₁ _ fun acts => by rw [doInvoke_state]; exact hsteps⟩
theorem vx_callSX (X : Stand p l e R s m args below meth c T locs cells slots) (hexec : p.tables.exec = Jvm.exec) {own : String} {index : Nat} {y : MethodName} {bytes : ByteArray} {maxL : Nat} {ret : Option FieldType} {hh : List (Nat × Nat × Nat × Nat)}
    (hown : s.vm.findClass own = some m.cls) (hlink : (Cond.methodLink own index y).before args s = true) (hstat : (Cond.static y).before args s = true) (hinit : (Cond.initialized y.cls).before args s = true)
    (hcode : (Cond.codeWith y bytes maxL ret hh).before args s = true) (hy : y.cls ≠ "java/lang/invoke/MethodHandle" ∧ y.cls ≠ "java/lang/invoke/VarHandle")
    {W9 : Nat} {Pre : Pt → Array Value → Prop} {Post : Pt → Array Value → Option Value → Pt → Prop} {PostX : Pt → Array Value → Addr → Pt → Prop} (hK : vx_Back l R p e below s args y 3 W9 Pre Post PostX)
    {g : JFrame} (hg : g.method = m) (hsize : g.locals.size = c.maxLocals) {argsL rest : List Value} (hlen : ∀ sig, parseMethodDescriptor y.desc = some sig → argsL.length = sig.parameters.length)
    (hstack : g.stack = argsL.reverse ++ rest) (hW : 2 * g.monitorRoom + (rest.map fun v => v.category).sum ≤ W9) (hdg : decode c.code g.pc = .ok (.invokestatic index, 3))
    (hpre : ∀ vm₁, s.WarmedH vm₁ → Pre ⟨T.setVm vm₁, locs, cells, slots⟩ argsL.toArray) :
    (∃ (v : Option Value) (vm₁ : Vm) (B : Pt), s.WarmedH vm₁ ∧ Stand p l e R s m args below meth c B.U B.locs B.cells B.slots ∧ Post ⟨T.setVm vm₁, locs, cells, slots⟩ argsL.toArray v B ∧
      ∀ target, Steps p.tables e below (B.U.setTop { g with pc := g.pc + 3, stack := v.toList ++ rest }) target → Steps p.tables e below (T.setTop g) target) ∨
    (∃ (q : Addr) (vm₁ : Vm) (B : Pt), s.WarmedH vm₁ ∧ Stand p l e R s m args below meth c B.U B.locs B.cells B.slots ∧ PostX ⟨T.setVm vm₁, locs, cells, slots⟩ argsL.toArray q B ∧
      Steps p.tables e below (T.setTop g) ((B.U.setTop { g with stack := rest }).pushFrame (.throwing q))) := by
  obtain ⟨mk, methM, cM, hnamed, hmethM, -, -, -, -, -, -, hsigM⟩ := Cond.codeWith_spec hcode
  have hstatic : methM.isStatic = true := Cond.static_spec hnamed hmethM hstat
  obtain ⟨kP, hkP, -⟩ := className_of_methodNamed hnamed
  have hinitP : kP.init = .initialized := Cond.initialized_spec (findClass_of_methodNamed hnamed) hkP hinit
  obtain ⟨vm₁, X₁, hstep₁⟩ := X.invokestatic hexec hown hlink hnamed hmethM hstatic hkP hinitP hy (g := g) hg (argsL := argsL) (rest := rest) (hlen _ hsigM) hstack hdg
  rcases hK m meth c ⟨T.setVm vm₁, locs, cells, slots⟩ { g with stack := rest } (.invokestatic index) mk argsL.toArray X₁ hg hsize hdg hW (X₁.named hnamed) (hpre vm₁ X₁.warmed) with ⟨v, B, X', hpost, hsteps⟩ | ⟨q, B, X', hpost, hsteps⟩
  · exact Or.inl ⟨v, vm₁, B, X₁.warmed, X', hpost, fun target h => hstep₁ _ fun acts => by rw [doInvoke_state]; exact hsteps.trans h⟩
  · exact Or.inr ⟨q, vm₁, B, X₁.warmed, X', hpost, hstep₁ _ fun acts => by rw [doInvoke_state]; exact hsteps⟩
theorem vx_callVW (X : Stand p l e R s m args below meth c T locs cells slots) (hexec : p.tables.exec = Jvm.exec) {own C : String} {index : Nat} {y : MethodName} {bytes : ByteArray} {maxL : Nat} {ret : Option FieldType} {hh : List (Nat × Nat × Nat × Nat)}
    (hown : s.vm.findClass own = some m.cls) (hlink : (Cond.methodLink own index y).before args s = true) (hinst : (Cond.instanceMethod y).before args s = true) (hsel : (Cond.selects C y y).before args s = true)
    (hcode : (Cond.codeWith y bytes maxL ret hh).before args s = true) (hy : y.cls ≠ "java/lang/invoke/MethodHandle" ∧ y.cls ≠ "java/lang/invoke/VarHandle")
    {W9 : Nat} {Pre : Pt → Array Value → Prop} {Post : Pt → Array Value → Option Value → Pt → Prop} (hK : Back l R p e below s args y 3 W9 Pre Post)
    {b : Addr} {cellB : Cell} (hcell : T.heap[b]? = some cellB) (hobj : cellB.vm.isStatics = false) (hcls : s.vm.findClass C = some cellB.cls)
    {g : JFrame} (hg : g.method = m) (hsize : g.locals.size = c.maxLocals) {argsL rest : List Value} (hlen : ∀ sig, parseMethodDescriptor y.desc = some sig → argsL.length = sig.parameters.length)
    (hstack : g.stack = argsL.reverse ++ .ref b :: rest) (hW : 2 * g.monitorRoom + (rest.map fun v => v.category).sum ≤ W9) (hdg : decode c.code g.pc = .ok (.invokevirtual index, 3))
    (hpre : ∀ vm₁, s.WarmedH vm₁ → Pre ⟨T.setVm vm₁, locs, cells, slots⟩ (Value.ref b :: argsL).toArray) :
    ∃ (v : Option Value) (vm₁ : Vm) (B : Pt), s.WarmedH vm₁ ∧ Stand p l e R s m args below meth c B.U B.locs B.cells B.slots ∧ Post ⟨T.setVm vm₁, locs, cells, slots⟩ (Value.ref b :: argsL).toArray v B ∧
      ∀ target, Steps p.tables e below (B.U.setTop { g with pc := g.pc + 3, stack := v.toList ++ rest }) target → Steps p.tables e below (T.setTop g) target := by
  obtain ⟨mk, methM, hnamed, hmethM, hstM, habM⟩ := Cond.instanceMethod_spec hinst
  obtain ⟨m8, methM', cM, hn8, hmethM', -, -, -, -, -, -, hsigM⟩ := Cond.codeWith_spec hcode
  cases Option.some.inj (hn8.symm.trans hnamed)
  cases hmethM.symm.trans hmethM'
  obtain ⟨c2, r2, m2, q1, q2, q3, q4, kP, hkP, hkPi⟩ := Cond.selects_spec hsel
  cases hcls.symm.trans q1
  cases (State.methodFound?_of_named hnamed hy).symm.trans q2
  cases hnamed.symm.trans q3
  have hselP : selectMethod e.platform s.vm cellB.cls mk = .method mk := by rw [Launch.admits_selectMethod X.admits]; exact q4
  obtain ⟨vm₁, X₁, hstep₁⟩ := X.invokevirtual hexec hown hlink hnamed hmethM hstM hkP hkPi hy (a := b) (cell := cellB) hcell
    (fun z h => by rw [h] at hobj; cases hobj) hselP hmethM habM hkP hkPi (g := g) hg (argsL := argsL) (rest := rest) (hlen _ hsigM) hstack hdg
  obtain ⟨v, B, X', hpost, hsteps⟩ := hK m meth c ⟨T.setVm vm₁, locs, cells, slots⟩ { g with stack := rest } (.invokevirtual index) mk (Value.ref b :: argsL).toArray X₁ hg hsize hdg hW (X₁.named hnamed) (hpre vm₁ X₁.warmed)
  exact ⟨v, vm₁, B, X₁.warmed, X', hpost, fun target h => hstep₁ _ fun acts => by rw [doInvoke_state]; exact hsteps.trans h⟩
abbrev vx_CVW (R : Room) (s : State) (args : Array Value) (own C : String) (index : Nat) (y : MethodName) (bytes : ByteArray) (maxL : Nat) (ret : Option FieldType) (hh : List (Nat × Nat × Nat × Nat)) (ws : List Cond) (rm : Room) (mc ms n : Nat) : Prop :=
  (rm.cells = mc ∧ rm.slots = ms ∧ rm.frames + 1 ≤ R.frames ∧ 8 + (maxL + 11) + rm.locals ≤ R.locals ∧ (∀ w ∈ ws, ∀ (a' : Array Value) (U : State), s.WarmedH U.vm → w.before a' U = true) ∧ Cond.codeWith y bytes maxL ret hh ∈ ws) ∧
  (Cond.codeWith y bytes maxL ret hh).before args s = true ∧ (Cond.initialized y.cls).before args s = true ∧ (y.cls ≠ "java/lang/invoke/MethodHandle" ∧ y.cls ≠ "java/lang/invoke/VarHandle") ∧
  (∀ sig, parseMethodDescriptor y.desc = some sig → n = sig.parameters.length) ∧ (Cond.methodLink own index y).before args s = true ∧ (Cond.instanceMethod y).before args s = true ∧ (Cond.selects C y y).before args s = true
theorem vx_cwVW {own C : String} {index maxL mc ms : Nat} {y : MethodName} {bytes : ByteArray} {ret : Option FieldType} {hh : List (Nat × Nat × Nat × Nat)} {Ts ws ws' : List Cond} {rm : Room} (n : Nat) (ht : ∀ w ∈ Ts, w.before args s = true) (hT : GoodIn Ts (wsV own index C y ws)) (hw : ws = Cond.codeWith y bytes maxL ret hh :: ws') (hrc : rm.cells = mc) (hrs : rm.slots = ms)
    (hd : y.cls = C ∧ y.cls ≠ "java/lang/invoke/MethodHandle" ∧ y.cls ≠ "java/lang/invoke/VarHandle" ∧ (parseMethodDescriptor y.desc).map (fun d => d.parameters.length) = some n) (hR : rm.frames + 1 ≤ R.frames ∧ 8 + (maxL + 11) + rm.locals ≤ R.locals) :
    vx_CVW R s args own C index y bytes maxL ret hh ws rm mc ms n := by
  obtain ⟨hC, hd⟩ := hd
  subst hC
  have ok : ∀ w ∈ wsV own index y.cls y ws, w.before args s = true := fun w h => ht w (hT w h).1
  have hG : GoodIn Ts ws := fun w h => hT w (by unfold wsV; exact List.mem_append_right _ h)
  have hc : Cond.codeWith y bytes maxL ret hh ∈ ws := by rw [hw]; exact List.mem_cons_self
  refine ⟨⟨hrc, hrs, hR.1, hR.2, pay_in ht hG, hc⟩, ht _ (hG _ hc).1, ok _ (by simp [wsV]), ⟨hd.1, hd.2.1⟩, fun sig h => ?_, ok _ (by simp [wsV]), ok _ (by simp [wsV]), ok _ (by simp [wsV])⟩
  have h2 := hd.2.2
  rw [h] at h2
  exact (Option.some.inj h2).symm
theorem vx_runVW {y : MethodName} {bytes cc : ByteArray} {maxL nL mc ms n index : Nat} {ret : Option FieldType} {hh : List (Nat × Nat × Nat × Nat)} {ws : List Cond} {rm : Room} {Pc : Array Value → State → Prop} {Qc : Array Value → State → Outcome → State → Prop} {free : Addr → Prop} {Ts : List Cond} {own C : String} {b : Addr} {As rest : List Value} {g : JFrame}
    (S : CallFix p m c cc nL s args Ts own) (hM : Met l y ws rm Pc Qc mc ms free) (cw : vx_CVW R s args own C index y bytes maxL ret hh ws rm mc ms n) (hp : PreV s H C b Pc As)
    (hg : g.method = m) (hn : As.length = n) (hsize : g.locals.size = nL) (hstack : g.stack = As.reverse ++ .ref b :: rest) (hW : 2 * g.monitorRoom + (rest.map fun v => v.category).sum ≤ 8) (hdg : decode cc g.pc = .ok (.invokevirtual index, 3)) (hf : cells + mc ≤ R.cells ∧ slots + ms ≤ R.slots) :
    va_Run p l e R s m args below meth c H locs cells slots mc ms g rest (Qc (Value.ref b :: As).toArray) free := by
  obtain ⟨⟨hrc, hrs, hfr, hlo, hws, hcw⟩, hcode, hini, hy, hlen, hl, hin, hse⟩ := cw
  have hK : Back l R p e below s args y 3 8 (PreOf R mc ms Pc) (PostOf Qc mc ms free) := va_backW (hh := hh) (bytes := bytes) (maxL := maxL) (ret := ret) hM hp.1 hrc hrs hfr hlo hws hcw (fun a' U hW => word_at hW (Or.inl (by first | rfl | simp [Cond.onTables, Cond.keeps, Cond.steady])) hini)
  obtain ⟨hx, hb, hml, ho, -⟩ := S
  obtain ⟨-, ⟨cellB, hcB, hoB, hclB⟩, hPc⟩ := hp
  intro T hT X
  obtain ⟨v, vm₁, ⟨U', l2, c2, s2⟩, hW₁, X', ⟨g', mk, t, L, e1, e2, hq, h1, hL, h2, h3⟩, st⟩ := vx_callVW X hx (C := C) (hh := hh) (bytes := bytes) (maxL := maxL) (ret := ret) ho hl hin hse hcode hy hK (by rw [hT]; exact hcB) hoB hclB hg (hsize.trans hml.symm) (argsL := As) (rest := rest) (fun sig h => hn.trans (hlen sig h)) hstack hW (by rw [hb]; exact hdg)
    (fun vm₁ hW₁ => ⟨hf.1, hf.2, hPc (T.setVm vm₁) hT hW₁⟩)
  dsimp only [Pt.U, Pt.locs, Pt.cells, Pt.slots] at X' e1 e2 h1 h2 h3 st
  subst h1; subst h2; subst h3
  exact ⟨v, (T.setVm vm₁).calling g' mk (Value.ref b :: As).toArray, t, U', L, hT, X', hL, e1, e2, hq, st⟩
section
variable {y : MethodName} {bytes cc : ByteArray} {maxL nL mc ms n index : Nat} {ret : Option FieldType} {ws : List Cond} {rm : Room} {Pc : Array Value → State → Prop} {Qc : Array Value → State → Outcome → State → Prop} {XC : String → State → State → Prop} {free : Addr → Prop} {Ts : List Cond} {own C : String} {b : Addr} {As rest : List Value} {g : JFrame}
theorem vx_runVX {hh : List (Nat × Nat × Nat × Nat)} (S : CallFix p m c cc nL s args Ts own) (hM : vx_Met l y ws rm Pc Qc XC mc ms free) (cw : vx_CVW R s args own C index y bytes maxL ret hh ws rm mc ms n) (hp : PreV s H C b Pc As)
    (hg : g.method = m) (hn : As.length = n) (hsize : g.locals.size = nL) (hstack : g.stack = As.reverse ++ .ref b :: rest) (hW : 2 * g.monitorRoom + (rest.map fun v => v.category).sum ≤ 8) (hdg : decode cc g.pc = .ok (.invokevirtual index, 3)) (hf : cells + mc ≤ R.cells ∧ slots + ms ≤ R.slots) :
    vx_Run p l e R s m args below meth c H locs cells slots mc ms g rest (Qc (Value.ref b :: As).toArray) XC free := by
  obtain ⟨⟨hrc, hrs, hfr, hlo, hws, hcw⟩, hcode, hini, hy, hlen, hl, hin, hse⟩ := cw
  have hK : vx_Back l R p e below s args y 3 8 (PreOf R mc ms Pc) (PostOf Qc mc ms free) (vx_Post XC mc ms free) := vx_backW (hh := hh) (bytes := bytes) (maxL := maxL) (ret := ret) hM hp.1 hrc hrs hfr hlo hws hcw (fun a' U hW => word_at hW (Or.inl (by first | rfl | simp [Cond.onTables, Cond.keeps, Cond.steady])) hini)
  obtain ⟨hx, hb, hml, ho, -⟩ := S
  obtain ⟨-, ⟨cellB, hcB, hoB, hclB⟩, hPc⟩ := hp
  intro T hT X
  rcases vx_callVX X hx (C := C) (hh := hh) (bytes := bytes) (maxL := maxL) (ret := ret) ho hl hin hse hcode hy hK (by rw [hT]; exact hcB) hoB hclB hg (hsize.trans hml.symm) (argsL := As) (rest := rest) (fun sig h => hn.trans (hlen sig h)) hstack hW (by rw [hb]; exact hdg)
    (fun vm₁ hW₁ => ⟨hf.1, hf.2, hPc (T.setVm vm₁) hT hW₁⟩) with ⟨v, vm₁, ⟨U', l2, c2, s2⟩, hW₁, X', ⟨g', mk, t, L, e1, e2, hq, h1, hL, h2, h3⟩, st⟩ | ⟨q, vm₁, ⟨U', l2, c2, s2⟩, hW₁, X', ⟨g', mk, t, L, E, ce, e1, e2, hq, hce, hcv, hcl, h1, hL, h2, h3⟩, st⟩
  · dsimp only [Pt.U, Pt.locs, Pt.cells, Pt.slots] at X' e1 e2 h1 h2 h3 st
    subst h1; subst h2; subst h3
    exact Or.inl ⟨v, (T.setVm vm₁).calling g' mk (Value.ref b :: As).toArray, t, U', L, hT, X', hL, e1, e2, hq, st⟩
  · dsimp only [Pt.U, Pt.locs, Pt.cells, Pt.slots] at X' e1 e2 h1 h2 h3 st hcl
    subst h1; subst h2; subst h3
    exact Or.inr ⟨q, (T.setVm vm₁).calling g' mk (Value.ref b :: As).toArray, t, U', L, E, ce, hT, X', hL, e1, e2, hq, hce, hcv, vx_cls hW₁ hcl, st⟩
theorem vx_runSX {hh : List (Nat × Nat × Nat × Nat)} (S : CallFix p m c cc nL s args Ts own) (hM : vx_Met l y ws rm Pc Qc XC mc ms free) (cw : vx_CSW R s args own index y bytes maxL ret hh ws rm mc ms n) (hp : PreS s H Pc As)
    (hg : g.method = m) (hn : As.length = n) (hsize : g.locals.size = nL) (hstack : g.stack = As.reverse ++ rest) (hW : 2 * g.monitorRoom + (rest.map fun v => v.category).sum ≤ 8) (hdg : decode cc g.pc = .ok (.invokestatic index, 3)) (hf : cells + mc ≤ R.cells ∧ slots + ms ≤ R.slots) :
    vx_Run p l e R s m args below meth c H locs cells slots mc ms g rest (Qc As.toArray) XC free := by
  obtain ⟨⟨hrc, hrs, hfr, hlo, hws, hcw⟩, hcode, hini, hy, hlen, hl, hstt⟩ := cw
  have hK : vx_Back l R p e below s args y 3 8 (PreOf R mc ms Pc) (PostOf Qc mc ms free) (vx_Post XC mc ms free) := vx_backW (hh := hh) (bytes := bytes) (maxL := maxL) (ret := ret) hM hp.1 hrc hrs hfr hlo hws hcw (fun a' U hW => word_at hW (Or.inl (by first | rfl | simp [Cond.onTables, Cond.keeps, Cond.steady])) hini)
  obtain ⟨hx, hb, hml, ho, -⟩ := S
  intro T hT X
  rcases vx_callSX X hx (hh := hh) (bytes := bytes) (maxL := maxL) (ret := ret) ho hl hstt hini hcode hy hK hg (hsize.trans hml.symm) (argsL := As) (rest := rest) (fun sig h => hn.trans (hlen sig h)) hstack hW (by rw [hb]; exact hdg)
    (fun vm₁ hW₁ => ⟨hf.1, hf.2, hp.2 (T.setVm vm₁) hT hW₁⟩) with ⟨v, vm₁, ⟨U', l2, c2, s2⟩, hW₁, X', ⟨g', mk, t, L, e1, e2, hq, h1, hL, h2, h3⟩, st⟩ | ⟨q, vm₁, ⟨U', l2, c2, s2⟩, hW₁, X', ⟨g', mk, t, L, E, ce, e1, e2, hq, hce, hcv, hcl, h1, hL, h2, h3⟩, st⟩
  · dsimp only [Pt.U, Pt.locs, Pt.cells, Pt.slots] at X' e1 e2 h1 h2 h3 st
    subst h1; subst h2; subst h3
    exact Or.inl ⟨v, (T.setVm vm₁).calling g' mk As.toArray, t, U', L, hT, X', hL, e1, e2, hq, st⟩
  · dsimp only [Pt.U, Pt.locs, Pt.cells, Pt.slots] at X' e1 e2 h1 h2 h3 st hcl
    subst h1; subst h2; subst h3
    exact Or.inr ⟨q, (T.setVm vm₁).calling g' mk As.toArray, t, U', L, E, ce, hT, X', hL, e1, e2, hq, hce, hcv, vx_cls hW₁ hcl, st⟩
end
end VXH
theorem vx_ofWH {l : Launch} {y : MethodName} {ws ws' : List Cond} {rm : Room} {Pc : Array Value → State → Prop} {Qc : Array Value → State → Outcome → State → Prop} {XC : String → State → State → Prop} {mc ms : Nat} {free : Addr → Prop} {cc : ByteArray} {maxL : Nat} {ret : Option FieldType} {hh : List (Nat × Nat × Nat × Nat)}
    (hy : plainName y.cls = true) (hw : ws = Cond.codeWith y cc maxL ret hh :: ws')
    (body : ∀ p e s m args below meth c s₁, BodyLoose p l y (headSpec ws rm) cc maxL ret e s m args below meth c s₁ → c.maxLocals = maxL → Pc args s →
      W p l e (headSpec ws rm).room s m args below meth c s.heap [] 0 0 (vx_MQ below Qc XC args s mc ms free) (entryFrame m args maxL)) : vx_Met l y ws rm Pc Qc XC mc ms free := by
  refine MetFree.of_bodyS (code := cc) (maxLocals := maxL) (ret := ret) hy ?_ ?_
  · intro args s m h hn
    obtain ⟨m9, meth, c, hn9, h1, h2, h3, h4, -, h5, h6, -⟩ := Cond.codeWith_spec (atoms_spec (ws := ws) h _ (by rw [hw]; exact List.mem_cons_self))
    cases hn.symm.trans hn9
    exact ⟨meth, c, h1, h2, h3, h4, h5, h6⟩
  · intro p e s m args below meth c s₁ B hml hP _
    have hh0 : s₁.heap = s.heap := by rw [B.state]; rfl
    obtain ⟨t, a1, o, b1, b2, b3⟩ := body p e s m args below meth c s₁ B hml hP s₁ hh0 (Stand.of_body B)
    exact ⟨t, o, a1, b1, b2, b3⟩
/-! ===== END ===== -/
end
section
/-! ===== BEGIN printed: names, fields, word lists, decode rows ===== -/
def RX0 : String := "BandDay$Band"
def TX0 : u_T := fun k => match k with
  | 0 => ("BandDay$Band", "chairs", "[LBandDay$Chair;", true)
  | 1 => ("BandDay$Band", "size", "I", false)
  | 2 => ("BandDay$Band", "spirit", "I", false)
  | 3 => ("BandDay$Band", "marks", "I", false)
  | 4 => ("BandDay$Band", "place", "I", false)
  | 5 => ("BandDay$Band", "deputies", "I", false)
  | 6 => ("BandDay$Band", "empties", "I", false)
  | 7 => ("BandDay$Band", "points", "I", false)
  | _ => ("BandDay$Band", "outs", "I", false)
def tyX0 : Nat → FieldType := fun k => match k with
  | 0 => .array (.object "BandDay$Chair")
  | 1 => .int
  | 2 => .int
  | 3 => .int
  | 4 => .int
  | 5 => .int
  | 6 => .int
  | 7 => .int
  | _ => .int
abbrev wsX00 : List Cond := u_ws RX0 TX0 9
theorem nmX0 : ∀ a, a < 9 → ∀ b, b < 9 → a ≠ b → (TX0 a).2.1 ≠ (TX0 b).2.1 := by decide +kernel
theorem tyX0_ok : ∀ k, k < 9 → parseFieldDescriptor (TX0 k).2.2.1 = some (tyX0 k) := by decide +kernel
abbrev cX0_init : ByteArray := prog_2_method_1_code
def yX0_init : MethodName := ⟨RX0, "<init>", "()V"⟩
abbrev cX0_copyFrom : ByteArray := prog_2_method_2_code
def yX0_copyFrom : MethodName := ⟨RX0, "copyFrom", "(LBandDay$Band;)V"⟩
abbrev cX0_furnish : ByteArray := prog_2_method_3_code
def yX0_furnish : MethodName := ⟨RX0, "furnish", "(II)V"⟩
abbrev cX0_chairAt : ByteArray := prog_2_method_4_code
def yX0_chairAt : MethodName := ⟨RX0, "chairAt", "(I)LBandDay$Chair;"⟩
abbrev cX0_raiseSpirit : ByteArray := prog_2_method_5_code
def yX0_raiseSpirit : MethodName := ⟨RX0, "raiseSpirit", "(I)V"⟩
abbrev cX0_members : ByteArray := prog_2_method_6_code
def yX0_members : MethodName := ⟨RX0, "members", "()I"⟩
abbrev cX0_ownSitting : ByteArray := prog_2_method_7_code
def yX0_ownSitting : MethodName := ⟨RX0, "ownSitting", "()I"⟩
abbrev cX0_deputiesSitting : ByteArray := prog_2_method_8_code
def yX0_deputiesSitting : MethodName := ⟨RX0, "deputiesSitting", "()I"⟩
abbrev cX0_emptyChairs : ByteArray := prog_2_method_9_code
def yX0_emptyChairs : MethodName := ⟨RX0, "emptyChairs", "()I"⟩
abbrev cX0_tell : ByteArray := prog_2_method_10_code
def yX0_tell : MethodName := ⟨RX0, "tell", "(I)I"⟩
abbrev cX0_outlook : ByteArray := prog_2_method_11_code
def yX0_outlook : MethodName := ⟨RX0, "outlook", "(I)I"⟩
def RX1 : String := "BandDay$Chair"
def TX1 : u_T := fun k => match k with
  | 0 => ("BandDay$Chair", "instrument", "I", false)
  | 1 => ("BandDay$Chair", "member", "I", false)
  | _ => ("BandDay$Chair", "sitter", "I", false)
def tyX1 : Nat → FieldType := fun k => match k with
  | 0 => .int
  | 1 => .int
  | _ => .int
abbrev wsX10 : List Cond := u_ws RX1 TX1 3
theorem nmX1 : ∀ a, a < 3 → ∀ b, b < 3 → a ≠ b → (TX1 a).2.1 ≠ (TX1 b).2.1 := by decide +kernel
theorem tyX1_ok : ∀ k, k < 3 → parseFieldDescriptor (TX1 k).2.2.1 = some (tyX1 k) := by decide +kernel
abbrev cX1_init : ByteArray := prog_3_method_1_code
def yX1_init : MethodName := ⟨RX1, "<init>", "()V"⟩
abbrev cX1_copyFrom : ByteArray := prog_3_method_2_code
def yX1_copyFrom : MethodName := ⟨RX1, "copyFrom", "(LBandDay$Chair;)V"⟩
abbrev cX1_isEmpty : ByteArray := prog_3_method_3_code
def yX1_isEmpty : MethodName := ⟨RX1, "isEmpty", "()Z"⟩
abbrev cX1_hasOwn : ByteArray := prog_3_method_4_code
def yX1_hasOwn : MethodName := ⟨RX1, "hasOwn", "()Z"⟩
abbrev cX1_hasDeputy : ByteArray := prog_3_method_5_code
def yX1_hasDeputy : MethodName := ⟨RX1, "hasDeputy", "()Z"⟩
abbrev cX1_tell : ByteArray := prog_3_method_6_code
def yX1_tell : MethodName := ⟨RX1, "tell", "(I)I"⟩
def RX2 : String := "BandDay$Contest"
def TX2 : u_T := fun k => match k with
  | _ => ("BandDay$Contest", "season", "LBandDay$Season;", true)
def tyX2 : Nat → FieldType := fun k => match k with
  | _ => .object "BandDay$Season"
abbrev wsX20 : List Cond := u_ws RX2 TX2 1
theorem nmX2 : ∀ a, a < 1 → ∀ b, b < 1 → a ≠ b → (TX2 a).2.1 ≠ (TX2 b).2.1 := by decide +kernel
theorem tyX2_ok : ∀ k, k < 1 → parseFieldDescriptor (TX2 k).2.2.1 = some (tyX2 k) := by decide +kernel
abbrev cX2_init : ByteArray := prog_4_method_1_code
def yX2_init : MethodName := ⟨RX2, "<init>", "(LBandDay$Season;)V"⟩
abbrev cX2_hold : ByteArray := prog_4_method_2_code
def yX2_hold : MethodName := ⟨RX2, "hold", "()I"⟩
abbrev cX2_playAllAheadOf : ByteArray := prog_4_method_3_code
def yX2_playAllAheadOf : MethodName := ⟨RX2, "playAllAheadOf", "(I)V"⟩
abbrev cX2_bestChange : ByteArray := prog_4_method_4_code
def yX2_bestChange : MethodName := ⟨RX2, "bestChange", "(I)I"⟩
abbrev cX2_forgetDeputies : ByteArray := prog_4_method_5_code
def yX2_forgetDeputies : MethodName := ⟨RX2, "forgetDeputies", "()V"⟩
abbrev cX2_bandInTurn : ByteArray := prog_4_method_6_code
def yX2_bandInTurn : MethodName := ⟨RX2, "bandInTurn", "(I)I"⟩
abbrev cX2_play : ByteArray := prog_4_method_7_code
def yX2_play : MethodName := ⟨RX2, "play", "(I)V"⟩
abbrev cX2_marksOnceSeated : ByteArray := prog_4_method_8_code
def yX2_marksOnceSeated : MethodName := ⟨RX2, "marksOnceSeated", "(LBandDay$Band;)I"⟩
abbrev cX2_seatMembers : ByteArray := prog_4_method_9_code
def yX2_seatMembers : MethodName := ⟨RX2, "seatMembers", "(LBandDay$Band;)V"⟩
abbrev cX2_seatDeputies : ByteArray := prog_4_method_10_code
def yX2_seatDeputies : MethodName := ⟨RX2, "seatDeputies", "(LBandDay$Band;)V"⟩
abbrev cX2_deputyFor : ByteArray := prog_4_method_11_code
def yX2_deputyFor : MethodName := ⟨RX2, "deputyFor", "(LBandDay$Chair;)I"⟩
abbrev cX2_isOut : ByteArray := prog_4_method_12_code
def yX2_isOut : MethodName := ⟨RX2, "isOut", "(LBandDay$Band;)Z"⟩
abbrev cX2_marksAsSeated : ByteArray := prog_4_method_13_code
def yX2_marksAsSeated : MethodName := ⟨RX2, "marksAsSeated", "(LBandDay$Band;)I"⟩
abbrev cX2_marksFor : ByteArray := prog_4_method_14_code
def yX2_marksFor : MethodName := ⟨RX2, "marksFor", "(LBandDay$Player;I)I"⟩
abbrev cX2_noteSittings : ByteArray := prog_4_method_15_code
def yX2_noteSittings : MethodName := ⟨RX2, "noteSittings", "(LBandDay$Band;)V"⟩
abbrev cX2_moveLips : ByteArray := prog_4_method_16_code
def yX2_moveLips : MethodName := ⟨RX2, "moveLips", "()V"⟩
abbrev cX2_givePlaces : ByteArray := prog_4_method_17_code
def yX2_givePlaces : MethodName := ⟨RX2, "givePlaces", "()I"⟩
abbrev cX2_aheadByMarks : ByteArray := prog_4_method_18_code
def yX2_aheadByMarks : MethodName := ⟨RX2, "aheadByMarks", "(I)I"⟩
abbrev cX2_isAhead : ByteArray := prog_4_method_19_code
def yX2_isAhead : MethodName := ⟨RX2, "isAhead", "(II)Z"⟩
abbrev cX2_pointsFor : ByteArray := prog_4_method_20_code
def yX2_pointsFor : MethodName := ⟨RX2, "pointsFor", "(I)I"⟩
def RX3 : String := "BandDay$Player"
def TX3 : u_T := fun k => match k with
  | 0 => ("BandDay$Player", "skills", "[I", true)
  | 1 => ("BandDay$Player", "tired", "I", false)
  | 2 => ("BandDay$Player", "absences", "I", false)
  | 3 => ("BandDay$Player", "band", "I", false)
  | 4 => ("BandDay$Player", "seat", "I", false)
  | 5 => ("BandDay$Player", "sittings", "I", false)
  | 6 => ("BandDay$Player", "deputySittings", "I", false)
  | 7 => ("BandDay$Player", "deputyToday", "I", false)
  | _ => ("BandDay$Player", "sits", "Z", false)
def tyX3 : Nat → FieldType := fun k => match k with
  | 0 => .array .int
  | 1 => .int
  | 2 => .int
  | 3 => .int
  | 4 => .int
  | 5 => .int
  | 6 => .int
  | 7 => .int
  | _ => .boolean
abbrev wsX30 : List Cond := u_ws RX3 TX3 9
theorem nmX3 : ∀ a, a < 9 → ∀ b, b < 9 → a ≠ b → (TX3 a).2.1 ≠ (TX3 b).2.1 := by decide +kernel
theorem tyX3_ok : ∀ k, k < 9 → parseFieldDescriptor (TX3 k).2.2.1 = some (tyX3 k) := by decide +kernel
abbrev cX3_init : ByteArray := prog_5_method_1_code
def yX3_init : MethodName := ⟨RX3, "<init>", "()V"⟩
abbrev cX3_copyFrom : ByteArray := prog_5_method_2_code
def yX3_copyFrom : MethodName := ⟨RX3, "copyFrom", "(LBandDay$Player;)V"⟩
abbrev cX3_skillFor : ByteArray := prog_5_method_3_code
def yX3_skillFor : MethodName := ⟨RX3, "skillFor", "(I)I"⟩
abbrev cX3_isThere : ByteArray := prog_5_method_4_code
def yX3_isThere : MethodName := ⟨RX3, "isThere", "()Z"⟩
abbrev cX3_mayBeDeputy : ByteArray := prog_5_method_5_code
def yX3_mayBeDeputy : MethodName := ⟨RX3, "mayBeDeputy", "()Z"⟩
abbrev cX3_tire : ByteArray := prog_5_method_6_code
def yX3_tire : MethodName := ⟨RX3, "tire", "(I)V"⟩
abbrev cX3_rest : ByteArray := prog_5_method_7_code
def yX3_rest : MethodName := ⟨RX3, "rest", "(I)V"⟩
abbrev cX3_tell : ByteArray := prog_5_method_8_code
def yX3_tell : MethodName := ⟨RX3, "tell", "(I)I"⟩
def RX4 : String := "BandDay$Season"
def TX4 : u_T := fun k => match k with
  | 0 => ("BandDay$Season", "players", "[LBandDay$Player;", true)
  | 1 => ("BandDay$Season", "bands", "[LBandDay$Band;", true)
  | 2 => ("BandDay$Season", "hard", "[I", true)
  | 3 => ("BandDay$Season", "weight", "[I", true)
  | 4 => ("BandDay$Season", "playerCount", "I", false)
  | 5 => ("BandDay$Season", "bandCount", "I", false)
  | 6 => ("BandDay$Season", "contests", "I", false)
  | 7 => ("BandDay$Season", "deputies", "I", false)
  | _ => ("BandDay$Season", "empties", "I", false)
def tyX4 : Nat → FieldType := fun k => match k with
  | 0 => .array (.object "BandDay$Player")
  | 1 => .array (.object "BandDay$Band")
  | 2 => .array .int
  | 3 => .array .int
  | 4 => .int
  | 5 => .int
  | 6 => .int
  | 7 => .int
  | _ => .int
abbrev wsX40 : List Cond := u_ws RX4 TX4 9
theorem nmX4 : ∀ a, a < 9 → ∀ b, b < 9 → a ≠ b → (TX4 a).2.1 ≠ (TX4 b).2.1 := by decide +kernel
theorem tyX4_ok : ∀ k, k < 9 → parseFieldDescriptor (TX4 k).2.2.1 = some (tyX4 k) := by decide +kernel
abbrev cX4_init : ByteArray := prog_6_method_1_code
def yX4_init : MethodName := ⟨RX4, "<init>", "()V"⟩
abbrev cX4_copyFrom : ByteArray := prog_6_method_2_code
def yX4_copyFrom : MethodName := ⟨RX4, "copyFrom", "(LBandDay$Season;)V"⟩
abbrev cX4_playerAt : ByteArray := prog_6_method_3_code
def yX4_playerAt : MethodName := ⟨RX4, "playerAt", "(I)LBandDay$Player;"⟩
abbrev cX4_bandAt : ByteArray := prog_6_method_4_code
def yX4_bandAt : MethodName := ⟨RX4, "bandAt", "(I)LBandDay$Band;"⟩
abbrev cX4_chairAt : ByteArray := prog_6_method_5_code
def yX4_chairAt : MethodName := ⟨RX4, "chairAt", "(II)LBandDay$Chair;"⟩
abbrev cX4_hardFor : ByteArray := prog_6_method_6_code
def yX4_hardFor : MethodName := ⟨RX4, "hardFor", "(I)I"⟩
abbrev cX4_weightFor : ByteArray := prog_6_method_7_code
def yX4_weightFor : MethodName := ⟨RX4, "weightFor", "(I)I"⟩
abbrev cX4_enrol : ByteArray := prog_6_method_8_code
def yX4_enrol : MethodName := ⟨RX4, "enrol", "(IIII)I"⟩
abbrev cX4_open : ByteArray := prog_6_method_9_code
def yX4_open : MethodName := ⟨RX4, "open", "(II)I"⟩
abbrev cX4_leave : ByteArray := prog_6_method_10_code
def yX4_leave : MethodName := ⟨RX4, "leave", "(I)V"⟩
abbrev cX4_putOn : ByteArray := prog_6_method_11_code
def yX4_putOn : MethodName := ⟨RX4, "putOn", "(III)V"⟩
abbrev cX4_swapMembers : ByteArray := prog_6_method_12_code
def yX4_swapMembers : MethodName := ⟨RX4, "swapMembers", "(III)V"⟩
abbrev cX4_tireMembers : ByteArray := prog_6_method_13_code
def yX4_tireMembers : MethodName := ⟨RX4, "tireMembers", "(LBandDay$Band;I)V"⟩
abbrev cX4_membersInAll : ByteArray := prog_6_method_14_code
def yX4_membersInAll : MethodName := ⟨RX4, "membersInAll", "()I"⟩
abbrev cX4_absentInAll : ByteArray := prog_6_method_15_code
def yX4_absentInAll : MethodName := ⟨RX4, "absentInAll", "()I"⟩
abbrev cX4_tell : ByteArray := prog_6_method_16_code
def yX4_tell : MethodName := ⟨RX4, "tell", "(I)I"⟩
abbrev cX4_bandByPoints : ByteArray := prog_6_method_17_code
def yX4_bandByPoints : MethodName := ⟨RX4, "bandByPoints", "(I)I"⟩
abbrev cX4_aheadByPoints : ByteArray := prog_6_method_18_code
def yX4_aheadByPoints : MethodName := ⟨RX4, "aheadByPoints", "(I)I"⟩
abbrev cX4_bestFree : ByteArray := prog_6_method_19_code
def yX4_bestFree : MethodName := ⟨RX4, "bestFree", "(I)I"⟩
abbrev cX4_meanMarks : ByteArray := prog_6_method_20_code
def yX4_meanMarks : MethodName := ⟨RX4, "meanMarks", "()D"⟩
abbrev cX4_checksum : ByteArray := prog_6_method_21_code
def yX4_checksum : MethodName := ⟨RX4, "checksum", "()J"⟩
abbrev cX4_withBand : ByteArray := prog_6_method_22_code
def yX4_withBand : MethodName := ⟨RX4, "withBand", "(JLBandDay$Band;)J"⟩
def RX5 : String := "BandDay"
def TX5 : u_T := fun k => match k with
  | 0 => ("BandDay", "season", "LBandDay$Season;", true)
  | 1 => ("BandDay", "contest", "LBandDay$Contest;", true)
  | 2 => ("BandDay", "trial", "LBandDay$Season;", true)
  | _ => ("BandDay", "trialContest", "LBandDay$Contest;", true)
def tyX5 : Nat → FieldType := fun k => match k with
  | 0 => .object "BandDay$Season"
  | 1 => .object "BandDay$Contest"
  | 2 => .object "BandDay$Season"
  | _ => .object "BandDay$Contest"
abbrev wsX50 : List Cond := u_ws RX5 TX5 4
theorem nmX5 : ∀ a, a < 4 → ∀ b, b < 4 → a ≠ b → (TX5 a).2.1 ≠ (TX5 b).2.1 := by decide +kernel
theorem tyX5_ok : ∀ k, k < 4 → parseFieldDescriptor (TX5 k).2.2.1 = some (tyX5 k) := by decide +kernel
abbrev cX5_init : ByteArray := prog_1_method_1_code
def yX5_init : MethodName := ⟨RX5, "<init>", "()V"⟩
abbrev cX5_addPlayer : ByteArray := prog_1_method_2_code
def yX5_addPlayer : MethodName := ⟨RX5, "addPlayer", "(IIII)I"⟩
abbrev cX5_found : ByteArray := prog_1_method_3_code
def yX5_found : MethodName := ⟨RX5, "found", "(I)I"⟩
abbrev cX5_seat : ByteArray := prog_1_method_4_code
def yX5_seat : MethodName := ⟨RX5, "seat", "(III)I"⟩
abbrev cX5_change : ByteArray := prog_1_method_5_code
def yX5_change : MethodName := ⟨RX5, "change", "(III)I"⟩
abbrev cX5_absent : ByteArray := prog_1_method_6_code
def yX5_absent : MethodName := ⟨RX5, "absent", "(II)I"⟩
abbrev cX5_rehearse : ByteArray := prog_1_method_7_code
def yX5_rehearse : MethodName := ⟨RX5, "rehearse", "(I)I"⟩
abbrev cX5_setPiece : ByteArray := prog_1_method_8_code
def yX5_setPiece : MethodName := ⟨RX5, "setPiece", "(II)I"⟩
abbrev cX5_setTaste : ByteArray := prog_1_method_9_code
def yX5_setTaste : MethodName := ⟨RX5, "setTaste", "(II)I"⟩
abbrev cX5_player : ByteArray := prog_1_method_10_code
def yX5_player : MethodName := ⟨RX5, "player", "(II)I"⟩
abbrev cX5_band : ByteArray := prog_1_method_11_code
def yX5_band : MethodName := ⟨RX5, "band", "(II)I"⟩
abbrev cX5_chair : ByteArray := prog_1_method_12_code
def yX5_chair : MethodName := ⟨RX5, "chair", "(III)I"⟩
abbrev cX5_contest : ByteArray := prog_1_method_13_code
def yX5_contest : MethodName := ⟨RX5, "contest", "()I"⟩
abbrev cX5_rank : ByteArray := prog_1_method_14_code
def yX5_rank : MethodName := ⟨RX5, "rank", "(I)I"⟩
abbrev cX5_count : ByteArray := prog_1_method_15_code
def yX5_count : MethodName := ⟨RX5, "count", "(I)I"⟩
abbrev cX5_foresee : ByteArray := prog_1_method_16_code
def yX5_foresee : MethodName := ⟨RX5, "foresee", "(III)I"⟩
abbrev cX5_advise : ByteArray := prog_1_method_17_code
def yX5_advise : MethodName := ⟨RX5, "advise", "(I)I"⟩
abbrev cX5_free : ByteArray := prog_1_method_18_code
def yX5_free : MethodName := ⟨RX5, "free", "(I)I"⟩
abbrev cX5_mean : ByteArray := prog_1_method_19_code
def yX5_mean : MethodName := ⟨RX5, "mean", "()D"⟩
abbrev cX5_digest : ByteArray := prog_1_method_20_code
def yX5_digest : MethodName := ⟨RX5, "digest", "()J"⟩
abbrev cX5_isSkill : ByteArray := prog_1_method_21_code
def yX5_isSkill : MethodName := ⟨RX5, "isSkill", "(I)Z"⟩
abbrev cX5_seatsIn : ByteArray := prog_1_method_22_code
def yX5_seatsIn : MethodName := ⟨RX5, "seatsIn", "(I)I"⟩
abbrev cX5_needInstrument : ByteArray := prog_1_method_23_code
def yX5_needInstrument : MethodName := ⟨RX5, "needInstrument", "(I)V"⟩
abbrev cX5_needWhat : ByteArray := prog_1_method_24_code
def yX5_needWhat : MethodName := ⟨RX5, "needWhat", "(II)V"⟩
abbrev cX5_needPlayer : ByteArray := prog_1_method_25_code
def yX5_needPlayer : MethodName := ⟨RX5, "needPlayer", "(I)LBandDay$Player;"⟩
abbrev cX5_needBand : ByteArray := prog_1_method_26_code
def yX5_needBand : MethodName := ⟨RX5, "needBand", "(I)LBandDay$Band;"⟩
abbrev cX5_needChair : ByteArray := prog_1_method_27_code
def yX5_needChair : MethodName := ⟨RX5, "needChair", "(II)LBandDay$Chair;"⟩
def RX6 : String := "BandDayModel$State"
def TX6 : u_T := fun k => match k with
  | 0 => ("BandDayModel$State", "contests", "I", false)
  | 1 => ("BandDayModel$State", "deputies", "I", false)
  | 2 => ("BandDayModel$State", "empties", "I", false)
  | 3 => ("BandDayModel$State", "tired", "[I", true)
  | 4 => ("BandDayModel$State", "absent", "[I", true)
  | 5 => ("BandDayModel$State", "sat", "[I", true)
  | 6 => ("BandDayModel$State", "deputy", "[I", true)
  | 7 => ("BandDayModel$State", "member", "[I", true)
  | 8 => ("BandDayModel$State", "who", "[I", true)
  | 9 => ("BandDayModel$State", "spirit", "[I", true)
  | 10 => ("BandDayModel$State", "points", "[I", true)
  | 11 => ("BandDayModel$State", "outs", "[I", true)
  | 12 => ("BandDayModel$State", "latest", "[I", true)
  | 13 => ("BandDayModel$State", "times", "[I", true)
  | _ => ("BandDayModel$State", "this$0", "LBandDayModel;", true)
def tyX6 : Nat → FieldType := fun k => match k with
  | 0 => .int
  | 1 => .int
  | 2 => .int
  | 3 => .array .int
  | 4 => .array .int
  | 5 => .array .int
  | 6 => .array .int
  | 7 => .array .int
  | 8 => .array .int
  | 9 => .array .int
  | 10 => .array .int
  | 11 => .array .int
  | 12 => .array .int
  | 13 => .array .int
  | _ => .object "BandDayModel"
abbrev wsX60 : List Cond := u_ws RX6 TX6 15
theorem nmX6 : ∀ a, a < 15 → ∀ b, b < 15 → a ≠ b → (TX6 a).2.1 ≠ (TX6 b).2.1 := by decide +kernel
theorem tyX6_ok : ∀ k, k < 15 → parseFieldDescriptor (TX6 k).2.2.1 = some (tyX6 k) := by decide +kernel
abbrev cX6_init : ByteArray := prog_9_method_1_code
def yX6_init : MethodName := ⟨RX6, "<init>", "(LBandDayModel;)V"⟩
abbrev cX6_copy : ByteArray := prog_9_method_2_code
def yX6_copy : MethodName := ⟨RX6, "copy", "([I[I)V"⟩
abbrev cX6_become : ByteArray := prog_9_method_3_code
def yX6_become : MethodName := ⟨RX6, "become", "(LBandDayModel$State;)V"⟩
abbrev cX6_sits : ByteArray := prog_9_method_4_code
def yX6_sits : MethodName := ⟨RX6, "sits", "(II)Z"⟩
abbrev cX6_find : ByteArray := prog_9_method_5_code
def yX6_find : MethodName := ⟨RX6, "find", "(II)I"⟩
abbrev cX6_play : ByteArray := prog_9_method_6_code
def yX6_play : MethodName := ⟨RX6, "play", "(I)V"⟩
abbrev cX6_isAhead : ByteArray := prog_9_method_7_code
def yX6_isAhead : MethodName := ⟨RX6, "isAhead", "(II)Z"⟩
abbrev cX6_contest : ByteArray := prog_9_method_8_code
def yX6_contest : MethodName := ⟨RX6, "contest", "()I"⟩
abbrev cX6_seatOf : ByteArray := prog_9_method_9_code
def yX6_seatOf : MethodName := ⟨RX6, "seatOf", "(I)I"⟩
abbrev cX6_members : ByteArray := prog_9_method_10_code
def yX6_members : MethodName := ⟨RX6, "members", "(I)I"⟩
def RX7 : String := "BandDayModel"
def TX7 : u_T := fun k => match k with
  | 0 => ("BandDayModel", "thrown", "I", false)
  | 1 => ("BandDayModel", "players", "I", false)
  | 2 => ("BandDayModel", "skill", "[I", true)
  | 3 => ("BandDayModel", "bands", "I", false)
  | 4 => ("BandDayModel", "seats", "[I", true)
  | 5 => ("BandDayModel", "instrument", "[I", true)
  | 6 => ("BandDayModel", "hard", "[I", true)
  | 7 => ("BandDayModel", "weight", "[I", true)
  | 8 => ("BandDayModel", "s", "LBandDayModel$State;", true)
  | _ => ("BandDayModel", "ahead", "LBandDayModel$State;", true)
def tyX7 : Nat → FieldType := fun k => match k with
  | 0 => .int
  | 1 => .int
  | 2 => .array .int
  | 3 => .int
  | 4 => .array .int
  | 5 => .array .int
  | 6 => .array .int
  | 7 => .array .int
  | 8 => .object "BandDayModel$State"
  | _ => .object "BandDayModel$State"
abbrev wsX70 : List Cond := u_ws RX7 TX7 10
theorem nmX7 : ∀ a, a < 10 → ∀ b, b < 10 → a ≠ b → (TX7 a).2.1 ≠ (TX7 b).2.1 := by decide +kernel
theorem tyX7_ok : ∀ k, k < 10 → parseFieldDescriptor (TX7 k).2.2.1 = some (tyX7 k) := by decide +kernel
abbrev cX7_init : ByteArray := prog_8_method_1_code
def yX7_init : MethodName := ⟨RX7, "<init>", "()V"⟩
abbrev cX7_thrown : ByteArray := prog_8_method_2_code
def yX7_thrown : MethodName := ⟨RX7, "thrown", "()I"⟩
abbrev cX7_no : ByteArray := prog_8_method_3_code
def yX7_no : MethodName := ⟨RX7, "no", "(I)I"⟩
abbrev cX7_isIn : ByteArray := prog_8_method_4_code
def yX7_isIn : MethodName := ⟨RX7, "isIn", "(III)Z"⟩
abbrev cX7_isPlayer : ByteArray := prog_8_method_5_code
def yX7_isPlayer : MethodName := ⟨RX7, "isPlayer", "(I)Z"⟩
abbrev cX7_isBand : ByteArray := prog_8_method_6_code
def yX7_isBand : MethodName := ⟨RX7, "isBand", "(I)Z"⟩
abbrev cX7_isSeat : ByteArray := prog_8_method_7_code
def yX7_isSeat : MethodName := ⟨RX7, "isSeat", "(II)Z"⟩
abbrev cX7_addPlayer : ByteArray := prog_8_method_8_code
def yX7_addPlayer : MethodName := ⟨RX7, "addPlayer", "(IIII)I"⟩
abbrev cX7_found : ByteArray := prog_8_method_9_code
def yX7_found : MethodName := ⟨RX7, "found", "(I)I"⟩
abbrev cX7_seat : ByteArray := prog_8_method_10_code
def yX7_seat : MethodName := ⟨RX7, "seat", "(III)I"⟩
abbrev cX7_swap : ByteArray := prog_8_method_11_code
def yX7_swap : MethodName := ⟨RX7, "swap", "(LBandDayModel$State;II)V"⟩
abbrev cX7_change : ByteArray := prog_8_method_12_code
def yX7_change : MethodName := ⟨RX7, "change", "(III)I"⟩
abbrev cX7_absent : ByteArray := prog_8_method_13_code
def yX7_absent : MethodName := ⟨RX7, "absent", "(II)I"⟩
abbrev cX7_rehearse : ByteArray := prog_8_method_14_code
def yX7_rehearse : MethodName := ⟨RX7, "rehearse", "(I)I"⟩
abbrev cX7_setPiece : ByteArray := prog_8_method_15_code
def yX7_setPiece : MethodName := ⟨RX7, "setPiece", "(II)I"⟩
abbrev cX7_setTaste : ByteArray := prog_8_method_16_code
def yX7_setTaste : MethodName := ⟨RX7, "setTaste", "(II)I"⟩
abbrev cX7_playerTold : ByteArray := prog_8_method_17_code
def yX7_playerTold : MethodName := ⟨RX7, "playerTold", "(II)I"⟩
abbrev cX7_player : ByteArray := prog_8_method_18_code
def yX7_player : MethodName := ⟨RX7, "player", "(II)I"⟩
abbrev cX7_bandTold : ByteArray := prog_8_method_19_code
def yX7_bandTold : MethodName := ⟨RX7, "bandTold", "(II)I"⟩
abbrev cX7_band : ByteArray := prog_8_method_20_code
def yX7_band : MethodName := ⟨RX7, "band", "(II)I"⟩
abbrev cX7_chairTold : ByteArray := prog_8_method_21_code
def yX7_chairTold : MethodName := ⟨RX7, "chairTold", "(II)I"⟩
abbrev cX7_chair : ByteArray := prog_8_method_22_code
def yX7_chair : MethodName := ⟨RX7, "chair", "(III)I"⟩
abbrev cX7_contest : ByteArray := prog_8_method_23_code
def yX7_contest : MethodName := ⟨RX7, "contest", "()I"⟩
abbrev cX7_rank : ByteArray := prog_8_method_24_code
def yX7_rank : MethodName := ⟨RX7, "rank", "(I)I"⟩
abbrev cX7_counted : ByteArray := prog_8_method_25_code
def yX7_counted : MethodName := ⟨RX7, "counted", "(I)I"⟩
abbrev cX7_count : ByteArray := prog_8_method_26_code
def yX7_count : MethodName := ⟨RX7, "count", "(I)I"⟩
abbrev cX7_foresee : ByteArray := prog_8_method_27_code
def yX7_foresee : MethodName := ⟨RX7, "foresee", "(III)I"⟩
abbrev cX7_advise : ByteArray := prog_8_method_28_code
def yX7_advise : MethodName := ⟨RX7, "advise", "(I)I"⟩
abbrev cX7_free : ByteArray := prog_8_method_29_code
def yX7_free : MethodName := ⟨RX7, "free", "(I)I"⟩
abbrev cX7_mean : ByteArray := prog_8_method_30_code
def yX7_mean : MethodName := ⟨RX7, "mean", "()D"⟩
abbrev cX7_digest : ByteArray := prog_8_method_31_code
def yX7_digest : MethodName := ⟨RX7, "digest", "()J"⟩
def RJ9 : String := "java/lang/Math"
def TJ9 : u_T := fun k => match k with
  | _ => ("", "", "", false)
def tyJ9 : Nat → FieldType := fun k => match k with
  | _ => .int
abbrev wsJ90 : List Cond := u_ws RJ9 TJ9 0
theorem nmJ9 : ∀ a, a < 0 → ∀ b, b < 0 → a ≠ b → (TJ9 a).2.1 ≠ (TJ9 b).2.1 := by decide +kernel
theorem tyJ9_ok : ∀ k, k < 0 → parseFieldDescriptor (TJ9 k).2.2.1 = some (tyJ9 k) := by decide +kernel
abbrev cJ9_max_7cf53 : ByteArray := prog_14_method_65_code
def yJ9_max_7cf53 : MethodName := ⟨RJ9, "max", "(II)I"⟩
abbrev cJ9_min_7cf53 : ByteArray := prog_14_method_69_code
def yJ9_min_7cf53 : MethodName := ⟨RJ9, "min", "(II)I"⟩
def RJ0 : String := "java/lang/String"
def TJ0 : u_T := fun k => match k with
  | _ => ("", "", "", false)
def tyJ0 : Nat → FieldType := fun k => match k with
  | _ => .int
abbrev wsJ00 : List Cond := u_ws RJ0 TJ0 0
theorem nmJ0 : ∀ a, a < 0 → ∀ b, b < 0 → a ≠ b → (TJ0 a).2.1 ≠ (TJ0 b).2.1 := by decide +kernel
theorem tyJ0_ok : ∀ k, k < 0 → parseFieldDescriptor (TJ0 k).2.2.1 = some (tyJ0 k) := by decide +kernel
def RJ10 : String := "java/lang/System"
def TJ10 : u_T := fun k => match k with
  | _ => ("", "", "", false)
def tyJ10 : Nat → FieldType := fun k => match k with
  | _ => .int
abbrev wsJ100 : List Cond := u_ws RJ10 TJ10 0
theorem nmJ10 : ∀ a, a < 0 → ∀ b, b < 0 → a ≠ b → (TJ10 a).2.1 ≠ (TJ10 b).2.1 := by decide +kernel
theorem tyJ10_ok : ∀ k, k < 0 → parseFieldDescriptor (TJ10 k).2.2.1 = some (tyJ10 k) := by decide +kernel
def RL : String := "BandDayLaw"
abbrev cL_addPlayer : ByteArray := method_3_code
def yL_addPlayer : MethodName := ⟨RL, "addPlayer", "(LBandDay;IIII[J)I"⟩
abbrev cL_found : ByteArray := method_4_code
def yL_found : MethodName := ⟨RL, "found", "(LBandDay;I[J)I"⟩
abbrev cL_seat : ByteArray := method_5_code
def yL_seat : MethodName := ⟨RL, "seat", "(LBandDay;III[J)I"⟩
abbrev cL_change : ByteArray := method_6_code
def yL_change : MethodName := ⟨RL, "change", "(LBandDay;III[J)I"⟩
abbrev cL_absent : ByteArray := method_7_code
def yL_absent : MethodName := ⟨RL, "absent", "(LBandDay;II[J)I"⟩
abbrev cL_rehearse : ByteArray := method_8_code
def yL_rehearse : MethodName := ⟨RL, "rehearse", "(LBandDay;I[J)I"⟩
abbrev cL_setPiece : ByteArray := method_9_code
def yL_setPiece : MethodName := ⟨RL, "setPiece", "(LBandDay;II[J)I"⟩
abbrev cL_setTaste : ByteArray := method_10_code
def yL_setTaste : MethodName := ⟨RL, "setTaste", "(LBandDay;II[J)I"⟩
abbrev cL_player : ByteArray := method_11_code
def yL_player : MethodName := ⟨RL, "player", "(LBandDay;II[J)I"⟩
abbrev cL_band : ByteArray := method_12_code
def yL_band : MethodName := ⟨RL, "band", "(LBandDay;II[J)I"⟩
abbrev cL_chair : ByteArray := method_13_code
def yL_chair : MethodName := ⟨RL, "chair", "(LBandDay;III[J)I"⟩
abbrev cL_contest : ByteArray := method_14_code
def yL_contest : MethodName := ⟨RL, "contest", "(LBandDay;[J)I"⟩
abbrev cL_rank : ByteArray := method_15_code
def yL_rank : MethodName := ⟨RL, "rank", "(LBandDay;I[J)I"⟩
abbrev cL_count : ByteArray := method_16_code
def yL_count : MethodName := ⟨RL, "count", "(LBandDay;I[J)I"⟩
abbrev cL_foresee : ByteArray := method_17_code
def yL_foresee : MethodName := ⟨RL, "foresee", "(LBandDay;III[J)I"⟩
abbrev cL_advise : ByteArray := method_18_code
def yL_advise : MethodName := ⟨RL, "advise", "(LBandDay;I[J)I"⟩
abbrev cL_free : ByteArray := method_19_code
def yL_free : MethodName := ⟨RL, "free", "(LBandDay;I[J)I"⟩
abbrev cL_law : ByteArray := code
def yL_law : MethodName := ⟨RL, "law", "([I)Z"⟩
def wsL_law0_r1 : List Cond := [Cond.classLink RL 8 RX5, Cond.instantiable RX5 4, Cond.initialized RX5, Cond.classLink RL 72 RX7, Cond.instantiable RX7 10, Cond.initialized RX7, Cond.arrayClass .long, Cond.methodLink RL 71 yX5_init, Cond.instanceMethod yX5_init, Cond.code yX5_init cX5_init 1 none, Cond.methodLink RX5 1 objectInit, Cond.instanceMethod objectInit, Cond.code objectInit ⟨#[0xb1]⟩ 1 none, Cond.classLink RX5 7 RX4, Cond.instantiable RX4 9, Cond.initialized RX4, Cond.fieldLink RX5 10 "BandDay" "season" "LBandDay$Season;", Cond.classLink RX5 16 RX2, Cond.instantiable RX2 1, Cond.initialized RX2, Cond.fieldLink RX5 21 "BandDay" "contest" "LBandDay$Contest;", Cond.fieldLink RX5 25 "BandDay" "trial" "LBandDay$Season;", Cond.fieldLink RX5 28 "BandDay" "trialContest" "LBandDay$Contest;", Cond.methodLink RX5 9 yX4_init]
def wsL_law0_r2 : List Cond := [Cond.instanceMethod yX4_init, Cond.code yX4_init cX4_init 2 none, Cond.methodLink RX4 3 objectInit, Cond.classLink RX4 9 RX3, Cond.fieldLink RX4 11 "BandDay$Season" "players" "[LBandDay$Player;", Cond.classLink RX4 17 RX0, Cond.fieldLink RX4 19 "BandDay$Season" "bands" "[LBandDay$Band;", Cond.arrayClass .int, Cond.fieldLink RX4 23 "BandDay$Season" "hard" "[I", Cond.fieldLink RX4 27 "BandDay$Season" "weight" "[I", Cond.instantiable RX3 9, Cond.initialized RX3, Cond.instantiable RX0 9, Cond.initialized RX0, Cond.instanceMethod yX3_init, Cond.code yX3_init cX3_init 1 none, Cond.methodLink RX3 3 objectInit, Cond.fieldLink RX3 9 "BandDay$Player" "skills" "[I", Cond.fieldLink RX3 15 "BandDay$Player" "band" "I", Cond.fieldLink RX3 19 "BandDay$Player" "seat" "I", Cond.methodLink RX4 31 yX0_init, Cond.instanceMethod yX0_init, Cond.code yX0_init cX0_init 2 none, Cond.methodLink RX0 3 objectInit]
def wsL_law0_r3 : List Cond := [Cond.classLink RX0 9 RX1, Cond.fieldLink RX0 11 "BandDay$Band" "chairs" "[LBandDay$Chair;", Cond.fieldLink RX0 17 "BandDay$Band" "marks" "I", Cond.fieldLink RX0 21 "BandDay$Band" "place" "I", Cond.fieldLink RX0 24 "BandDay$Band" "deputies" "I", Cond.fieldLink RX0 27 "BandDay$Band" "empties" "I", Cond.instantiable RX1 3, Cond.initialized RX1, Cond.instanceMethod yX1_init, Cond.code yX1_init cX1_init 1 none, Cond.methodLink RX1 3 objectInit, Cond.fieldLink RX1 9 "BandDay$Chair" "member" "I", Cond.fieldLink RX1 15 "BandDay$Chair" "sitter" "I", Cond.methodLink RX5 18 yX2_init, Cond.instanceMethod yX2_init, Cond.code yX2_init cX2_init 2 none, Cond.methodLink RX2 3 objectInit, Cond.fieldLink RX2 9 "BandDay$Contest" "season" "LBandDay$Season;", Cond.methodLink RL 74 yX7_init, Cond.instanceMethod yX7_init, Cond.code yX7_init cX7_init 1 none, Cond.methodLink RX7 1 objectInit, Cond.fieldLink RX7 9 "BandDayModel" "skill" "[I", Cond.fieldLink RX7 13 "BandDayModel" "seats" "[I"]
def wsL_law0_r4 : List Cond := [Cond.fieldLink RX7 16 "BandDayModel" "instrument" "[I", Cond.fieldLink RX7 19 "BandDayModel" "hard" "[I", Cond.fieldLink RX7 22 "BandDayModel" "weight" "[I", Cond.classLink RX7 25 RX6, Cond.instantiable RX6 15, Cond.initialized RX6, Cond.fieldLink RX7 30 "BandDayModel" "s" "LBandDayModel$State;", Cond.fieldLink RX7 34 "BandDayModel" "ahead" "LBandDayModel$State;", Cond.instanceMethod yX6_init, Cond.code yX6_init cX6_init 2 none, Cond.fieldLink RX6 3 "BandDayModel$State" "this$0" "LBandDayModel;", Cond.methodLink RX6 9 objectInit, Cond.fieldLink RX6 15 "BandDayModel$State" "tired" "[I", Cond.fieldLink RX6 19 "BandDayModel$State" "absent" "[I", Cond.fieldLink RX6 22 "BandDayModel$State" "sat" "[I", Cond.fieldLink RX6 25 "BandDayModel$State" "deputy" "[I", Cond.fieldLink RX6 28 "BandDayModel$State" "member" "[I", Cond.fieldLink RX6 31 "BandDayModel$State" "who" "[I", Cond.fieldLink RX6 34 "BandDayModel$State" "spirit" "[I", Cond.fieldLink RX6 37 "BandDayModel$State" "points" "[I", Cond.fieldLink RX6 40 "BandDayModel$State" "outs" "[I", Cond.fieldLink RX6 43 "BandDayModel$State" "latest" "[I", Cond.fieldLink RX6 46 "BandDayModel$State" "times" "[I", Cond.methodLink RL 75 yL_addPlayer]
def wsL_law0_r5 : List Cond := [Cond.static yL_addPlayer, Cond.initialized RL, Cond.codeWith yL_addPlayer cL_addPlayer 7 (some .int) [(0, 14, 17, 13), (0, 14, 21, 15)], Cond.classLink RL 13 "java/lang/IllegalArgumentException", Cond.classLink RL 15 "java/lang/IllegalStateException", Cond.methodLink RL 7 yX5_addPlayer, Cond.instanceMethod yX5_addPlayer, Cond.selects RX5 yX5_addPlayer yX5_addPlayer, Cond.code yX5_addPlayer cX5_addPlayer 5 (some .int), Cond.classLink RX5 35 "java/lang/IllegalArgumentException", Cond.initialized "java/lang/IllegalArgumentException", Cond.classLink RX5 46 "java/lang/IllegalStateException", Cond.initialized "java/lang/IllegalStateException", Cond.fieldLink RX5 42 "BandDay$Season" "playerCount" "I", Cond.methodLink RX5 31 yX5_isSkill, Cond.static yX5_isSkill, Cond.code yX5_isSkill cX5_isSkill 1 (some .boolean), Cond.methodLink RX5 51 yX4_enrol, Cond.instanceMethod yX4_enrol, Cond.selects RX4 yX4_enrol yX4_enrol, Cond.code yX4_enrol cX4_enrol 6 (some .int), Cond.fieldLink RX4 32 "BandDay$Season" "playerCount" "I", Cond.fieldLink RX4 69 "BandDay$Player" "skills" "[I", Cond.methodLink RL 80 yX7_addPlayer]
def wsL_law0_r6 : List Cond := [Cond.instanceMethod yX7_addPlayer, Cond.selects RX7 yX7_addPlayer yX7_addPlayer, Cond.code yX7_addPlayer cX7_addPlayer 6 (some .int), Cond.fieldLink RX7 37 "BandDayModel" "thrown" "I", Cond.fieldLink RX7 41 "BandDayModel" "players" "I", Cond.methodLink RX7 59 arraycopyName, Cond.native arraycopyName, Cond.static arraycopyName, Cond.initialized "java/lang/System", Cond.methodLink RX7 44 yX7_isIn, Cond.static yX7_isIn, Cond.code yX7_isIn cX7_isIn 3 (some .boolean), Cond.methodLink RX7 55 yX7_no, Cond.instanceMethod yX7_no, Cond.selects RX7 yX7_no yX7_no, Cond.code yX7_no cX7_no 2 (some .int), Cond.methodLink RL 81 yX7_thrown, Cond.instanceMethod yX7_thrown, Cond.selects RX7 yX7_thrown yX7_thrown, Cond.code yX7_thrown cX7_thrown 1 (some .int), Cond.methodLink RL 84 yL_found, Cond.static yL_found, Cond.codeWith yL_found cL_found 4 (some .int) [(0, 9, 12, 13), (0, 9, 15, 15)], Cond.methodLink RL 17 yX5_found]
def wsL_law0_r7 : List Cond := [Cond.instanceMethod yX5_found, Cond.selects RX5 yX5_found yX5_found, Cond.code yX5_found cX5_found 3 (some .int), Cond.fieldLink RX5 61 "BandDay$Season" "bandCount" "I", Cond.methodLink RX5 55 yX5_seatsIn, Cond.static yX5_seatsIn, Cond.code yX5_seatsIn cX5_seatsIn 4 (some .int), Cond.methodLink RX5 66 yX4_open, Cond.instanceMethod yX4_open, Cond.selects RX4 yX4_open yX4_open, Cond.code yX4_open cX4_open 3 (some .int), Cond.fieldLink RX4 40 "BandDay$Season" "bandCount" "I", Cond.methodLink RX4 72 yX0_furnish, Cond.instanceMethod yX0_furnish, Cond.selects RX0 yX0_furnish yX0_furnish, Cond.code yX0_furnish cX0_furnish 5 none, Cond.methodLink RX0 47 Lib.Math.min.name, Cond.static Lib.Math.min.name, Cond.initialized "java/lang/Math", Cond.code Lib.Math.min.name Lib.Math.min.code 2 (some .int), Cond.fieldLink RX0 31 "BandDay$Band" "size" "I", Cond.fieldLink RX0 53 "BandDay$Chair" "instrument" "I", Cond.methodLink RL 87 yX7_found, Cond.instanceMethod yX7_found]
def wsL_law0_r8 : List Cond := [Cond.selects RX7 yX7_found yX7_found, Cond.code yX7_found cX7_found 6 (some .int), Cond.constant RX7 65 (100000000), Cond.fieldLink RX7 48 "BandDayModel" "bands" "I", Cond.methodLink RL 88 yL_seat, Cond.static yL_seat, Cond.codeWith yL_seat cL_seat 6 (some .int) [(0, 12, 15, 25), (0, 12, 19, 15)], Cond.classLink RL 25 "java/lang/IndexOutOfBoundsException", Cond.methodLink RL 21 yX5_seat, Cond.instanceMethod yX5_seat, Cond.selects RX5 yX5_seat yX5_seat, Cond.code yX5_seat cX5_seat 6 (some .int), Cond.fieldLink RX5 78 "BandDay$Chair" "member" "I", Cond.methodLink RX5 70 yX5_needChair, Cond.instanceMethod yX5_needChair, Cond.selects RX5 yX5_needChair yX5_needChair, Cond.code yX5_needChair cX5_needChair 4 (some (.object "BandDay$Chair")), Cond.classLink RX5 148 "java/lang/IndexOutOfBoundsException", Cond.initialized "java/lang/IndexOutOfBoundsException", Cond.methodLink RX5 103 yX5_needBand, Cond.instanceMethod yX5_needBand, Cond.selects RX5 yX5_needBand yX5_needBand, Cond.code yX5_needBand cX5_needBand 3 (some (.object "BandDay$Band")), Cond.methodLink RX5 162 yX4_bandAt]
def wsL_law0_r9 : List Cond := [Cond.instanceMethod yX4_bandAt, Cond.selects RX4 yX4_bandAt yX4_bandAt, Cond.code yX4_bandAt cX4_bandAt 2 (some (.object "BandDay$Band")), Cond.methodLink RX5 196 yX0_chairAt, Cond.instanceMethod yX0_chairAt, Cond.selects RX0 yX0_chairAt yX0_chairAt, Cond.code yX0_chairAt cX0_chairAt 2 (some (.object "BandDay$Chair")), Cond.methodLink RX5 74 yX5_needPlayer, Cond.instanceMethod yX5_needPlayer, Cond.selects RX5 yX5_needPlayer yX5_needPlayer, Cond.code yX5_needPlayer cX5_needPlayer 3 (some (.object "BandDay$Player")), Cond.methodLink RX5 189 yX4_playerAt, Cond.instanceMethod yX4_playerAt, Cond.selects RX4 yX4_playerAt yX4_playerAt, Cond.code yX4_playerAt cX4_playerAt 2 (some (.object "BandDay$Player")), Cond.methodLink RX5 85 yX4_leave, Cond.instanceMethod yX4_leave, Cond.selects RX4 yX4_leave yX4_leave, Cond.code yX4_leave cX4_leave 4 none, Cond.fieldLink RX4 80 "BandDay$Player" "band" "I", Cond.fieldLink RX4 83 "BandDay$Player" "seat" "I", Cond.fieldLink RX4 89 "BandDay$Chair" "member" "I", Cond.methodLink RX4 76 yX4_playerAt, Cond.methodLink RX4 86 yX4_chairAt]
def wsL_law0_r10 : List Cond := [Cond.instanceMethod yX4_chairAt, Cond.selects RX4 yX4_chairAt yX4_chairAt, Cond.code yX4_chairAt cX4_chairAt 4 (some (.object "BandDay$Chair")), Cond.methodLink RX4 61 yX4_bandAt, Cond.methodLink RX4 65 yX0_chairAt, Cond.methodLink RX5 89 yX4_putOn, Cond.instanceMethod yX4_putOn, Cond.selects RX4 yX4_putOn yX4_putOn, Cond.code yX4_putOn cX4_putOn 6 none, Cond.methodLink RL 91 yX7_seat, Cond.instanceMethod yX7_seat, Cond.selects RX7 yX7_seat yX7_seat, Cond.code yX7_seat cX7_seat 7 (some .int), Cond.methodLink RX7 75 yX7_isSeat, Cond.instanceMethod yX7_isSeat, Cond.selects RX7 yX7_isSeat yX7_isSeat, Cond.code yX7_isSeat cX7_isSeat 3 (some .boolean), Cond.methodLink RX7 51 yX7_isBand, Cond.instanceMethod yX7_isBand, Cond.selects RX7 yX7_isBand yX7_isBand, Cond.code yX7_isBand cX7_isBand 2 (some .boolean), Cond.methodLink RX7 79 yX7_isPlayer, Cond.instanceMethod yX7_isPlayer, Cond.selects RX7 yX7_isPlayer yX7_isPlayer]
def wsL_law0_r11 : List Cond := [Cond.code yX7_isPlayer cX7_isPlayer 2 (some .boolean), Cond.methodLink RX7 82 yX6_seatOf, Cond.instanceMethod yX6_seatOf, Cond.selects RX6 yX6_seatOf yX6_seatOf, Cond.code yX6_seatOf cX6_seatOf 3 (some .int), Cond.methodLink RL 92 yL_change, Cond.static yL_change, Cond.codeWith yL_change cL_change 6 (some .int) [(0, 12, 15, 25)], Cond.methodLink RL 27 yX5_change, Cond.instanceMethod yX5_change, Cond.selects RX5 yX5_change yX5_change, Cond.code yX5_change cX5_change 5 (some .int), Cond.methodLink RX5 93 yX4_swapMembers, Cond.instanceMethod yX4_swapMembers, Cond.selects RX4 yX4_swapMembers yX4_swapMembers, Cond.code yX4_swapMembers cX4_swapMembers 8 none, Cond.methodLink RX4 94 yX4_putOn, Cond.methodLink RL 94 yX7_change, Cond.instanceMethod yX7_change, Cond.selects RX7 yX7_change yX7_change, Cond.code yX7_change cX7_change 4 (some .int), Cond.methodLink RX7 85 yX7_swap, Cond.static yX7_swap, Cond.code yX7_swap cX7_swap 4 none]
def wsL_law0_r12 : List Cond := [Cond.methodLink RL 95 yL_absent, Cond.static yL_absent, Cond.codeWith yL_absent cL_absent 5 (some .int) [(0, 10, 13, 25), (0, 10, 17, 13)], Cond.methodLink RL 30 yX5_absent, Cond.instanceMethod yX5_absent, Cond.selects RX5 yX5_absent yX5_absent, Cond.code yX5_absent cX5_absent 5 (some .int), Cond.fieldLink RX5 98 "BandDay$Player" "absences" "I", Cond.methodLink RL 98 yX7_absent, Cond.instanceMethod yX7_absent, Cond.selects RX7 yX7_absent yX7_absent, Cond.code yX7_absent cX7_absent 4 (some .int), Cond.methodLink RL 99 yL_rehearse, Cond.static yL_rehearse, Cond.codeWith yL_rehearse cL_rehearse 4 (some .int) [(0, 9, 12, 25)], Cond.methodLink RL 34 yX5_rehearse, Cond.instanceMethod yX5_rehearse, Cond.selects RX5 yX5_rehearse yX5_rehearse, Cond.code yX5_rehearse cX5_rehearse 3 (some .int), Cond.fieldLink RX5 116 "BandDay$Band" "spirit" "I", Cond.methodLink RX5 107 yX0_raiseSpirit, Cond.instanceMethod yX0_raiseSpirit, Cond.selects RX0 yX0_raiseSpirit yX0_raiseSpirit, Cond.code yX0_raiseSpirit cX0_raiseSpirit 2 none]
def wsL_law0_r13 : List Cond := [Cond.fieldLink RX0 38 "BandDay$Band" "spirit" "I", Cond.methodLink RX0 56 Lib.Math.max.name, Cond.static Lib.Math.max.name, Cond.code Lib.Math.max.name Lib.Math.max.code 2 (some .int), Cond.methodLink RX5 112 yX4_tireMembers, Cond.instanceMethod yX4_tireMembers, Cond.selects RX4 yX4_tireMembers yX4_tireMembers, Cond.code yX4_tireMembers cX4_tireMembers 5 none, Cond.fieldLink RX4 98 "BandDay$Band" "size" "I", Cond.fieldLink RX4 101 "BandDay$Band" "chairs" "[LBandDay$Chair;", Cond.methodLink RX4 105 yX3_isThere, Cond.instanceMethod yX3_isThere, Cond.selects RX3 yX3_isThere yX3_isThere, Cond.code yX3_isThere cX3_isThere 1 (some .boolean), Cond.fieldLink RX3 31 "BandDay$Player" "absences" "I", Cond.methodLink RX4 109 yX3_tire, Cond.instanceMethod yX3_tire, Cond.selects RX3 yX3_tire yX3_tire, Cond.code yX3_tire cX3_tire 2 none, Cond.fieldLink RX3 28 "BandDay$Player" "tired" "I", Cond.methodLink RX3 47 Lib.Math.min.name, Cond.methodLink RL 101 yX7_rehearse, Cond.instanceMethod yX7_rehearse, Cond.selects RX7 yX7_rehearse yX7_rehearse]
def wsL_law0_r14 : List Cond := [Cond.code yX7_rehearse cX7_rehearse 4 (some .int), Cond.methodLink RX7 95 Lib.Math.min.name, Cond.methodLink RL 102 yL_setPiece, Cond.static yL_setPiece, Cond.codeWith yL_setPiece cL_setPiece 5 (some .int) [(0, 10, 13, 25), (0, 10, 17, 13)], Cond.methodLink RL 37 yX5_setPiece, Cond.instanceMethod yX5_setPiece, Cond.selects RX5 yX5_setPiece yX5_setPiece, Cond.code yX5_setPiece cX5_setPiece 4 (some .int), Cond.fieldLink RX5 124 "BandDay$Season" "hard" "[I", Cond.methodLink RX5 119 yX5_needInstrument, Cond.static yX5_needInstrument, Cond.code yX5_needInstrument cX5_needInstrument 1 none, Cond.methodLink RL 104 yX7_setPiece, Cond.instanceMethod yX7_setPiece, Cond.selects RX7 yX7_setPiece yX7_setPiece, Cond.code yX7_setPiece cX7_setPiece 4 (some .int), Cond.methodLink RL 105 yL_setTaste, Cond.static yL_setTaste, Cond.codeWith yL_setTaste cL_setTaste 5 (some .int) [(0, 10, 13, 25), (0, 10, 17, 13)], Cond.methodLink RL 40 yX5_setTaste, Cond.instanceMethod yX5_setTaste, Cond.selects RX5 yX5_setTaste yX5_setTaste, Cond.code yX5_setTaste cX5_setTaste 4 (some .int)]
def wsL_law0_r15 : List Cond := [Cond.fieldLink RX5 130 "BandDay$Season" "weight" "[I", Cond.methodLink RL 107 yX7_setTaste, Cond.instanceMethod yX7_setTaste, Cond.selects RX7 yX7_setTaste yX7_setTaste, Cond.code yX7_setTaste cX7_setTaste 4 (some .int), Cond.methodLink RL 108 yL_player, Cond.static yL_player, Cond.codeWith yL_player cL_player 5 (some .int) [(0, 10, 13, 25)], Cond.methodLink RL 43 yX5_player, Cond.instanceMethod yX5_player, Cond.selects RX5 yX5_player yX5_player, Cond.code yX5_player cX5_player 4 (some .int), Cond.methodLink RX5 133 yX5_needWhat, Cond.static yX5_needWhat, Cond.code yX5_needWhat cX5_needWhat 2 none, Cond.methodLink RX5 137 yX3_tell, Cond.instanceMethod yX3_tell, Cond.selects RX3 yX3_tell yX3_tell, Cond.code yX3_tell cX3_tell 2 (some .int), Cond.fieldLink RX3 34 "BandDay$Player" "sittings" "I", Cond.fieldLink RX3 37 "BandDay$Player" "deputySittings" "I", Cond.methodLink RX3 56 yX3_skillFor, Cond.instanceMethod yX3_skillFor, Cond.selects RX3 yX3_skillFor yX3_skillFor]
def wsL_law0_r16 : List Cond := [Cond.code yX3_skillFor cX3_skillFor 2 (some .int), Cond.methodLink RL 110 yX7_player, Cond.instanceMethod yX7_player, Cond.selects RX7 yX7_player yX7_player, Cond.code yX7_player cX7_player 3 (some .int), Cond.methodLink RX7 110 yX7_playerTold, Cond.instanceMethod yX7_playerTold, Cond.selects RX7 yX7_playerTold yX7_playerTold, Cond.code yX7_playerTold cX7_playerTold 4 (some .int), Cond.methodLink RL 111 yL_band, Cond.static yL_band, Cond.codeWith yL_band cL_band 5 (some .int) [(0, 10, 13, 25)], Cond.methodLink RL 46 yX5_band, Cond.instanceMethod yX5_band, Cond.selects RX5 yX5_band yX5_band, Cond.code yX5_band cX5_band 4 (some .int), Cond.methodLink RX5 140 yX0_tell, Cond.instanceMethod yX0_tell, Cond.selects RX0 yX0_tell yX0_tell, Cond.code yX0_tell cX0_tell 2 (some .int), Cond.fieldLink RX0 41 "BandDay$Band" "points" "I", Cond.fieldLink RX0 44 "BandDay$Band" "outs" "I", Cond.methodLink RX0 72 yX0_members, Cond.instanceMethod yX0_members]
def wsL_law0_r17 : List Cond := [Cond.selects RX0 yX0_members yX0_members, Cond.code yX0_members cX0_members 3 (some .int), Cond.fieldLink RX0 59 "BandDay$Chair" "member" "I", Cond.methodLink RL 113 yX7_band, Cond.instanceMethod yX7_band, Cond.selects RX7 yX7_band yX7_band, Cond.code yX7_band cX7_band 3 (some .int), Cond.methodLink RX7 122 yX7_bandTold, Cond.instanceMethod yX7_bandTold, Cond.selects RX7 yX7_bandTold yX7_bandTold, Cond.code yX7_bandTold cX7_bandTold 4 (some .int), Cond.methodLink RX7 113 yX6_members, Cond.instanceMethod yX6_members, Cond.selects RX6 yX6_members yX6_members, Cond.code yX6_members cX6_members 4 (some .int), Cond.methodLink RL 114 yL_chair, Cond.static yL_chair, Cond.codeWith yL_chair cL_chair 6 (some .int) [(0, 12, 15, 25)], Cond.methodLink RL 49 yX5_chair, Cond.instanceMethod yX5_chair, Cond.selects RX5 yX5_chair yX5_chair, Cond.code yX5_chair cX5_chair 5 (some .int), Cond.methodLink RX5 141 yX1_tell, Cond.instanceMethod yX1_tell]
def wsL_law0_r18 : List Cond := [Cond.selects RX1 yX1_tell yX1_tell, Cond.code yX1_tell cX1_tell 2 (some .int), Cond.fieldLink RX1 18 "BandDay$Chair" "instrument" "I", Cond.methodLink RL 116 yX7_chair, Cond.instanceMethod yX7_chair, Cond.selects RX7 yX7_chair yX7_chair, Cond.code yX7_chair cX7_chair 4 (some .int), Cond.methodLink RX7 125 yX7_chairTold, Cond.instanceMethod yX7_chairTold, Cond.selects RX7 yX7_chairTold yX7_chairTold, Cond.code yX7_chairTold cX7_chairTold 3 (some .int), Cond.methodLink RL 117 yL_contest, Cond.static yL_contest, Cond.codeWith yL_contest cL_contest 3 (some .int) [(0, 8, 11, 15)], Cond.methodLink RL 52 yX5_contest, Cond.instanceMethod yX5_contest, Cond.selects RX5 yX5_contest yX5_contest, Cond.code yX5_contest cX5_contest 1 (some .int), Cond.methodLink RX5 144 yX2_hold, Cond.instanceMethod yX2_hold, Cond.selects RX2 yX2_hold yX2_hold, Cond.code yX2_hold cX2_hold 4 (some .int), Cond.fieldLink RX2 18 "BandDay$Season" "bandCount" "I", Cond.fieldLink RX2 36 "BandDay$Season" "bands" "[LBandDay$Band;"]
def wsL_law0_r19 : List Cond := [Cond.fieldLink RX2 51 "BandDay$Season" "playerCount" "I", Cond.fieldLink RX2 54 "BandDay$Season" "players" "[LBandDay$Player;", Cond.fieldLink RX2 58 "BandDay$Player" "absences" "I", Cond.methodLink RX2 63 Lib.Math.max.name, Cond.fieldLink RX2 69 "BandDay$Season" "contests" "I", Cond.methodLink RX2 15 yX2_forgetDeputies, Cond.instanceMethod yX2_forgetDeputies, Cond.selects RX2 yX2_forgetDeputies yX2_forgetDeputies, Cond.code yX2_forgetDeputies cX2_forgetDeputies 2 none, Cond.fieldLink RX2 87 "BandDay$Player" "deputyToday" "I", Cond.methodLink RX2 24 yX2_bandInTurn, Cond.instanceMethod yX2_bandInTurn, Cond.selects RX2 yX2_bandInTurn yX2_bandInTurn, Cond.code yX2_bandInTurn cX2_bandInTurn 3 (some .int), Cond.methodLink RX2 28 yX2_play, Cond.instanceMethod yX2_play, Cond.selects RX2 yX2_play yX2_play, Cond.code yX2_play cX2_play 3 none, Cond.fieldLink RX2 90 "BandDay$Band" "marks" "I", Cond.fieldLink RX2 93 "BandDay$Band" "deputies" "I", Cond.fieldLink RX2 99 "BandDay$Band" "empties" "I", Cond.fieldLink RX2 106 "BandDay$Band" "outs" "I", Cond.fieldLink RX2 109 "BandDay$Season" "deputies" "I", Cond.fieldLink RX2 110 "BandDay$Season" "empties" "I"]
def wsL_law0_r20 : List Cond := [Cond.methodLink RX2 72 yX4_bandAt, Cond.methodLink RX2 76 yX2_marksOnceSeated, Cond.instanceMethod yX2_marksOnceSeated, Cond.selects RX2 yX2_marksOnceSeated yX2_marksOnceSeated, Cond.code yX2_marksOnceSeated cX2_marksOnceSeated 3 (some .int), Cond.fieldLink RX2 118 "BandDay$Player" "sits" "Z", Cond.methodLink RX2 122 yX2_seatMembers, Cond.instanceMethod yX2_seatMembers, Cond.selects RX2 yX2_seatMembers yX2_seatMembers, Cond.code yX2_seatMembers cX2_seatMembers 5 none, Cond.fieldLink RX2 80 "BandDay$Band" "size" "I", Cond.fieldLink RX2 131 "BandDay$Band" "chairs" "[LBandDay$Chair;", Cond.fieldLink RX2 135 "BandDay$Chair" "member" "I", Cond.fieldLink RX2 144 "BandDay$Chair" "sitter" "I", Cond.methodLink RX2 140 yX4_playerAt, Cond.methodLink RX2 147 yX3_isThere, Cond.methodLink RX2 125 yX2_seatDeputies, Cond.instanceMethod yX2_seatDeputies, Cond.selects RX2 yX2_seatDeputies yX2_seatDeputies, Cond.code yX2_seatDeputies cX2_seatDeputies 5 none, Cond.methodLink RX2 151 yX1_isEmpty, Cond.instanceMethod yX1_isEmpty, Cond.selects RX1 yX1_isEmpty yX1_isEmpty, Cond.code yX1_isEmpty cX1_isEmpty 1 (some .boolean)]
def wsL_law0_r21 : List Cond := [Cond.methodLink RX2 154 yX2_deputyFor, Cond.instanceMethod yX2_deputyFor, Cond.selects RX2 yX2_deputyFor yX2_deputyFor, Cond.code yX2_deputyFor cX2_deputyFor 12 (some .int), Cond.fieldLink RX2 158 "BandDay$Chair" "instrument" "I", Cond.fieldLink RX2 167 "BandDay$Player" "tired" "I", Cond.methodLink RX2 161 yX3_skillFor, Cond.methodLink RX2 164 yX3_mayBeDeputy, Cond.instanceMethod yX3_mayBeDeputy, Cond.selects RX3 yX3_mayBeDeputy yX3_mayBeDeputy, Cond.code yX3_mayBeDeputy cX3_mayBeDeputy 1 (some .boolean), Cond.fieldLink RX3 40 "BandDay$Player" "sits" "Z", Cond.fieldLink RX3 44 "BandDay$Player" "deputyToday" "I", Cond.methodLink RX2 102 yX2_isOut, Cond.instanceMethod yX2_isOut, Cond.selects RX2 yX2_isOut yX2_isOut, Cond.code yX2_isOut cX2_isOut 2 (some .boolean), Cond.methodLink RX2 45 yX0_deputiesSitting, Cond.instanceMethod yX0_deputiesSitting, Cond.selects RX0 yX0_deputiesSitting yX0_deputiesSitting, Cond.code yX0_deputiesSitting cX0_deputiesSitting 3 (some .int), Cond.methodLink RX0 66 yX1_hasDeputy, Cond.instanceMethod yX1_hasDeputy, Cond.selects RX1 yX1_hasDeputy yX1_hasDeputy]
def wsL_law0_r22 : List Cond := [Cond.code yX1_hasDeputy cX1_hasDeputy 1 (some .boolean), Cond.methodLink RX2 128 yX2_marksAsSeated, Cond.instanceMethod yX2_marksAsSeated, Cond.selects RX2 yX2_marksAsSeated yX2_marksAsSeated, Cond.code yX2_marksAsSeated cX2_marksAsSeated 6 (some .int), Cond.fieldLink RX2 170 "BandDay$Band" "spirit" "I", Cond.methodLink RX2 173 yX2_marksFor, Cond.instanceMethod yX2_marksFor, Cond.selects RX2 yX2_marksFor yX2_marksFor, Cond.code yX2_marksFor cX2_marksFor 4 (some .int), Cond.methodLink RX2 180 yX4_hardFor, Cond.instanceMethod yX4_hardFor, Cond.selects RX4 yX4_hardFor yX4_hardFor, Cond.code yX4_hardFor cX4_hardFor 2 (some .int), Cond.methodLink RX2 183 yX4_weightFor, Cond.instanceMethod yX4_weightFor, Cond.selects RX4 yX4_weightFor yX4_weightFor, Cond.code yX4_weightFor cX4_weightFor 2 (some .int), Cond.methodLink RX2 177 yX1_hasOwn, Cond.instanceMethod yX1_hasOwn, Cond.selects RX1 yX1_hasOwn yX1_hasOwn, Cond.code yX1_hasOwn cX1_hasOwn 1 (some .boolean), Cond.methodLink RX2 96 yX0_emptyChairs, Cond.instanceMethod yX0_emptyChairs]
def wsL_law0_r23 : List Cond := [Cond.selects RX0 yX0_emptyChairs yX0_emptyChairs, Cond.code yX0_emptyChairs cX0_emptyChairs 3 (some .int), Cond.methodLink RX0 69 yX1_isEmpty, Cond.methodLink RX2 111 yX2_noteSittings, Cond.instanceMethod yX2_noteSittings, Cond.selects RX2 yX2_noteSittings yX2_noteSittings, Cond.code yX2_noteSittings cX2_noteSittings 5 none, Cond.fieldLink RX2 186 "BandDay$Player" "sittings" "I", Cond.fieldLink RX2 192 "BandDay$Player" "deputySittings" "I", Cond.methodLink RX2 189 yX1_hasDeputy, Cond.methodLink RX2 115 yX2_moveLips, Cond.instanceMethod yX2_moveLips, Cond.selects RX2 yX2_moveLips yX2_moveLips, Cond.code yX2_moveLips cX2_moveLips 3 none, Cond.methodLink RX2 195 yX3_tire, Cond.methodLink RX2 198 yX3_rest, Cond.instanceMethod yX3_rest, Cond.selects RX3 yX3_rest yX3_rest, Cond.code yX3_rest cX3_rest 2 none, Cond.methodLink RX3 53 Lib.Math.max.name, Cond.methodLink RX2 32 yX2_givePlaces, Cond.instanceMethod yX2_givePlaces, Cond.selects RX2 yX2_givePlaces yX2_givePlaces, Cond.code yX2_givePlaces cX2_givePlaces 4 (some .int)]
def wsL_law0_r24 : List Cond := [Cond.fieldLink RX2 204 "BandDay$Band" "place" "I", Cond.fieldLink RX2 207 "BandDay$Band" "points" "I", Cond.methodLink RX2 201 yX2_aheadByMarks, Cond.instanceMethod yX2_aheadByMarks, Cond.selects RX2 yX2_aheadByMarks yX2_aheadByMarks, Cond.code yX2_aheadByMarks cX2_aheadByMarks 4 (some .int), Cond.methodLink RX2 213 yX2_isAhead, Cond.instanceMethod yX2_isAhead, Cond.selects RX2 yX2_isAhead yX2_isAhead, Cond.code yX2_isAhead cX2_isAhead 5 (some .boolean), Cond.methodLink RX2 210 yX2_pointsFor, Cond.static yX2_pointsFor, Cond.code yX2_pointsFor cX2_pointsFor 1 (some .int), Cond.methodLink RX2 40 yX0_ownSitting, Cond.instanceMethod yX0_ownSitting, Cond.selects RX0 yX0_ownSitting yX0_ownSitting, Cond.code yX0_ownSitting cX0_ownSitting 3 (some .int), Cond.methodLink RX0 62 yX1_hasOwn, Cond.methodLink RX2 48 yX0_raiseSpirit, Cond.methodLink RL 120 yX7_contest, Cond.instanceMethod yX7_contest, Cond.selects RX7 yX7_contest yX7_contest, Cond.code yX7_contest cX7_contest 1 (some .int), Cond.methodLink RX7 128 yX6_contest]
def wsL_law0_r25 : List Cond := [Cond.instanceMethod yX6_contest, Cond.selects RX6 yX6_contest yX6_contest, Cond.code yX6_contest cX6_contest 6 (some .int), Cond.fieldLink RX6 55 "BandDayModel$State" "contests" "I", Cond.methodLink RX6 100 Lib.Math.min.name, Cond.methodLink RX6 95 Lib.Math.max.name, Cond.methodLink RX6 106 yX6_play, Cond.instanceMethod yX6_play, Cond.selects RX6 yX6_play yX6_play, Cond.code yX6_play cX6_play 12 none, Cond.methodLink RX6 49 arraycopyName, Cond.fieldLink RX6 59 "BandDayModel$State" "deputies" "I", Cond.fieldLink RX6 62 "BandDayModel$State" "empties" "I", Cond.methodLink RX6 85 yX6_find, Cond.instanceMethod yX6_find, Cond.selects RX6 yX6_find yX6_find, Cond.code yX6_find cX6_find 9 (some .int), Cond.methodLink RX6 81 yX6_sits, Cond.instanceMethod yX6_sits, Cond.selects RX6 yX6_sits yX6_sits, Cond.code yX6_sits cX6_sits 5 (some .boolean), Cond.methodLink RX6 110 yX6_isAhead, Cond.instanceMethod yX6_isAhead, Cond.selects RX6 yX6_isAhead yX6_isAhead]
def wsL_law0_r26 : List Cond := [Cond.code yX6_isAhead cX6_isAhead 3 (some .boolean), Cond.methodLink RL 121 yL_rank, Cond.static yL_rank, Cond.codeWith yL_rank cL_rank 4 (some .int) [(0, 9, 12, 25)], Cond.methodLink RL 56 yX5_rank, Cond.instanceMethod yX5_rank, Cond.selects RX5 yX5_rank yX5_rank, Cond.code yX5_rank cX5_rank 2 (some .int), Cond.methodLink RX5 153 yX4_bandByPoints, Cond.instanceMethod yX4_bandByPoints, Cond.selects RX4 yX4_bandByPoints yX4_bandByPoints, Cond.code yX4_bandByPoints cX4_bandByPoints 3 (some .int), Cond.methodLink RX4 123 yX4_aheadByPoints, Cond.instanceMethod yX4_aheadByPoints, Cond.selects RX4 yX4_aheadByPoints yX4_aheadByPoints, Cond.code yX4_aheadByPoints cX4_aheadByPoints 5 (some .int), Cond.fieldLink RX4 127 "BandDay$Band" "points" "I", Cond.methodLink RL 123 yX7_rank, Cond.instanceMethod yX7_rank, Cond.selects RX7 yX7_rank yX7_rank, Cond.code yX7_rank cX7_rank 5 (some .int), Cond.methodLink RL 124 yL_count, Cond.static yL_count, Cond.codeWith yL_count cL_count 4 (some .int) [(0, 9, 12, 25)]]
def wsL_law0_r27 : List Cond := [Cond.methodLink RL 59 yX5_count, Cond.instanceMethod yX5_count, Cond.selects RX5 yX5_count yX5_count, Cond.code yX5_count cX5_count 2 (some .int), Cond.methodLink RX5 156 yX4_tell, Cond.instanceMethod yX4_tell, Cond.selects RX4 yX4_tell yX4_tell, Cond.code yX4_tell cX4_tell 2 (some .int), Cond.fieldLink RX4 52 "BandDay$Season" "contests" "I", Cond.fieldLink RX4 55 "BandDay$Season" "deputies" "I", Cond.fieldLink RX4 58 "BandDay$Season" "empties" "I", Cond.methodLink RX4 117 yX4_membersInAll, Cond.instanceMethod yX4_membersInAll, Cond.selects RX4 yX4_membersInAll yX4_membersInAll, Cond.code yX4_membersInAll cX4_membersInAll 3 (some .int), Cond.methodLink RX4 113 yX0_members, Cond.methodLink RX4 120 yX4_absentInAll, Cond.instanceMethod yX4_absentInAll, Cond.selects RX4 yX4_absentInAll yX4_absentInAll, Cond.code yX4_absentInAll cX4_absentInAll 3 (some .int), Cond.methodLink RL 126 yX7_count, Cond.instanceMethod yX7_count, Cond.selects RX7 yX7_count yX7_count, Cond.code yX7_count cX7_count 2 (some .int)]
def wsL_law0_r28 : List Cond := [Cond.methodLink RX7 141 yX7_counted, Cond.instanceMethod yX7_counted, Cond.selects RX7 yX7_counted yX7_counted, Cond.code yX7_counted cX7_counted 5 (some .int), Cond.methodLink RL 127 yL_foresee, Cond.static yL_foresee, Cond.codeWith yL_foresee cL_foresee 6 (some .int) [(0, 12, 15, 25), (0, 12, 19, 13)], Cond.methodLink RL 62 yX5_foresee, Cond.instanceMethod yX5_foresee, Cond.selects RX5 yX5_foresee yX5_foresee, Cond.code yX5_foresee cX5_foresee 5 (some .int), Cond.methodLink RX5 159 yX4_copyFrom, Cond.instanceMethod yX4_copyFrom, Cond.selects RX4 yX4_copyFrom yX4_copyFrom, Cond.code yX4_copyFrom cX4_copyFrom 3 none, Cond.methodLink RX4 46 arraycopyName, Cond.methodLink RX4 36 yX3_copyFrom, Cond.instanceMethod yX3_copyFrom, Cond.selects RX3 yX3_copyFrom yX3_copyFrom, Cond.code yX3_copyFrom cX3_copyFrom 2 none, Cond.methodLink RX3 22 arraycopyName, Cond.methodLink RX4 43 yX0_copyFrom, Cond.instanceMethod yX0_copyFrom, Cond.selects RX0 yX0_copyFrom yX0_copyFrom]
def wsL_law0_r29 : List Cond := [Cond.code yX0_copyFrom cX0_copyFrom 3 none, Cond.methodLink RX0 34 yX1_copyFrom, Cond.instanceMethod yX1_copyFrom, Cond.selects RX1 yX1_copyFrom yX1_copyFrom, Cond.code yX1_copyFrom cX1_copyFrom 2 none, Cond.methodLink RX5 165 yX0_outlook, Cond.instanceMethod yX0_outlook, Cond.selects RX0 yX0_outlook yX0_outlook, Cond.code yX0_outlook cX0_outlook 2 (some .int), Cond.methodLink RL 129 yX7_foresee, Cond.instanceMethod yX7_foresee, Cond.selects RX7 yX7_foresee yX7_foresee, Cond.code yX7_foresee cX7_foresee 5 (some .int), Cond.methodLink RX7 144 yX6_become, Cond.instanceMethod yX6_become, Cond.selects RX6 yX6_become yX6_become, Cond.code yX6_become cX6_become 2 none, Cond.methodLink RX6 65 yX6_copy, Cond.instanceMethod yX6_copy, Cond.selects RX6 yX6_copy yX6_copy, Cond.code yX6_copy cX6_copy 3 none, Cond.methodLink RL 130 yL_advise, Cond.static yL_advise, Cond.codeWith yL_advise cL_advise 4 (some .int) [(0, 9, 12, 25)]]
def wsL_law0_r30 : List Cond := [Cond.methodLink RL 65 yX5_advise, Cond.instanceMethod yX5_advise, Cond.selects RX5 yX5_advise yX5_advise, Cond.code yX5_advise cX5_advise 2 (some .int), Cond.methodLink RX5 168 yX2_playAllAheadOf, Cond.instanceMethod yX2_playAllAheadOf, Cond.selects RX2 yX2_playAllAheadOf yX2_playAllAheadOf, Cond.code yX2_playAllAheadOf cX2_playAllAheadOf 4 none, Cond.methodLink RX5 171 yX2_bestChange, Cond.instanceMethod yX2_bestChange, Cond.selects RX2 yX2_bestChange yX2_bestChange, Cond.code yX2_bestChange cX2_bestChange 8 (some .int), Cond.methodLink RX2 83 yX4_swapMembers, Cond.methodLink RL 132 yX7_advise, Cond.instanceMethod yX7_advise, Cond.selects RX7 yX7_advise yX7_advise, Cond.code yX7_advise cX7_advise 6 (some .int), Cond.methodLink RL 133 yL_free, Cond.static yL_free, Cond.codeWith yL_free cL_free 4 (some .int) [(0, 9, 12, 25)], Cond.methodLink RL 68 yX5_free, Cond.instanceMethod yX5_free, Cond.selects RX5 yX5_free yX5_free, Cond.code yX5_free cX5_free 2 (some .int)]
def wsL_law0_r31 : List Cond := [Cond.methodLink RX5 174 yX4_bestFree, Cond.instanceMethod yX4_bestFree, Cond.selects RX4 yX4_bestFree yX4_bestFree, Cond.code yX4_bestFree cX4_bestFree 6 (some .int), Cond.methodLink RX4 130 yX3_skillFor, Cond.methodLink RL 135 yX7_free, Cond.instanceMethod yX7_free, Cond.selects RX7 yX7_free yX7_free, Cond.code yX7_free cX7_free 4 (some .int), Cond.methodLink RL 136 yX5_mean, Cond.instanceMethod yX5_mean, Cond.selects RX5 yX5_mean yX5_mean, Cond.code yX5_mean cX5_mean 1 (some .double), Cond.methodLink RX5 177 yX4_meanMarks, Cond.instanceMethod yX4_meanMarks, Cond.selects RX4 yX4_meanMarks yX4_meanMarks, Cond.code yX4_meanMarks cX4_meanMarks 4 (some .double), Cond.fieldLink RX4 133 "BandDay$Band" "marks" "I", Cond.methodLink RL 140 yX7_mean, Cond.instanceMethod yX7_mean, Cond.selects RX7 yX7_mean yX7_mean, Cond.code yX7_mean cX7_mean 4 (some .double), Cond.methodLink RL 141 yX5_digest, Cond.instanceMethod yX5_digest]
def wsL_law0_r32 : List Cond := [Cond.selects RX5 yX5_digest yX5_digest, Cond.code yX5_digest cX5_digest 1 (some .long), Cond.methodLink RX5 181 yX4_checksum, Cond.instanceMethod yX4_checksum, Cond.selects RX4 yX4_checksum yX4_checksum, Cond.code yX4_checksum cX4_checksum 5 (some .long), Cond.constantLong RX4 136 (613), Cond.constantLong RX4 138 (31), Cond.methodLink RX4 140 yX4_tell, Cond.methodLink RX4 143 yX3_tell, Cond.methodLink RX4 144 yX4_withBand, Cond.instanceMethod yX4_withBand, Cond.selects RX4 yX4_withBand yX4_withBand, Cond.code yX4_withBand cX4_withBand 8 (some .long), Cond.methodLink RX4 148 yX0_tell, Cond.methodLink RX4 149 yX1_tell, Cond.methodLink RL 145 yX7_digest, Cond.instanceMethod yX7_digest, Cond.selects RX7 yX7_digest yX7_digest, Cond.code yX7_digest cX7_digest 6 (some .long), Cond.constantLong RX7 148 (613), Cond.constantLong RX7 150 (31)]
def wsL_law0 : List Cond := (wsL_law0_r1 ++ (wsL_law0_r2 ++ (wsL_law0_r3 ++ (wsL_law0_r4 ++ (wsL_law0_r5 ++ (wsL_law0_r6 ++ (wsL_law0_r7 ++ (wsL_law0_r8 ++ (wsL_law0_r9 ++ (wsL_law0_r10 ++ (wsL_law0_r11 ++ (wsL_law0_r12 ++ (wsL_law0_r13 ++ (wsL_law0_r14 ++ (wsL_law0_r15 ++ (wsL_law0_r16 ++ (wsL_law0_r17 ++ (wsL_law0_r18 ++ (wsL_law0_r19 ++ (wsL_law0_r20 ++ (wsL_law0_r21 ++ (wsL_law0_r22 ++ (wsL_law0_r23 ++ (wsL_law0_r24 ++ (wsL_law0_r25 ++ (wsL_law0_r26 ++ (wsL_law0_r27 ++ (wsL_law0_r28 ++ (wsL_law0_r29 ++ (wsL_law0_r30 ++ (wsL_law0_r31 ++ wsL_law0_r32))))))))))))))))))))))))))))))) ++ wsX50 ++ wsX70 ++ wsX40 ++ wsX20 ++ wsX30 ++ wsX00 ++ wsX10 ++ wsX60 ++ ([] : List Cond)
def wsL_law : List Cond := wsL_law0 ++ (vx_atS RX5 39 "java/lang/IllegalArgumentException" ["java/lang/RuntimeException", "java/lang/Exception"]).filter goodWord ++ (vx_atS RX5 50 "java/lang/IllegalStateException" ["java/lang/RuntimeException", "java/lang/Exception"]).filter goodWord ++ (vx_atS RX5 152 "java/lang/IndexOutOfBoundsException" ["java/lang/RuntimeException", "java/lang/Exception"]).filter goodWord
theorem inlX0 : ∀ w ∈ wsX00, w ∈ wsL_law := fun _ h => List.mem_append_left _ (List.mem_append_left _ (List.mem_append_left _ (List.mem_append_left _ (List.mem_append_left _ (List.mem_append_left _ (List.mem_append_right _ h))))))
theorem inlX1 : ∀ w ∈ wsX10, w ∈ wsL_law := fun _ h => List.mem_append_left _ (List.mem_append_left _ (List.mem_append_left _ (List.mem_append_left _ (List.mem_append_left _ (List.mem_append_right _ h)))))
theorem inlX2 : ∀ w ∈ wsX20, w ∈ wsL_law := fun _ h => List.mem_append_left _ (List.mem_append_left _ (List.mem_append_left _ (List.mem_append_left _ (List.mem_append_left _ (List.mem_append_left _ (List.mem_append_left _ (List.mem_append_left _ (List.mem_append_right _ h))))))))
theorem inlX3 : ∀ w ∈ wsX30, w ∈ wsL_law := fun _ h => List.mem_append_left _ (List.mem_append_left _ (List.mem_append_left _ (List.mem_append_left _ (List.mem_append_left _ (List.mem_append_left _ (List.mem_append_left _ (List.mem_append_right _ h)))))))
theorem inlX4 : ∀ w ∈ wsX40, w ∈ wsL_law := fun _ h => List.mem_append_left _ (List.mem_append_left _ (List.mem_append_left _ (List.mem_append_left _ (List.mem_append_left _ (List.mem_append_left _ (List.mem_append_left _ (List.mem_append_left _ (List.mem_append_left _ (List.mem_append_right _ h)))))))))
theorem inlX5 : ∀ w ∈ wsX50, w ∈ wsL_law := fun _ h => List.mem_append_left _ (List.mem_append_left _ (List.mem_append_left _ (List.mem_append_left _ (List.mem_append_left _ (List.mem_append_left _ (List.mem_append_left _ (List.mem_append_left _ (List.mem_append_left _ (List.mem_append_left _ (List.mem_append_left _ (List.mem_append_right _ h)))))))))))
theorem inlX6 : ∀ w ∈ wsX60, w ∈ wsL_law := fun _ h => List.mem_append_left _ (List.mem_append_left _ (List.mem_append_left _ (List.mem_append_left _ (List.mem_append_right _ h))))
theorem inlX7 : ∀ w ∈ wsX70, w ∈ wsL_law := fun _ h => List.mem_append_left _ (List.mem_append_left _ (List.mem_append_left _ (List.mem_append_left _ (List.mem_append_left _ (List.mem_append_left _ (List.mem_append_left _ (List.mem_append_left _ (List.mem_append_left _ (List.mem_append_left _ (List.mem_append_right _ h))))))))))
abbrev vwCl : List vw_C := [(RX0, TX0, 9), (RX1, TX1, 3), (RX2, TX2, 1), (RX3, TX3, 9), (RX4, TX4, 9), (RX5, TX5, 4), (RX6, TX6, 15), (RX7, TX7, 10)]
end
section
theorem dX0_init_0 : decode cX0_init 0 = .ok (.aload_n 0, 1) := by decide +kernel
theorem dX0_init_1 : decode cX0_init 1 = .ok (.invokespecial 3, 3) := by decide +kernel
theorem dX0_init_4 : decode cX0_init 4 = .ok (.aload_n 0, 1) := by decide +kernel
theorem dX0_init_5 : decode cX0_init 5 = .ok (.bipush 8, 2) := by decide +kernel
theorem dX0_init_7 : decode cX0_init 7 = .ok (.anewarray 9, 3) := by decide +kernel
theorem dX0_init_10 : decode cX0_init 10 = .ok (.putfield 11, 3) := by decide +kernel
theorem dX0_init_13 : decode cX0_init 13 = .ok (.aload_n 0, 1) := by decide +kernel
theorem dX0_init_14 : decode cX0_init 14 = .ok (.iconst (-1), 1) := by decide +kernel
theorem dX0_init_15 : decode cX0_init 15 = .ok (.putfield 17, 3) := by decide +kernel
theorem dX0_init_18 : decode cX0_init 18 = .ok (.aload_n 0, 1) := by decide +kernel
theorem dX0_init_19 : decode cX0_init 19 = .ok (.iconst (-1), 1) := by decide +kernel
theorem dX0_init_20 : decode cX0_init 20 = .ok (.putfield 21, 3) := by decide +kernel
theorem dX0_init_23 : decode cX0_init 23 = .ok (.aload_n 0, 1) := by decide +kernel
theorem dX0_init_24 : decode cX0_init 24 = .ok (.iconst (-1), 1) := by decide +kernel
theorem dX0_init_25 : decode cX0_init 25 = .ok (.putfield 24, 3) := by decide +kernel
theorem dX0_init_28 : decode cX0_init 28 = .ok (.aload_n 0, 1) := by decide +kernel
theorem dX0_init_29 : decode cX0_init 29 = .ok (.iconst (-1), 1) := by decide +kernel
theorem dX0_init_30 : decode cX0_init 30 = .ok (.putfield 27, 3) := by decide +kernel
theorem dX0_init_33 : decode cX0_init 33 = .ok (.iconst 0, 1) := by decide +kernel
theorem dX0_init_34 : decode cX0_init 34 = .ok (.istore_n 1, 1) := by decide +kernel
theorem dX0_init_35 : decode cX0_init 35 = .ok (.iload_n 1, 1) := by decide +kernel
theorem dX0_init_36 : decode cX0_init 36 = .ok (.bipush 8, 2) := by decide +kernel
theorem dX0_init_38 : decode cX0_init 38 = .ok (.if_icmp .ge 22, 3) := by decide +kernel
theorem dX0_init_41 : decode cX0_init 41 = .ok (.aload_n 0, 1) := by decide +kernel
theorem dX0_init_42 : decode cX0_init 42 = .ok (.getfield 11, 3) := by decide +kernel
theorem dX0_init_45 : decode cX0_init 45 = .ok (.iload_n 1, 1) := by decide +kernel
theorem dX0_init_46 : decode cX0_init 46 = .ok (.new 9, 3) := by decide +kernel
theorem dX0_init_49 : decode cX0_init 49 = .ok (.dup, 1) := by decide +kernel
theorem dX0_init_50 : decode cX0_init 50 = .ok (.invokespecial 30, 3) := by decide +kernel
theorem dX0_init_53 : decode cX0_init 53 = .ok (.aastore, 1) := by decide +kernel
theorem dX0_init_54 : decode cX0_init 54 = .ok (.iinc 1 1, 3) := by decide +kernel
theorem dX0_init_57 : decode cX0_init 57 = .ok (.goto (-22), 3) := by decide +kernel
theorem dX0_init_60 : decode cX0_init 60 = .ok (.return_, 1) := by decide +kernel
theorem dX0_copyFrom_0 : decode cX0_copyFrom 0 = .ok (.aload_n 0, 1) := by decide +kernel
theorem dX0_copyFrom_1 : decode cX0_copyFrom 1 = .ok (.aload_n 1, 1) := by decide +kernel
theorem dX0_copyFrom_2 : decode cX0_copyFrom 2 = .ok (.getfield 31, 3) := by decide +kernel
theorem dX0_copyFrom_5 : decode cX0_copyFrom 5 = .ok (.putfield 31, 3) := by decide +kernel
theorem dX0_copyFrom_8 : decode cX0_copyFrom 8 = .ok (.iconst 0, 1) := by decide +kernel
theorem dX0_copyFrom_9 : decode cX0_copyFrom 9 = .ok (.istore_n 2, 1) := by decide +kernel
theorem dX0_copyFrom_10 : decode cX0_copyFrom 10 = .ok (.iload_n 2, 1) := by decide +kernel
theorem dX0_copyFrom_11 : decode cX0_copyFrom 11 = .ok (.aload_n 0, 1) := by decide +kernel
theorem dX0_copyFrom_12 : decode cX0_copyFrom 12 = .ok (.getfield 31, 3) := by decide +kernel
theorem dX0_copyFrom_15 : decode cX0_copyFrom 15 = .ok (.if_icmp .ge 24, 3) := by decide +kernel
theorem dX0_copyFrom_18 : decode cX0_copyFrom 18 = .ok (.aload_n 0, 1) := by decide +kernel
theorem dX0_copyFrom_19 : decode cX0_copyFrom 19 = .ok (.getfield 11, 3) := by decide +kernel
theorem dX0_copyFrom_22 : decode cX0_copyFrom 22 = .ok (.iload_n 2, 1) := by decide +kernel
theorem dX0_copyFrom_23 : decode cX0_copyFrom 23 = .ok (.aaload, 1) := by decide +kernel
theorem dX0_copyFrom_24 : decode cX0_copyFrom 24 = .ok (.aload_n 1, 1) := by decide +kernel
theorem dX0_copyFrom_25 : decode cX0_copyFrom 25 = .ok (.getfield 11, 3) := by decide +kernel
theorem dX0_copyFrom_28 : decode cX0_copyFrom 28 = .ok (.iload_n 2, 1) := by decide +kernel
theorem dX0_copyFrom_29 : decode cX0_copyFrom 29 = .ok (.aaload, 1) := by decide +kernel
theorem dX0_copyFrom_30 : decode cX0_copyFrom 30 = .ok (.invokevirtual 34, 3) := by decide +kernel
theorem dX0_copyFrom_33 : decode cX0_copyFrom 33 = .ok (.iinc 2 1, 3) := by decide +kernel
theorem dX0_copyFrom_36 : decode cX0_copyFrom 36 = .ok (.goto (-26), 3) := by decide +kernel
theorem dX0_copyFrom_39 : decode cX0_copyFrom 39 = .ok (.aload_n 0, 1) := by decide +kernel
theorem dX0_copyFrom_40 : decode cX0_copyFrom 40 = .ok (.aload_n 1, 1) := by decide +kernel
theorem dX0_copyFrom_41 : decode cX0_copyFrom 41 = .ok (.getfield 38, 3) := by decide +kernel
theorem dX0_copyFrom_44 : decode cX0_copyFrom 44 = .ok (.putfield 38, 3) := by decide +kernel
theorem dX0_copyFrom_47 : decode cX0_copyFrom 47 = .ok (.aload_n 0, 1) := by decide +kernel
theorem dX0_copyFrom_48 : decode cX0_copyFrom 48 = .ok (.aload_n 1, 1) := by decide +kernel
theorem dX0_copyFrom_49 : decode cX0_copyFrom 49 = .ok (.getfield 17, 3) := by decide +kernel
theorem dX0_copyFrom_52 : decode cX0_copyFrom 52 = .ok (.putfield 17, 3) := by decide +kernel
theorem dX0_copyFrom_55 : decode cX0_copyFrom 55 = .ok (.aload_n 0, 1) := by decide +kernel
theorem dX0_copyFrom_56 : decode cX0_copyFrom 56 = .ok (.aload_n 1, 1) := by decide +kernel
theorem dX0_copyFrom_57 : decode cX0_copyFrom 57 = .ok (.getfield 21, 3) := by decide +kernel
theorem dX0_copyFrom_60 : decode cX0_copyFrom 60 = .ok (.putfield 21, 3) := by decide +kernel
theorem dX0_copyFrom_63 : decode cX0_copyFrom 63 = .ok (.aload_n 0, 1) := by decide +kernel
theorem dX0_copyFrom_64 : decode cX0_copyFrom 64 = .ok (.aload_n 1, 1) := by decide +kernel
theorem dX0_copyFrom_65 : decode cX0_copyFrom 65 = .ok (.getfield 24, 3) := by decide +kernel
theorem dX0_copyFrom_68 : decode cX0_copyFrom 68 = .ok (.putfield 24, 3) := by decide +kernel
theorem dX0_copyFrom_71 : decode cX0_copyFrom 71 = .ok (.aload_n 0, 1) := by decide +kernel
theorem dX0_copyFrom_72 : decode cX0_copyFrom 72 = .ok (.aload_n 1, 1) := by decide +kernel
theorem dX0_copyFrom_73 : decode cX0_copyFrom 73 = .ok (.getfield 27, 3) := by decide +kernel
theorem dX0_copyFrom_76 : decode cX0_copyFrom 76 = .ok (.putfield 27, 3) := by decide +kernel
theorem dX0_copyFrom_79 : decode cX0_copyFrom 79 = .ok (.aload_n 0, 1) := by decide +kernel
theorem dX0_copyFrom_80 : decode cX0_copyFrom 80 = .ok (.aload_n 1, 1) := by decide +kernel
theorem dX0_copyFrom_81 : decode cX0_copyFrom 81 = .ok (.getfield 41, 3) := by decide +kernel
theorem dX0_copyFrom_84 : decode cX0_copyFrom 84 = .ok (.putfield 41, 3) := by decide +kernel
theorem dX0_copyFrom_87 : decode cX0_copyFrom 87 = .ok (.aload_n 0, 1) := by decide +kernel
theorem dX0_copyFrom_88 : decode cX0_copyFrom 88 = .ok (.aload_n 1, 1) := by decide +kernel
theorem dX0_copyFrom_89 : decode cX0_copyFrom 89 = .ok (.getfield 44, 3) := by decide +kernel
theorem dX0_copyFrom_92 : decode cX0_copyFrom 92 = .ok (.putfield 44, 3) := by decide +kernel
theorem dX0_copyFrom_95 : decode cX0_copyFrom 95 = .ok (.return_, 1) := by decide +kernel
theorem dX0_furnish_0 : decode cX0_furnish 0 = .ok (.aload_n 0, 1) := by decide +kernel
theorem dX0_furnish_1 : decode cX0_furnish 1 = .ok (.iload_n 2, 1) := by decide +kernel
theorem dX0_furnish_2 : decode cX0_furnish 2 = .ok (.bipush 8, 2) := by decide +kernel
theorem dX0_furnish_4 : decode cX0_furnish 4 = .ok (.invokestatic 47, 3) := by decide +kernel
theorem dX0_furnish_7 : decode cX0_furnish 7 = .ok (.putfield 31, 3) := by decide +kernel
theorem dX0_furnish_10 : decode cX0_furnish 10 = .ok (.iload_n 1, 1) := by decide +kernel
theorem dX0_furnish_11 : decode cX0_furnish 11 = .ok (.istore_n 3, 1) := by decide +kernel
theorem dX0_furnish_12 : decode cX0_furnish 12 = .ok (.aload_n 0, 1) := by decide +kernel
theorem dX0_furnish_13 : decode cX0_furnish 13 = .ok (.getfield 31, 3) := by decide +kernel
theorem dX0_furnish_16 : decode cX0_furnish 16 = .ok (.iconst 1, 1) := by decide +kernel
theorem dX0_furnish_17 : decode cX0_furnish 17 = .ok (.isub, 1) := by decide +kernel
theorem dX0_furnish_18 : decode cX0_furnish 18 = .ok (.istore 4, 2) := by decide +kernel
theorem dX0_furnish_20 : decode cX0_furnish 20 = .ok (.iload 4, 2) := by decide +kernel
theorem dX0_furnish_22 : decode cX0_furnish 22 = .ok (.ifCond .lt 30, 3) := by decide +kernel
theorem dX0_furnish_25 : decode cX0_furnish 25 = .ok (.aload_n 0, 1) := by decide +kernel
theorem dX0_furnish_26 : decode cX0_furnish 26 = .ok (.getfield 11, 3) := by decide +kernel
theorem dX0_furnish_29 : decode cX0_furnish 29 = .ok (.iload 4, 2) := by decide +kernel
theorem dX0_furnish_31 : decode cX0_furnish 31 = .ok (.aaload, 1) := by decide +kernel
theorem dX0_furnish_32 : decode cX0_furnish 32 = .ok (.iload_n 3, 1) := by decide +kernel
theorem dX0_furnish_33 : decode cX0_furnish 33 = .ok (.bipush 10, 2) := by decide +kernel
theorem dX0_furnish_35 : decode cX0_furnish 35 = .ok (.irem, 1) := by decide +kernel
theorem dX0_furnish_36 : decode cX0_furnish 36 = .ok (.iconst 1, 1) := by decide +kernel
theorem dX0_furnish_37 : decode cX0_furnish 37 = .ok (.isub, 1) := by decide +kernel
theorem dX0_furnish_38 : decode cX0_furnish 38 = .ok (.putfield 53, 3) := by decide +kernel
theorem dX0_furnish_41 : decode cX0_furnish 41 = .ok (.iload_n 3, 1) := by decide +kernel
theorem dX0_furnish_42 : decode cX0_furnish 42 = .ok (.bipush 10, 2) := by decide +kernel
theorem dX0_furnish_44 : decode cX0_furnish 44 = .ok (.idiv, 1) := by decide +kernel
theorem dX0_furnish_45 : decode cX0_furnish 45 = .ok (.istore_n 3, 1) := by decide +kernel
theorem dX0_furnish_46 : decode cX0_furnish 46 = .ok (.iinc 4 (-1), 3) := by decide +kernel
theorem dX0_furnish_49 : decode cX0_furnish 49 = .ok (.goto (-29), 3) := by decide +kernel
theorem dX0_furnish_52 : decode cX0_furnish 52 = .ok (.return_, 1) := by decide +kernel
theorem dX0_chairAt_0 : decode cX0_chairAt 0 = .ok (.iload_n 1, 1) := by decide +kernel
theorem dX0_chairAt_1 : decode cX0_chairAt 1 = .ok (.ifCond .lt 20, 3) := by decide +kernel
theorem dX0_chairAt_4 : decode cX0_chairAt 4 = .ok (.iload_n 1, 1) := by decide +kernel
theorem dX0_chairAt_5 : decode cX0_chairAt 5 = .ok (.aload_n 0, 1) := by decide +kernel
theorem dX0_chairAt_6 : decode cX0_chairAt 6 = .ok (.getfield 31, 3) := by decide +kernel
theorem dX0_chairAt_9 : decode cX0_chairAt 9 = .ok (.if_icmp .ge 12, 3) := by decide +kernel
theorem dX0_chairAt_12 : decode cX0_chairAt 12 = .ok (.aload_n 0, 1) := by decide +kernel
theorem dX0_chairAt_13 : decode cX0_chairAt 13 = .ok (.getfield 11, 3) := by decide +kernel
theorem dX0_chairAt_16 : decode cX0_chairAt 16 = .ok (.iload_n 1, 1) := by decide +kernel
theorem dX0_chairAt_17 : decode cX0_chairAt 17 = .ok (.aaload, 1) := by decide +kernel
theorem dX0_chairAt_18 : decode cX0_chairAt 18 = .ok (.goto 4, 3) := by decide +kernel
theorem dX0_chairAt_21 : decode cX0_chairAt 21 = .ok (.aconst_null, 1) := by decide +kernel
theorem dX0_chairAt_22 : decode cX0_chairAt 22 = .ok (.areturn, 1) := by decide +kernel
theorem dX0_raiseSpirit_0 : decode cX0_raiseSpirit 0 = .ok (.aload_n 0, 1) := by decide +kernel
theorem dX0_raiseSpirit_1 : decode cX0_raiseSpirit 1 = .ok (.iconst 0, 1) := by decide +kernel
theorem dX0_raiseSpirit_2 : decode cX0_raiseSpirit 2 = .ok (.bipush 50, 2) := by decide +kernel
theorem dX0_raiseSpirit_4 : decode cX0_raiseSpirit 4 = .ok (.aload_n 0, 1) := by decide +kernel
theorem dX0_raiseSpirit_5 : decode cX0_raiseSpirit 5 = .ok (.getfield 38, 3) := by decide +kernel
theorem dX0_raiseSpirit_8 : decode cX0_raiseSpirit 8 = .ok (.iload_n 1, 1) := by decide +kernel
theorem dX0_raiseSpirit_9 : decode cX0_raiseSpirit 9 = .ok (.iadd, 1) := by decide +kernel
theorem dX0_raiseSpirit_10 : decode cX0_raiseSpirit 10 = .ok (.invokestatic 47, 3) := by decide +kernel
theorem dX0_raiseSpirit_13 : decode cX0_raiseSpirit 13 = .ok (.invokestatic 56, 3) := by decide +kernel
theorem dX0_raiseSpirit_16 : decode cX0_raiseSpirit 16 = .ok (.putfield 38, 3) := by decide +kernel
theorem dX0_raiseSpirit_19 : decode cX0_raiseSpirit 19 = .ok (.return_, 1) := by decide +kernel
theorem dX0_members_0 : decode cX0_members 0 = .ok (.iconst 0, 1) := by decide +kernel
theorem dX0_members_1 : decode cX0_members 1 = .ok (.istore_n 1, 1) := by decide +kernel
theorem dX0_members_2 : decode cX0_members 2 = .ok (.iconst 0, 1) := by decide +kernel
theorem dX0_members_3 : decode cX0_members 3 = .ok (.istore_n 2, 1) := by decide +kernel
theorem dX0_members_4 : decode cX0_members 4 = .ok (.iload_n 2, 1) := by decide +kernel
theorem dX0_members_5 : decode cX0_members 5 = .ok (.aload_n 0, 1) := by decide +kernel
theorem dX0_members_6 : decode cX0_members 6 = .ok (.getfield 31, 3) := by decide +kernel
theorem dX0_members_9 : decode cX0_members 9 = .ok (.if_icmp .ge 25, 3) := by decide +kernel
theorem dX0_members_12 : decode cX0_members 12 = .ok (.aload_n 0, 1) := by decide +kernel
theorem dX0_members_13 : decode cX0_members 13 = .ok (.getfield 11, 3) := by decide +kernel
theorem dX0_members_16 : decode cX0_members 16 = .ok (.iload_n 2, 1) := by decide +kernel
theorem dX0_members_17 : decode cX0_members 17 = .ok (.aaload, 1) := by decide +kernel
theorem dX0_members_18 : decode cX0_members 18 = .ok (.getfield 59, 3) := by decide +kernel
theorem dX0_members_21 : decode cX0_members 21 = .ok (.iconst (-1), 1) := by decide +kernel
theorem dX0_members_22 : decode cX0_members 22 = .ok (.if_icmp .eq 6, 3) := by decide +kernel
theorem dX0_members_25 : decode cX0_members 25 = .ok (.iinc 1 1, 3) := by decide +kernel
theorem dX0_members_28 : decode cX0_members 28 = .ok (.iinc 2 1, 3) := by decide +kernel
theorem dX0_members_31 : decode cX0_members 31 = .ok (.goto (-27), 3) := by decide +kernel
theorem dX0_members_34 : decode cX0_members 34 = .ok (.iload_n 1, 1) := by decide +kernel
theorem dX0_members_35 : decode cX0_members 35 = .ok (.ireturn, 1) := by decide +kernel
theorem dX0_ownSitting_0 : decode cX0_ownSitting 0 = .ok (.iconst 0, 1) := by decide +kernel
theorem dX0_ownSitting_1 : decode cX0_ownSitting 1 = .ok (.istore_n 1, 1) := by decide +kernel
theorem dX0_ownSitting_2 : decode cX0_ownSitting 2 = .ok (.iconst 0, 1) := by decide +kernel
theorem dX0_ownSitting_3 : decode cX0_ownSitting 3 = .ok (.istore_n 2, 1) := by decide +kernel
theorem dX0_ownSitting_4 : decode cX0_ownSitting 4 = .ok (.iload_n 2, 1) := by decide +kernel
theorem dX0_ownSitting_5 : decode cX0_ownSitting 5 = .ok (.aload_n 0, 1) := by decide +kernel
theorem dX0_ownSitting_6 : decode cX0_ownSitting 6 = .ok (.getfield 31, 3) := by decide +kernel
theorem dX0_ownSitting_9 : decode cX0_ownSitting 9 = .ok (.if_icmp .ge 24, 3) := by decide +kernel
theorem dX0_ownSitting_12 : decode cX0_ownSitting 12 = .ok (.aload_n 0, 1) := by decide +kernel
theorem dX0_ownSitting_13 : decode cX0_ownSitting 13 = .ok (.getfield 11, 3) := by decide +kernel
theorem dX0_ownSitting_16 : decode cX0_ownSitting 16 = .ok (.iload_n 2, 1) := by decide +kernel
theorem dX0_ownSitting_17 : decode cX0_ownSitting 17 = .ok (.aaload, 1) := by decide +kernel
theorem dX0_ownSitting_18 : decode cX0_ownSitting 18 = .ok (.invokevirtual 62, 3) := by decide +kernel
theorem dX0_ownSitting_21 : decode cX0_ownSitting 21 = .ok (.ifCond .eq 6, 3) := by decide +kernel
theorem dX0_ownSitting_24 : decode cX0_ownSitting 24 = .ok (.iinc 1 1, 3) := by decide +kernel
theorem dX0_ownSitting_27 : decode cX0_ownSitting 27 = .ok (.iinc 2 1, 3) := by decide +kernel
theorem dX0_ownSitting_30 : decode cX0_ownSitting 30 = .ok (.goto (-26), 3) := by decide +kernel
theorem dX0_ownSitting_33 : decode cX0_ownSitting 33 = .ok (.iload_n 1, 1) := by decide +kernel
theorem dX0_ownSitting_34 : decode cX0_ownSitting 34 = .ok (.ireturn, 1) := by decide +kernel
theorem dX0_deputiesSitting_0 : decode cX0_deputiesSitting 0 = .ok (.iconst 0, 1) := by decide +kernel
theorem dX0_deputiesSitting_1 : decode cX0_deputiesSitting 1 = .ok (.istore_n 1, 1) := by decide +kernel
theorem dX0_deputiesSitting_2 : decode cX0_deputiesSitting 2 = .ok (.iconst 0, 1) := by decide +kernel
theorem dX0_deputiesSitting_3 : decode cX0_deputiesSitting 3 = .ok (.istore_n 2, 1) := by decide +kernel
theorem dX0_deputiesSitting_4 : decode cX0_deputiesSitting 4 = .ok (.iload_n 2, 1) := by decide +kernel
theorem dX0_deputiesSitting_5 : decode cX0_deputiesSitting 5 = .ok (.aload_n 0, 1) := by decide +kernel
theorem dX0_deputiesSitting_6 : decode cX0_deputiesSitting 6 = .ok (.getfield 31, 3) := by decide +kernel
theorem dX0_deputiesSitting_9 : decode cX0_deputiesSitting 9 = .ok (.if_icmp .ge 24, 3) := by decide +kernel
theorem dX0_deputiesSitting_12 : decode cX0_deputiesSitting 12 = .ok (.aload_n 0, 1) := by decide +kernel
theorem dX0_deputiesSitting_13 : decode cX0_deputiesSitting 13 = .ok (.getfield 11, 3) := by decide +kernel
theorem dX0_deputiesSitting_16 : decode cX0_deputiesSitting 16 = .ok (.iload_n 2, 1) := by decide +kernel
theorem dX0_deputiesSitting_17 : decode cX0_deputiesSitting 17 = .ok (.aaload, 1) := by decide +kernel
theorem dX0_deputiesSitting_18 : decode cX0_deputiesSitting 18 = .ok (.invokevirtual 66, 3) := by decide +kernel
theorem dX0_deputiesSitting_21 : decode cX0_deputiesSitting 21 = .ok (.ifCond .eq 6, 3) := by decide +kernel
theorem dX0_deputiesSitting_24 : decode cX0_deputiesSitting 24 = .ok (.iinc 1 1, 3) := by decide +kernel
theorem dX0_deputiesSitting_27 : decode cX0_deputiesSitting 27 = .ok (.iinc 2 1, 3) := by decide +kernel
theorem dX0_deputiesSitting_30 : decode cX0_deputiesSitting 30 = .ok (.goto (-26), 3) := by decide +kernel
theorem dX0_deputiesSitting_33 : decode cX0_deputiesSitting 33 = .ok (.iload_n 1, 1) := by decide +kernel
theorem dX0_deputiesSitting_34 : decode cX0_deputiesSitting 34 = .ok (.ireturn, 1) := by decide +kernel
theorem dX0_emptyChairs_0 : decode cX0_emptyChairs 0 = .ok (.iconst 0, 1) := by decide +kernel
theorem dX0_emptyChairs_1 : decode cX0_emptyChairs 1 = .ok (.istore_n 1, 1) := by decide +kernel
theorem dX0_emptyChairs_2 : decode cX0_emptyChairs 2 = .ok (.iconst 0, 1) := by decide +kernel
theorem dX0_emptyChairs_3 : decode cX0_emptyChairs 3 = .ok (.istore_n 2, 1) := by decide +kernel
theorem dX0_emptyChairs_4 : decode cX0_emptyChairs 4 = .ok (.iload_n 2, 1) := by decide +kernel
theorem dX0_emptyChairs_5 : decode cX0_emptyChairs 5 = .ok (.aload_n 0, 1) := by decide +kernel
theorem dX0_emptyChairs_6 : decode cX0_emptyChairs 6 = .ok (.getfield 31, 3) := by decide +kernel
theorem dX0_emptyChairs_9 : decode cX0_emptyChairs 9 = .ok (.if_icmp .ge 24, 3) := by decide +kernel
theorem dX0_emptyChairs_12 : decode cX0_emptyChairs 12 = .ok (.aload_n 0, 1) := by decide +kernel
theorem dX0_emptyChairs_13 : decode cX0_emptyChairs 13 = .ok (.getfield 11, 3) := by decide +kernel
theorem dX0_emptyChairs_16 : decode cX0_emptyChairs 16 = .ok (.iload_n 2, 1) := by decide +kernel
theorem dX0_emptyChairs_17 : decode cX0_emptyChairs 17 = .ok (.aaload, 1) := by decide +kernel
theorem dX0_emptyChairs_18 : decode cX0_emptyChairs 18 = .ok (.invokevirtual 69, 3) := by decide +kernel
theorem dX0_emptyChairs_21 : decode cX0_emptyChairs 21 = .ok (.ifCond .eq 6, 3) := by decide +kernel
theorem dX0_emptyChairs_24 : decode cX0_emptyChairs 24 = .ok (.iinc 1 1, 3) := by decide +kernel
theorem dX0_emptyChairs_27 : decode cX0_emptyChairs 27 = .ok (.iinc 2 1, 3) := by decide +kernel
theorem dX0_emptyChairs_30 : decode cX0_emptyChairs 30 = .ok (.goto (-26), 3) := by decide +kernel
theorem dX0_emptyChairs_33 : decode cX0_emptyChairs 33 = .ok (.iload_n 1, 1) := by decide +kernel
theorem dX0_emptyChairs_34 : decode cX0_emptyChairs 34 = .ok (.ireturn, 1) := by decide +kernel
theorem dX0_tell_0 : decode cX0_tell 0 = .ok (.iload_n 1, 1) := by decide +kernel
theorem dX0_tell_1 : decode cX0_tell 1 = .ok (.tableswitch 87 0 7 #[47, 52, 57, 62, 67, 72, 77, 82], 47) := by decide +kernel
theorem dX0_tell_48 : decode cX0_tell 48 = .ok (.aload_n 0, 1) := by decide +kernel
theorem dX0_tell_49 : decode cX0_tell 49 = .ok (.getfield 31, 3) := by decide +kernel
theorem dX0_tell_52 : decode cX0_tell 52 = .ok (.ireturn, 1) := by decide +kernel
theorem dX0_tell_53 : decode cX0_tell 53 = .ok (.aload_n 0, 1) := by decide +kernel
theorem dX0_tell_54 : decode cX0_tell 54 = .ok (.invokevirtual 72, 3) := by decide +kernel
theorem dX0_tell_57 : decode cX0_tell 57 = .ok (.ireturn, 1) := by decide +kernel
theorem dX0_tell_58 : decode cX0_tell 58 = .ok (.aload_n 0, 1) := by decide +kernel
theorem dX0_tell_59 : decode cX0_tell 59 = .ok (.getfield 38, 3) := by decide +kernel
theorem dX0_tell_62 : decode cX0_tell 62 = .ok (.ireturn, 1) := by decide +kernel
theorem dX0_tell_63 : decode cX0_tell 63 = .ok (.aload_n 0, 1) := by decide +kernel
theorem dX0_tell_64 : decode cX0_tell 64 = .ok (.getfield 17, 3) := by decide +kernel
theorem dX0_tell_67 : decode cX0_tell 67 = .ok (.ireturn, 1) := by decide +kernel
theorem dX0_tell_68 : decode cX0_tell 68 = .ok (.aload_n 0, 1) := by decide +kernel
theorem dX0_tell_69 : decode cX0_tell 69 = .ok (.getfield 21, 3) := by decide +kernel
theorem dX0_tell_72 : decode cX0_tell 72 = .ok (.ireturn, 1) := by decide +kernel
theorem dX0_tell_73 : decode cX0_tell 73 = .ok (.aload_n 0, 1) := by decide +kernel
theorem dX0_tell_74 : decode cX0_tell 74 = .ok (.getfield 24, 3) := by decide +kernel
theorem dX0_tell_77 : decode cX0_tell 77 = .ok (.ireturn, 1) := by decide +kernel
theorem dX0_tell_78 : decode cX0_tell 78 = .ok (.aload_n 0, 1) := by decide +kernel
theorem dX0_tell_79 : decode cX0_tell 79 = .ok (.getfield 27, 3) := by decide +kernel
theorem dX0_tell_82 : decode cX0_tell 82 = .ok (.ireturn, 1) := by decide +kernel
theorem dX0_tell_83 : decode cX0_tell 83 = .ok (.aload_n 0, 1) := by decide +kernel
theorem dX0_tell_84 : decode cX0_tell 84 = .ok (.getfield 41, 3) := by decide +kernel
theorem dX0_tell_87 : decode cX0_tell 87 = .ok (.ireturn, 1) := by decide +kernel
theorem dX0_tell_88 : decode cX0_tell 88 = .ok (.aload_n 0, 1) := by decide +kernel
theorem dX0_tell_89 : decode cX0_tell 89 = .ok (.getfield 44, 3) := by decide +kernel
theorem dX0_tell_92 : decode cX0_tell 92 = .ok (.ireturn, 1) := by decide +kernel
theorem dX0_outlook_0 : decode cX0_outlook 0 = .ok (.iload_n 1, 1) := by decide +kernel
theorem dX0_outlook_1 : decode cX0_outlook 1 = .ok (.tableswitch 42 0 2 #[27, 32, 37], 27) := by decide +kernel
theorem dX0_outlook_28 : decode cX0_outlook 28 = .ok (.aload_n 0, 1) := by decide +kernel
theorem dX0_outlook_29 : decode cX0_outlook 29 = .ok (.getfield 17, 3) := by decide +kernel
theorem dX0_outlook_32 : decode cX0_outlook 32 = .ok (.ireturn, 1) := by decide +kernel
theorem dX0_outlook_33 : decode cX0_outlook 33 = .ok (.aload_n 0, 1) := by decide +kernel
theorem dX0_outlook_34 : decode cX0_outlook 34 = .ok (.getfield 21, 3) := by decide +kernel
theorem dX0_outlook_37 : decode cX0_outlook 37 = .ok (.ireturn, 1) := by decide +kernel
theorem dX0_outlook_38 : decode cX0_outlook 38 = .ok (.aload_n 0, 1) := by decide +kernel
theorem dX0_outlook_39 : decode cX0_outlook 39 = .ok (.getfield 24, 3) := by decide +kernel
theorem dX0_outlook_42 : decode cX0_outlook 42 = .ok (.ireturn, 1) := by decide +kernel
theorem dX0_outlook_43 : decode cX0_outlook 43 = .ok (.aload_n 0, 1) := by decide +kernel
theorem dX0_outlook_44 : decode cX0_outlook 44 = .ok (.getfield 41, 3) := by decide +kernel
theorem dX0_outlook_47 : decode cX0_outlook 47 = .ok (.ireturn, 1) := by decide +kernel
theorem dX1_init_0 : decode cX1_init 0 = .ok (.aload_n 0, 1) := by decide +kernel
theorem dX1_init_1 : decode cX1_init 1 = .ok (.invokespecial 3, 3) := by decide +kernel
theorem dX1_init_4 : decode cX1_init 4 = .ok (.aload_n 0, 1) := by decide +kernel
theorem dX1_init_5 : decode cX1_init 5 = .ok (.iconst (-1), 1) := by decide +kernel
theorem dX1_init_6 : decode cX1_init 6 = .ok (.putfield 9, 3) := by decide +kernel
theorem dX1_init_9 : decode cX1_init 9 = .ok (.aload_n 0, 1) := by decide +kernel
theorem dX1_init_10 : decode cX1_init 10 = .ok (.iconst (-1), 1) := by decide +kernel
theorem dX1_init_11 : decode cX1_init 11 = .ok (.putfield 15, 3) := by decide +kernel
theorem dX1_init_14 : decode cX1_init 14 = .ok (.return_, 1) := by decide +kernel
theorem dX1_copyFrom_0 : decode cX1_copyFrom 0 = .ok (.aload_n 0, 1) := by decide +kernel
theorem dX1_copyFrom_1 : decode cX1_copyFrom 1 = .ok (.aload_n 1, 1) := by decide +kernel
theorem dX1_copyFrom_2 : decode cX1_copyFrom 2 = .ok (.getfield 18, 3) := by decide +kernel
theorem dX1_copyFrom_5 : decode cX1_copyFrom 5 = .ok (.putfield 18, 3) := by decide +kernel
theorem dX1_copyFrom_8 : decode cX1_copyFrom 8 = .ok (.aload_n 0, 1) := by decide +kernel
theorem dX1_copyFrom_9 : decode cX1_copyFrom 9 = .ok (.aload_n 1, 1) := by decide +kernel
theorem dX1_copyFrom_10 : decode cX1_copyFrom 10 = .ok (.getfield 9, 3) := by decide +kernel
theorem dX1_copyFrom_13 : decode cX1_copyFrom 13 = .ok (.putfield 9, 3) := by decide +kernel
theorem dX1_copyFrom_16 : decode cX1_copyFrom 16 = .ok (.aload_n 0, 1) := by decide +kernel
theorem dX1_copyFrom_17 : decode cX1_copyFrom 17 = .ok (.aload_n 1, 1) := by decide +kernel
theorem dX1_copyFrom_18 : decode cX1_copyFrom 18 = .ok (.getfield 15, 3) := by decide +kernel
theorem dX1_copyFrom_21 : decode cX1_copyFrom 21 = .ok (.putfield 15, 3) := by decide +kernel
theorem dX1_copyFrom_24 : decode cX1_copyFrom 24 = .ok (.return_, 1) := by decide +kernel
theorem dX1_isEmpty_0 : decode cX1_isEmpty 0 = .ok (.aload_n 0, 1) := by decide +kernel
theorem dX1_isEmpty_1 : decode cX1_isEmpty 1 = .ok (.getfield 15, 3) := by decide +kernel
theorem dX1_isEmpty_4 : decode cX1_isEmpty 4 = .ok (.iconst (-1), 1) := by decide +kernel
theorem dX1_isEmpty_5 : decode cX1_isEmpty 5 = .ok (.if_icmp .ne 7, 3) := by decide +kernel
theorem dX1_isEmpty_8 : decode cX1_isEmpty 8 = .ok (.iconst 1, 1) := by decide +kernel
theorem dX1_isEmpty_9 : decode cX1_isEmpty 9 = .ok (.goto 4, 3) := by decide +kernel
theorem dX1_isEmpty_12 : decode cX1_isEmpty 12 = .ok (.iconst 0, 1) := by decide +kernel
theorem dX1_isEmpty_13 : decode cX1_isEmpty 13 = .ok (.ireturn, 1) := by decide +kernel
theorem dX1_hasOwn_0 : decode cX1_hasOwn 0 = .ok (.aload_n 0, 1) := by decide +kernel
theorem dX1_hasOwn_1 : decode cX1_hasOwn 1 = .ok (.getfield 15, 3) := by decide +kernel
theorem dX1_hasOwn_4 : decode cX1_hasOwn 4 = .ok (.iconst (-1), 1) := by decide +kernel
theorem dX1_hasOwn_5 : decode cX1_hasOwn 5 = .ok (.if_icmp .eq 18, 3) := by decide +kernel
theorem dX1_hasOwn_8 : decode cX1_hasOwn 8 = .ok (.aload_n 0, 1) := by decide +kernel
theorem dX1_hasOwn_9 : decode cX1_hasOwn 9 = .ok (.getfield 15, 3) := by decide +kernel
theorem dX1_hasOwn_12 : decode cX1_hasOwn 12 = .ok (.aload_n 0, 1) := by decide +kernel
theorem dX1_hasOwn_13 : decode cX1_hasOwn 13 = .ok (.getfield 9, 3) := by decide +kernel
theorem dX1_hasOwn_16 : decode cX1_hasOwn 16 = .ok (.if_icmp .ne 7, 3) := by decide +kernel
theorem dX1_hasOwn_19 : decode cX1_hasOwn 19 = .ok (.iconst 1, 1) := by decide +kernel
theorem dX1_hasOwn_20 : decode cX1_hasOwn 20 = .ok (.goto 4, 3) := by decide +kernel
theorem dX1_hasOwn_23 : decode cX1_hasOwn 23 = .ok (.iconst 0, 1) := by decide +kernel
theorem dX1_hasOwn_24 : decode cX1_hasOwn 24 = .ok (.ireturn, 1) := by decide +kernel
theorem dX1_hasDeputy_0 : decode cX1_hasDeputy 0 = .ok (.aload_n 0, 1) := by decide +kernel
theorem dX1_hasDeputy_1 : decode cX1_hasDeputy 1 = .ok (.getfield 15, 3) := by decide +kernel
theorem dX1_hasDeputy_4 : decode cX1_hasDeputy 4 = .ok (.iconst (-1), 1) := by decide +kernel
theorem dX1_hasDeputy_5 : decode cX1_hasDeputy 5 = .ok (.if_icmp .eq 18, 3) := by decide +kernel
theorem dX1_hasDeputy_8 : decode cX1_hasDeputy 8 = .ok (.aload_n 0, 1) := by decide +kernel
theorem dX1_hasDeputy_9 : decode cX1_hasDeputy 9 = .ok (.getfield 15, 3) := by decide +kernel
theorem dX1_hasDeputy_12 : decode cX1_hasDeputy 12 = .ok (.aload_n 0, 1) := by decide +kernel
theorem dX1_hasDeputy_13 : decode cX1_hasDeputy 13 = .ok (.getfield 9, 3) := by decide +kernel
theorem dX1_hasDeputy_16 : decode cX1_hasDeputy 16 = .ok (.if_icmp .eq 7, 3) := by decide +kernel
theorem dX1_hasDeputy_19 : decode cX1_hasDeputy 19 = .ok (.iconst 1, 1) := by decide +kernel
theorem dX1_hasDeputy_20 : decode cX1_hasDeputy 20 = .ok (.goto 4, 3) := by decide +kernel
theorem dX1_hasDeputy_23 : decode cX1_hasDeputy 23 = .ok (.iconst 0, 1) := by decide +kernel
theorem dX1_hasDeputy_24 : decode cX1_hasDeputy 24 = .ok (.ireturn, 1) := by decide +kernel
theorem dX1_tell_0 : decode cX1_tell 0 = .ok (.iload_n 1, 1) := by decide +kernel
theorem dX1_tell_1 : decode cX1_tell 1 = .ok (.lookupswitch 37 #[(0, 27), (1, 32)], 27) := by decide +kernel
theorem dX1_tell_28 : decode cX1_tell 28 = .ok (.aload_n 0, 1) := by decide +kernel
theorem dX1_tell_29 : decode cX1_tell 29 = .ok (.getfield 18, 3) := by decide +kernel
theorem dX1_tell_32 : decode cX1_tell 32 = .ok (.ireturn, 1) := by decide +kernel
theorem dX1_tell_33 : decode cX1_tell 33 = .ok (.aload_n 0, 1) := by decide +kernel
theorem dX1_tell_34 : decode cX1_tell 34 = .ok (.getfield 9, 3) := by decide +kernel
theorem dX1_tell_37 : decode cX1_tell 37 = .ok (.ireturn, 1) := by decide +kernel
theorem dX1_tell_38 : decode cX1_tell 38 = .ok (.aload_n 0, 1) := by decide +kernel
theorem dX1_tell_39 : decode cX1_tell 39 = .ok (.getfield 15, 3) := by decide +kernel
theorem dX1_tell_42 : decode cX1_tell 42 = .ok (.ireturn, 1) := by decide +kernel
theorem dX2_init_0 : decode cX2_init 0 = .ok (.aload_n 0, 1) := by decide +kernel
theorem dX2_init_1 : decode cX2_init 1 = .ok (.invokespecial 3, 3) := by decide +kernel
theorem dX2_init_4 : decode cX2_init 4 = .ok (.aload_n 0, 1) := by decide +kernel
theorem dX2_init_5 : decode cX2_init 5 = .ok (.aload_n 1, 1) := by decide +kernel
theorem dX2_init_6 : decode cX2_init 6 = .ok (.putfield 9, 3) := by decide +kernel
theorem dX2_init_9 : decode cX2_init 9 = .ok (.return_, 1) := by decide +kernel
theorem dX2_hold_0 : decode cX2_hold 0 = .ok (.aload_n 0, 1) := by decide +kernel
theorem dX2_hold_1 : decode cX2_hold 1 = .ok (.invokevirtual 15, 3) := by decide +kernel
theorem dX2_hold_4 : decode cX2_hold 4 = .ok (.iconst 0, 1) := by decide +kernel
theorem dX2_hold_5 : decode cX2_hold 5 = .ok (.istore_n 1, 1) := by decide +kernel
theorem dX2_hold_6 : decode cX2_hold 6 = .ok (.iload_n 1, 1) := by decide +kernel
theorem dX2_hold_7 : decode cX2_hold 7 = .ok (.aload_n 0, 1) := by decide +kernel
theorem dX2_hold_8 : decode cX2_hold 8 = .ok (.getfield 9, 3) := by decide +kernel
theorem dX2_hold_11 : decode cX2_hold 11 = .ok (.getfield 18, 3) := by decide +kernel
theorem dX2_hold_14 : decode cX2_hold 14 = .ok (.if_icmp .ge 18, 3) := by decide +kernel
theorem dX2_hold_17 : decode cX2_hold 17 = .ok (.aload_n 0, 1) := by decide +kernel
theorem dX2_hold_18 : decode cX2_hold 18 = .ok (.aload_n 0, 1) := by decide +kernel
theorem dX2_hold_19 : decode cX2_hold 19 = .ok (.iload_n 1, 1) := by decide +kernel
theorem dX2_hold_20 : decode cX2_hold 20 = .ok (.invokevirtual 24, 3) := by decide +kernel
theorem dX2_hold_23 : decode cX2_hold 23 = .ok (.invokevirtual 28, 3) := by decide +kernel
theorem dX2_hold_26 : decode cX2_hold 26 = .ok (.iinc 1 1, 3) := by decide +kernel
theorem dX2_hold_29 : decode cX2_hold 29 = .ok (.goto (-23), 3) := by decide +kernel
theorem dX2_hold_32 : decode cX2_hold 32 = .ok (.aload_n 0, 1) := by decide +kernel
theorem dX2_hold_33 : decode cX2_hold 33 = .ok (.invokevirtual 32, 3) := by decide +kernel
theorem dX2_hold_36 : decode cX2_hold 36 = .ok (.istore_n 1, 1) := by decide +kernel
theorem dX2_hold_37 : decode cX2_hold 37 = .ok (.iconst 0, 1) := by decide +kernel
theorem dX2_hold_38 : decode cX2_hold 38 = .ok (.istore_n 2, 1) := by decide +kernel
theorem dX2_hold_39 : decode cX2_hold 39 = .ok (.iload_n 2, 1) := by decide +kernel
theorem dX2_hold_40 : decode cX2_hold 40 = .ok (.aload_n 0, 1) := by decide +kernel
theorem dX2_hold_41 : decode cX2_hold 41 = .ok (.getfield 9, 3) := by decide +kernel
theorem dX2_hold_44 : decode cX2_hold 44 = .ok (.getfield 18, 3) := by decide +kernel
theorem dX2_hold_47 : decode cX2_hold 47 = .ok (.if_icmp .ge 34, 3) := by decide +kernel
theorem dX2_hold_50 : decode cX2_hold 50 = .ok (.aload_n 0, 1) := by decide +kernel
theorem dX2_hold_51 : decode cX2_hold 51 = .ok (.getfield 9, 3) := by decide +kernel
theorem dX2_hold_54 : decode cX2_hold 54 = .ok (.getfield 36, 3) := by decide +kernel
theorem dX2_hold_57 : decode cX2_hold 57 = .ok (.iload_n 2, 1) := by decide +kernel
theorem dX2_hold_58 : decode cX2_hold 58 = .ok (.aaload, 1) := by decide +kernel
theorem dX2_hold_59 : decode cX2_hold 59 = .ok (.astore_n 3, 1) := by decide +kernel
theorem dX2_hold_60 : decode cX2_hold 60 = .ok (.aload_n 3, 1) := by decide +kernel
theorem dX2_hold_61 : decode cX2_hold 61 = .ok (.aload_n 3, 1) := by decide +kernel
theorem dX2_hold_62 : decode cX2_hold 62 = .ok (.invokevirtual 40, 3) := by decide +kernel
theorem dX2_hold_65 : decode cX2_hold 65 = .ok (.iconst 2, 1) := by decide +kernel
theorem dX2_hold_66 : decode cX2_hold 66 = .ok (.aload_n 3, 1) := by decide +kernel
theorem dX2_hold_67 : decode cX2_hold 67 = .ok (.invokevirtual 45, 3) := by decide +kernel
theorem dX2_hold_70 : decode cX2_hold 70 = .ok (.imul, 1) := by decide +kernel
theorem dX2_hold_71 : decode cX2_hold 71 = .ok (.isub, 1) := by decide +kernel
theorem dX2_hold_72 : decode cX2_hold 72 = .ok (.invokevirtual 48, 3) := by decide +kernel
theorem dX2_hold_75 : decode cX2_hold 75 = .ok (.iinc 2 1, 3) := by decide +kernel
theorem dX2_hold_78 : decode cX2_hold 78 = .ok (.goto (-39), 3) := by decide +kernel
theorem dX2_hold_81 : decode cX2_hold 81 = .ok (.iconst 0, 1) := by decide +kernel
theorem dX2_hold_82 : decode cX2_hold 82 = .ok (.istore_n 2, 1) := by decide +kernel
theorem dX2_hold_83 : decode cX2_hold 83 = .ok (.iload_n 2, 1) := by decide +kernel
theorem dX2_hold_84 : decode cX2_hold 84 = .ok (.aload_n 0, 1) := by decide +kernel
theorem dX2_hold_85 : decode cX2_hold 85 = .ok (.getfield 9, 3) := by decide +kernel
theorem dX2_hold_88 : decode cX2_hold 88 = .ok (.getfield 51, 3) := by decide +kernel
theorem dX2_hold_91 : decode cX2_hold 91 = .ok (.if_icmp .ge 33, 3) := by decide +kernel
theorem dX2_hold_94 : decode cX2_hold 94 = .ok (.aload_n 0, 1) := by decide +kernel
theorem dX2_hold_95 : decode cX2_hold 95 = .ok (.getfield 9, 3) := by decide +kernel
theorem dX2_hold_98 : decode cX2_hold 98 = .ok (.getfield 54, 3) := by decide +kernel
theorem dX2_hold_101 : decode cX2_hold 101 = .ok (.iload_n 2, 1) := by decide +kernel
theorem dX2_hold_102 : decode cX2_hold 102 = .ok (.aaload, 1) := by decide +kernel
theorem dX2_hold_103 : decode cX2_hold 103 = .ok (.astore_n 3, 1) := by decide +kernel
theorem dX2_hold_104 : decode cX2_hold 104 = .ok (.aload_n 3, 1) := by decide +kernel
theorem dX2_hold_105 : decode cX2_hold 105 = .ok (.iconst 0, 1) := by decide +kernel
theorem dX2_hold_106 : decode cX2_hold 106 = .ok (.aload_n 3, 1) := by decide +kernel
theorem dX2_hold_107 : decode cX2_hold 107 = .ok (.getfield 58, 3) := by decide +kernel
theorem dX2_hold_110 : decode cX2_hold 110 = .ok (.iconst 1, 1) := by decide +kernel
theorem dX2_hold_111 : decode cX2_hold 111 = .ok (.isub, 1) := by decide +kernel
theorem dX2_hold_112 : decode cX2_hold 112 = .ok (.invokestatic 63, 3) := by decide +kernel
theorem dX2_hold_115 : decode cX2_hold 115 = .ok (.putfield 58, 3) := by decide +kernel
theorem dX2_hold_118 : decode cX2_hold 118 = .ok (.iinc 2 1, 3) := by decide +kernel
theorem dX2_hold_121 : decode cX2_hold 121 = .ok (.goto (-38), 3) := by decide +kernel
theorem dX2_hold_124 : decode cX2_hold 124 = .ok (.aload_n 0, 1) := by decide +kernel
theorem dX2_hold_125 : decode cX2_hold 125 = .ok (.getfield 9, 3) := by decide +kernel
theorem dX2_hold_128 : decode cX2_hold 128 = .ok (.dup, 1) := by decide +kernel
theorem dX2_hold_129 : decode cX2_hold 129 = .ok (.getfield 69, 3) := by decide +kernel
theorem dX2_hold_132 : decode cX2_hold 132 = .ok (.iconst 1, 1) := by decide +kernel
theorem dX2_hold_133 : decode cX2_hold 133 = .ok (.iadd, 1) := by decide +kernel
theorem dX2_hold_134 : decode cX2_hold 134 = .ok (.putfield 69, 3) := by decide +kernel
theorem dX2_hold_137 : decode cX2_hold 137 = .ok (.iload_n 1, 1) := by decide +kernel
theorem dX2_hold_138 : decode cX2_hold 138 = .ok (.ireturn, 1) := by decide +kernel
theorem dX2_playAllAheadOf_0 : decode cX2_playAllAheadOf 0 = .ok (.aload_n 0, 1) := by decide +kernel
theorem dX2_playAllAheadOf_1 : decode cX2_playAllAheadOf 1 = .ok (.invokevirtual 15, 3) := by decide +kernel
theorem dX2_playAllAheadOf_4 : decode cX2_playAllAheadOf 4 = .ok (.iconst 0, 1) := by decide +kernel
theorem dX2_playAllAheadOf_5 : decode cX2_playAllAheadOf 5 = .ok (.istore_n 2, 1) := by decide +kernel
theorem dX2_playAllAheadOf_6 : decode cX2_playAllAheadOf 6 = .ok (.iload_n 2, 1) := by decide +kernel
theorem dX2_playAllAheadOf_7 : decode cX2_playAllAheadOf 7 = .ok (.aload_n 0, 1) := by decide +kernel
theorem dX2_playAllAheadOf_8 : decode cX2_playAllAheadOf 8 = .ok (.getfield 9, 3) := by decide +kernel
theorem dX2_playAllAheadOf_11 : decode cX2_playAllAheadOf 11 = .ok (.getfield 18, 3) := by decide +kernel
theorem dX2_playAllAheadOf_14 : decode cX2_playAllAheadOf 14 = .ok (.if_icmp .ge 26, 3) := by decide +kernel
theorem dX2_playAllAheadOf_17 : decode cX2_playAllAheadOf 17 = .ok (.aload_n 0, 1) := by decide +kernel
theorem dX2_playAllAheadOf_18 : decode cX2_playAllAheadOf 18 = .ok (.iload_n 2, 1) := by decide +kernel
theorem dX2_playAllAheadOf_19 : decode cX2_playAllAheadOf 19 = .ok (.invokevirtual 24, 3) := by decide +kernel
theorem dX2_playAllAheadOf_22 : decode cX2_playAllAheadOf 22 = .ok (.istore_n 3, 1) := by decide +kernel
theorem dX2_playAllAheadOf_23 : decode cX2_playAllAheadOf 23 = .ok (.iload_n 3, 1) := by decide +kernel
theorem dX2_playAllAheadOf_24 : decode cX2_playAllAheadOf 24 = .ok (.iload_n 1, 1) := by decide +kernel
theorem dX2_playAllAheadOf_25 : decode cX2_playAllAheadOf 25 = .ok (.if_icmp .ne 4, 3) := by decide +kernel
theorem dX2_playAllAheadOf_28 : decode cX2_playAllAheadOf 28 = .ok (.return_, 1) := by decide +kernel
theorem dX2_playAllAheadOf_29 : decode cX2_playAllAheadOf 29 = .ok (.aload_n 0, 1) := by decide +kernel
theorem dX2_playAllAheadOf_30 : decode cX2_playAllAheadOf 30 = .ok (.iload_n 3, 1) := by decide +kernel
theorem dX2_playAllAheadOf_31 : decode cX2_playAllAheadOf 31 = .ok (.invokevirtual 28, 3) := by decide +kernel
theorem dX2_playAllAheadOf_34 : decode cX2_playAllAheadOf 34 = .ok (.iinc 2 1, 3) := by decide +kernel
theorem dX2_playAllAheadOf_37 : decode cX2_playAllAheadOf 37 = .ok (.goto (-31), 3) := by decide +kernel
theorem dX2_playAllAheadOf_40 : decode cX2_playAllAheadOf 40 = .ok (.return_, 1) := by decide +kernel
theorem dX2_bestChange_0 : decode cX2_bestChange 0 = .ok (.aload_n 0, 1) := by decide +kernel
theorem dX2_bestChange_1 : decode cX2_bestChange 1 = .ok (.getfield 9, 3) := by decide +kernel
theorem dX2_bestChange_4 : decode cX2_bestChange 4 = .ok (.iload_n 1, 1) := by decide +kernel
theorem dX2_bestChange_5 : decode cX2_bestChange 5 = .ok (.invokevirtual 72, 3) := by decide +kernel
theorem dX2_bestChange_8 : decode cX2_bestChange 8 = .ok (.astore_n 2, 1) := by decide +kernel
theorem dX2_bestChange_9 : decode cX2_bestChange 9 = .ok (.aload_n 2, 1) := by decide +kernel
theorem dX2_bestChange_10 : decode cX2_bestChange 10 = .ok (.ifnonnull 5, 3) := by decide +kernel
theorem dX2_bestChange_13 : decode cX2_bestChange 13 = .ok (.iconst (-1), 1) := by decide +kernel
theorem dX2_bestChange_14 : decode cX2_bestChange 14 = .ok (.ireturn, 1) := by decide +kernel
theorem dX2_bestChange_15 : decode cX2_bestChange 15 = .ok (.aload_n 0, 1) := by decide +kernel
theorem dX2_bestChange_16 : decode cX2_bestChange 16 = .ok (.aload_n 2, 1) := by decide +kernel
theorem dX2_bestChange_17 : decode cX2_bestChange 17 = .ok (.invokevirtual 76, 3) := by decide +kernel
theorem dX2_bestChange_20 : decode cX2_bestChange 20 = .ok (.istore_n 3, 1) := by decide +kernel
theorem dX2_bestChange_21 : decode cX2_bestChange 21 = .ok (.iconst (-1), 1) := by decide +kernel
theorem dX2_bestChange_22 : decode cX2_bestChange 22 = .ok (.istore 4, 2) := by decide +kernel
theorem dX2_bestChange_24 : decode cX2_bestChange 24 = .ok (.iconst 0, 1) := by decide +kernel
theorem dX2_bestChange_25 : decode cX2_bestChange 25 = .ok (.istore 5, 2) := by decide +kernel
theorem dX2_bestChange_27 : decode cX2_bestChange 27 = .ok (.iload 5, 2) := by decide +kernel
theorem dX2_bestChange_29 : decode cX2_bestChange 29 = .ok (.aload_n 2, 1) := by decide +kernel
theorem dX2_bestChange_30 : decode cX2_bestChange 30 = .ok (.getfield 80, 3) := by decide +kernel
theorem dX2_bestChange_33 : decode cX2_bestChange 33 = .ok (.if_icmp .ge 80, 3) := by decide +kernel
theorem dX2_bestChange_36 : decode cX2_bestChange 36 = .ok (.iload 5, 2) := by decide +kernel
theorem dX2_bestChange_38 : decode cX2_bestChange 38 = .ok (.iconst 1, 1) := by decide +kernel
theorem dX2_bestChange_39 : decode cX2_bestChange 39 = .ok (.iadd, 1) := by decide +kernel
theorem dX2_bestChange_40 : decode cX2_bestChange 40 = .ok (.istore 6, 2) := by decide +kernel
theorem dX2_bestChange_42 : decode cX2_bestChange 42 = .ok (.iload 6, 2) := by decide +kernel
theorem dX2_bestChange_44 : decode cX2_bestChange 44 = .ok (.aload_n 2, 1) := by decide +kernel
theorem dX2_bestChange_45 : decode cX2_bestChange 45 = .ok (.getfield 80, 3) := by decide +kernel
theorem dX2_bestChange_48 : decode cX2_bestChange 48 = .ok (.if_icmp .ge 59, 3) := by decide +kernel
theorem dX2_bestChange_51 : decode cX2_bestChange 51 = .ok (.aload_n 0, 1) := by decide +kernel
theorem dX2_bestChange_52 : decode cX2_bestChange 52 = .ok (.getfield 9, 3) := by decide +kernel
theorem dX2_bestChange_55 : decode cX2_bestChange 55 = .ok (.iload_n 1, 1) := by decide +kernel
theorem dX2_bestChange_56 : decode cX2_bestChange 56 = .ok (.iload 5, 2) := by decide +kernel
theorem dX2_bestChange_58 : decode cX2_bestChange 58 = .ok (.iload 6, 2) := by decide +kernel
theorem dX2_bestChange_60 : decode cX2_bestChange 60 = .ok (.invokevirtual 83, 3) := by decide +kernel
theorem dX2_bestChange_63 : decode cX2_bestChange 63 = .ok (.aload_n 0, 1) := by decide +kernel
theorem dX2_bestChange_64 : decode cX2_bestChange 64 = .ok (.aload_n 2, 1) := by decide +kernel
theorem dX2_bestChange_65 : decode cX2_bestChange 65 = .ok (.invokevirtual 76, 3) := by decide +kernel
theorem dX2_bestChange_68 : decode cX2_bestChange 68 = .ok (.istore 7, 2) := by decide +kernel
theorem dX2_bestChange_70 : decode cX2_bestChange 70 = .ok (.aload_n 0, 1) := by decide +kernel
theorem dX2_bestChange_71 : decode cX2_bestChange 71 = .ok (.getfield 9, 3) := by decide +kernel
theorem dX2_bestChange_74 : decode cX2_bestChange 74 = .ok (.iload_n 1, 1) := by decide +kernel
theorem dX2_bestChange_75 : decode cX2_bestChange 75 = .ok (.iload 5, 2) := by decide +kernel
theorem dX2_bestChange_77 : decode cX2_bestChange 77 = .ok (.iload 6, 2) := by decide +kernel
theorem dX2_bestChange_79 : decode cX2_bestChange 79 = .ok (.invokevirtual 83, 3) := by decide +kernel
theorem dX2_bestChange_82 : decode cX2_bestChange 82 = .ok (.iload 7, 2) := by decide +kernel
theorem dX2_bestChange_84 : decode cX2_bestChange 84 = .ok (.iload_n 3, 1) := by decide +kernel
theorem dX2_bestChange_85 : decode cX2_bestChange 85 = .ok (.if_icmp .le 16, 3) := by decide +kernel
theorem dX2_bestChange_88 : decode cX2_bestChange 88 = .ok (.iload 7, 2) := by decide +kernel
theorem dX2_bestChange_90 : decode cX2_bestChange 90 = .ok (.istore_n 3, 1) := by decide +kernel
theorem dX2_bestChange_91 : decode cX2_bestChange 91 = .ok (.bipush 8, 2) := by decide +kernel
theorem dX2_bestChange_93 : decode cX2_bestChange 93 = .ok (.iload 5, 2) := by decide +kernel
theorem dX2_bestChange_95 : decode cX2_bestChange 95 = .ok (.imul, 1) := by decide +kernel
theorem dX2_bestChange_96 : decode cX2_bestChange 96 = .ok (.iload 6, 2) := by decide +kernel
theorem dX2_bestChange_98 : decode cX2_bestChange 98 = .ok (.iadd, 1) := by decide +kernel
theorem dX2_bestChange_99 : decode cX2_bestChange 99 = .ok (.istore 4, 2) := by decide +kernel
theorem dX2_bestChange_101 : decode cX2_bestChange 101 = .ok (.iinc 6 1, 3) := by decide +kernel
theorem dX2_bestChange_104 : decode cX2_bestChange 104 = .ok (.goto (-62), 3) := by decide +kernel
theorem dX2_bestChange_107 : decode cX2_bestChange 107 = .ok (.iinc 5 1, 3) := by decide +kernel
theorem dX2_bestChange_110 : decode cX2_bestChange 110 = .ok (.goto (-83), 3) := by decide +kernel
theorem dX2_bestChange_113 : decode cX2_bestChange 113 = .ok (.iload 4, 2) := by decide +kernel
theorem dX2_bestChange_115 : decode cX2_bestChange 115 = .ok (.ireturn, 1) := by decide +kernel
theorem dX2_forgetDeputies_0 : decode cX2_forgetDeputies 0 = .ok (.iconst 0, 1) := by decide +kernel
theorem dX2_forgetDeputies_1 : decode cX2_forgetDeputies 1 = .ok (.istore_n 1, 1) := by decide +kernel
theorem dX2_forgetDeputies_2 : decode cX2_forgetDeputies 2 = .ok (.iload_n 1, 1) := by decide +kernel
theorem dX2_forgetDeputies_3 : decode cX2_forgetDeputies 3 = .ok (.aload_n 0, 1) := by decide +kernel
theorem dX2_forgetDeputies_4 : decode cX2_forgetDeputies 4 = .ok (.getfield 9, 3) := by decide +kernel
theorem dX2_forgetDeputies_7 : decode cX2_forgetDeputies 7 = .ok (.getfield 51, 3) := by decide +kernel
theorem dX2_forgetDeputies_10 : decode cX2_forgetDeputies 10 = .ok (.if_icmp .ge 22, 3) := by decide +kernel
theorem dX2_forgetDeputies_13 : decode cX2_forgetDeputies 13 = .ok (.aload_n 0, 1) := by decide +kernel
theorem dX2_forgetDeputies_14 : decode cX2_forgetDeputies 14 = .ok (.getfield 9, 3) := by decide +kernel
theorem dX2_forgetDeputies_17 : decode cX2_forgetDeputies 17 = .ok (.getfield 54, 3) := by decide +kernel
theorem dX2_forgetDeputies_20 : decode cX2_forgetDeputies 20 = .ok (.iload_n 1, 1) := by decide +kernel
theorem dX2_forgetDeputies_21 : decode cX2_forgetDeputies 21 = .ok (.aaload, 1) := by decide +kernel
theorem dX2_forgetDeputies_22 : decode cX2_forgetDeputies 22 = .ok (.iconst 0, 1) := by decide +kernel
theorem dX2_forgetDeputies_23 : decode cX2_forgetDeputies 23 = .ok (.putfield 87, 3) := by decide +kernel
theorem dX2_forgetDeputies_26 : decode cX2_forgetDeputies 26 = .ok (.iinc 1 1, 3) := by decide +kernel
theorem dX2_forgetDeputies_29 : decode cX2_forgetDeputies 29 = .ok (.goto (-27), 3) := by decide +kernel
theorem dX2_forgetDeputies_32 : decode cX2_forgetDeputies 32 = .ok (.return_, 1) := by decide +kernel
theorem dX2_bandInTurn_0 : decode cX2_bandInTurn 0 = .ok (.aload_n 0, 1) := by decide +kernel
theorem dX2_bandInTurn_1 : decode cX2_bandInTurn 1 = .ok (.getfield 9, 3) := by decide +kernel
theorem dX2_bandInTurn_4 : decode cX2_bandInTurn 4 = .ok (.getfield 18, 3) := by decide +kernel
theorem dX2_bandInTurn_7 : decode cX2_bandInTurn 7 = .ok (.istore_n 2, 1) := by decide +kernel
theorem dX2_bandInTurn_8 : decode cX2_bandInTurn 8 = .ok (.iload_n 2, 1) := by decide +kernel
theorem dX2_bandInTurn_9 : decode cX2_bandInTurn 9 = .ok (.ifCond .le 19, 3) := by decide +kernel
theorem dX2_bandInTurn_12 : decode cX2_bandInTurn 12 = .ok (.aload_n 0, 1) := by decide +kernel
theorem dX2_bandInTurn_13 : decode cX2_bandInTurn 13 = .ok (.getfield 9, 3) := by decide +kernel
theorem dX2_bandInTurn_16 : decode cX2_bandInTurn 16 = .ok (.getfield 69, 3) := by decide +kernel
theorem dX2_bandInTurn_19 : decode cX2_bandInTurn 19 = .ok (.iload_n 2, 1) := by decide +kernel
theorem dX2_bandInTurn_20 : decode cX2_bandInTurn 20 = .ok (.irem, 1) := by decide +kernel
theorem dX2_bandInTurn_21 : decode cX2_bandInTurn 21 = .ok (.iload_n 1, 1) := by decide +kernel
theorem dX2_bandInTurn_22 : decode cX2_bandInTurn 22 = .ok (.iadd, 1) := by decide +kernel
theorem dX2_bandInTurn_23 : decode cX2_bandInTurn 23 = .ok (.iload_n 2, 1) := by decide +kernel
theorem dX2_bandInTurn_24 : decode cX2_bandInTurn 24 = .ok (.irem, 1) := by decide +kernel
theorem dX2_bandInTurn_25 : decode cX2_bandInTurn 25 = .ok (.goto 4, 3) := by decide +kernel
theorem dX2_bandInTurn_28 : decode cX2_bandInTurn 28 = .ok (.iconst (-1), 1) := by decide +kernel
theorem dX2_bandInTurn_29 : decode cX2_bandInTurn 29 = .ok (.ireturn, 1) := by decide +kernel
theorem dX2_play_0 : decode cX2_play 0 = .ok (.aload_n 0, 1) := by decide +kernel
theorem dX2_play_1 : decode cX2_play 1 = .ok (.getfield 9, 3) := by decide +kernel
theorem dX2_play_4 : decode cX2_play 4 = .ok (.iload_n 1, 1) := by decide +kernel
theorem dX2_play_5 : decode cX2_play 5 = .ok (.invokevirtual 72, 3) := by decide +kernel
theorem dX2_play_8 : decode cX2_play 8 = .ok (.astore_n 2, 1) := by decide +kernel
theorem dX2_play_9 : decode cX2_play 9 = .ok (.aload_n 2, 1) := by decide +kernel
theorem dX2_play_10 : decode cX2_play 10 = .ok (.ifnonnull 4, 3) := by decide +kernel
theorem dX2_play_13 : decode cX2_play 13 = .ok (.return_, 1) := by decide +kernel
theorem dX2_play_14 : decode cX2_play 14 = .ok (.aload_n 2, 1) := by decide +kernel
theorem dX2_play_15 : decode cX2_play 15 = .ok (.aload_n 0, 1) := by decide +kernel
theorem dX2_play_16 : decode cX2_play 16 = .ok (.aload_n 2, 1) := by decide +kernel
theorem dX2_play_17 : decode cX2_play 17 = .ok (.invokevirtual 76, 3) := by decide +kernel
theorem dX2_play_20 : decode cX2_play 20 = .ok (.putfield 90, 3) := by decide +kernel
theorem dX2_play_23 : decode cX2_play 23 = .ok (.aload_n 2, 1) := by decide +kernel
theorem dX2_play_24 : decode cX2_play 24 = .ok (.aload_n 2, 1) := by decide +kernel
theorem dX2_play_25 : decode cX2_play 25 = .ok (.invokevirtual 45, 3) := by decide +kernel
theorem dX2_play_28 : decode cX2_play 28 = .ok (.putfield 93, 3) := by decide +kernel
theorem dX2_play_31 : decode cX2_play 31 = .ok (.aload_n 2, 1) := by decide +kernel
theorem dX2_play_32 : decode cX2_play 32 = .ok (.aload_n 2, 1) := by decide +kernel
theorem dX2_play_33 : decode cX2_play 33 = .ok (.invokevirtual 96, 3) := by decide +kernel
theorem dX2_play_36 : decode cX2_play 36 = .ok (.putfield 99, 3) := by decide +kernel
theorem dX2_play_39 : decode cX2_play 39 = .ok (.aload_n 0, 1) := by decide +kernel
theorem dX2_play_40 : decode cX2_play 40 = .ok (.aload_n 2, 1) := by decide +kernel
theorem dX2_play_41 : decode cX2_play 41 = .ok (.invokevirtual 102, 3) := by decide +kernel
theorem dX2_play_44 : decode cX2_play 44 = .ok (.ifCond .eq 13, 3) := by decide +kernel
theorem dX2_play_47 : decode cX2_play 47 = .ok (.aload_n 2, 1) := by decide +kernel
theorem dX2_play_48 : decode cX2_play 48 = .ok (.dup, 1) := by decide +kernel
theorem dX2_play_49 : decode cX2_play 49 = .ok (.getfield 106, 3) := by decide +kernel
theorem dX2_play_52 : decode cX2_play 52 = .ok (.iconst 1, 1) := by decide +kernel
theorem dX2_play_53 : decode cX2_play 53 = .ok (.iadd, 1) := by decide +kernel
theorem dX2_play_54 : decode cX2_play 54 = .ok (.putfield 106, 3) := by decide +kernel
theorem dX2_play_57 : decode cX2_play 57 = .ok (.aload_n 0, 1) := by decide +kernel
theorem dX2_play_58 : decode cX2_play 58 = .ok (.getfield 9, 3) := by decide +kernel
theorem dX2_play_61 : decode cX2_play 61 = .ok (.dup, 1) := by decide +kernel
theorem dX2_play_62 : decode cX2_play 62 = .ok (.getfield 109, 3) := by decide +kernel
theorem dX2_play_65 : decode cX2_play 65 = .ok (.aload_n 2, 1) := by decide +kernel
theorem dX2_play_66 : decode cX2_play 66 = .ok (.getfield 93, 3) := by decide +kernel
theorem dX2_play_69 : decode cX2_play 69 = .ok (.iadd, 1) := by decide +kernel
theorem dX2_play_70 : decode cX2_play 70 = .ok (.putfield 109, 3) := by decide +kernel
theorem dX2_play_73 : decode cX2_play 73 = .ok (.aload_n 0, 1) := by decide +kernel
theorem dX2_play_74 : decode cX2_play 74 = .ok (.getfield 9, 3) := by decide +kernel
theorem dX2_play_77 : decode cX2_play 77 = .ok (.dup, 1) := by decide +kernel
theorem dX2_play_78 : decode cX2_play 78 = .ok (.getfield 110, 3) := by decide +kernel
theorem dX2_play_81 : decode cX2_play 81 = .ok (.aload_n 2, 1) := by decide +kernel
theorem dX2_play_82 : decode cX2_play 82 = .ok (.getfield 99, 3) := by decide +kernel
theorem dX2_play_85 : decode cX2_play 85 = .ok (.iadd, 1) := by decide +kernel
theorem dX2_play_86 : decode cX2_play 86 = .ok (.putfield 110, 3) := by decide +kernel
theorem dX2_play_89 : decode cX2_play 89 = .ok (.aload_n 0, 1) := by decide +kernel
theorem dX2_play_90 : decode cX2_play 90 = .ok (.aload_n 2, 1) := by decide +kernel
theorem dX2_play_91 : decode cX2_play 91 = .ok (.invokevirtual 111, 3) := by decide +kernel
theorem dX2_play_94 : decode cX2_play 94 = .ok (.aload_n 0, 1) := by decide +kernel
theorem dX2_play_95 : decode cX2_play 95 = .ok (.invokevirtual 115, 3) := by decide +kernel
theorem dX2_play_98 : decode cX2_play 98 = .ok (.return_, 1) := by decide +kernel
theorem dX2_marksOnceSeated_0 : decode cX2_marksOnceSeated 0 = .ok (.iconst 0, 1) := by decide +kernel
theorem dX2_marksOnceSeated_1 : decode cX2_marksOnceSeated 1 = .ok (.istore_n 2, 1) := by decide +kernel
theorem dX2_marksOnceSeated_2 : decode cX2_marksOnceSeated 2 = .ok (.iload_n 2, 1) := by decide +kernel
theorem dX2_marksOnceSeated_3 : decode cX2_marksOnceSeated 3 = .ok (.aload_n 0, 1) := by decide +kernel
theorem dX2_marksOnceSeated_4 : decode cX2_marksOnceSeated 4 = .ok (.getfield 9, 3) := by decide +kernel
theorem dX2_marksOnceSeated_7 : decode cX2_marksOnceSeated 7 = .ok (.getfield 51, 3) := by decide +kernel
theorem dX2_marksOnceSeated_10 : decode cX2_marksOnceSeated 10 = .ok (.if_icmp .ge 22, 3) := by decide +kernel
theorem dX2_marksOnceSeated_13 : decode cX2_marksOnceSeated 13 = .ok (.aload_n 0, 1) := by decide +kernel
theorem dX2_marksOnceSeated_14 : decode cX2_marksOnceSeated 14 = .ok (.getfield 9, 3) := by decide +kernel
theorem dX2_marksOnceSeated_17 : decode cX2_marksOnceSeated 17 = .ok (.getfield 54, 3) := by decide +kernel
theorem dX2_marksOnceSeated_20 : decode cX2_marksOnceSeated 20 = .ok (.iload_n 2, 1) := by decide +kernel
theorem dX2_marksOnceSeated_21 : decode cX2_marksOnceSeated 21 = .ok (.aaload, 1) := by decide +kernel
theorem dX2_marksOnceSeated_22 : decode cX2_marksOnceSeated 22 = .ok (.iconst 0, 1) := by decide +kernel
theorem dX2_marksOnceSeated_23 : decode cX2_marksOnceSeated 23 = .ok (.putfield 118, 3) := by decide +kernel
theorem dX2_marksOnceSeated_26 : decode cX2_marksOnceSeated 26 = .ok (.iinc 2 1, 3) := by decide +kernel
theorem dX2_marksOnceSeated_29 : decode cX2_marksOnceSeated 29 = .ok (.goto (-27), 3) := by decide +kernel
theorem dX2_marksOnceSeated_32 : decode cX2_marksOnceSeated 32 = .ok (.aload_n 0, 1) := by decide +kernel
theorem dX2_marksOnceSeated_33 : decode cX2_marksOnceSeated 33 = .ok (.aload_n 1, 1) := by decide +kernel
theorem dX2_marksOnceSeated_34 : decode cX2_marksOnceSeated 34 = .ok (.invokevirtual 122, 3) := by decide +kernel
theorem dX2_marksOnceSeated_37 : decode cX2_marksOnceSeated 37 = .ok (.aload_n 0, 1) := by decide +kernel
theorem dX2_marksOnceSeated_38 : decode cX2_marksOnceSeated 38 = .ok (.aload_n 1, 1) := by decide +kernel
theorem dX2_marksOnceSeated_39 : decode cX2_marksOnceSeated 39 = .ok (.invokevirtual 125, 3) := by decide +kernel
theorem dX2_marksOnceSeated_42 : decode cX2_marksOnceSeated 42 = .ok (.aload_n 0, 1) := by decide +kernel
theorem dX2_marksOnceSeated_43 : decode cX2_marksOnceSeated 43 = .ok (.aload_n 1, 1) := by decide +kernel
theorem dX2_marksOnceSeated_44 : decode cX2_marksOnceSeated 44 = .ok (.invokevirtual 102, 3) := by decide +kernel
theorem dX2_marksOnceSeated_47 : decode cX2_marksOnceSeated 47 = .ok (.ifCond .eq 7, 3) := by decide +kernel
theorem dX2_marksOnceSeated_50 : decode cX2_marksOnceSeated 50 = .ok (.iconst 0, 1) := by decide +kernel
theorem dX2_marksOnceSeated_51 : decode cX2_marksOnceSeated 51 = .ok (.goto 12, 3) := by decide +kernel
theorem dX2_marksOnceSeated_54 : decode cX2_marksOnceSeated 54 = .ok (.iconst 0, 1) := by decide +kernel
theorem dX2_marksOnceSeated_55 : decode cX2_marksOnceSeated 55 = .ok (.aload_n 0, 1) := by decide +kernel
theorem dX2_marksOnceSeated_56 : decode cX2_marksOnceSeated 56 = .ok (.aload_n 1, 1) := by decide +kernel
theorem dX2_marksOnceSeated_57 : decode cX2_marksOnceSeated 57 = .ok (.invokevirtual 128, 3) := by decide +kernel
theorem dX2_marksOnceSeated_60 : decode cX2_marksOnceSeated 60 = .ok (.invokestatic 63, 3) := by decide +kernel
theorem dX2_marksOnceSeated_63 : decode cX2_marksOnceSeated 63 = .ok (.ireturn, 1) := by decide +kernel
theorem dX2_seatMembers_0 : decode cX2_seatMembers 0 = .ok (.iconst 0, 1) := by decide +kernel
theorem dX2_seatMembers_1 : decode cX2_seatMembers 1 = .ok (.istore_n 2, 1) := by decide +kernel
theorem dX2_seatMembers_2 : decode cX2_seatMembers 2 = .ok (.iload_n 2, 1) := by decide +kernel
theorem dX2_seatMembers_3 : decode cX2_seatMembers 3 = .ok (.aload_n 1, 1) := by decide +kernel
theorem dX2_seatMembers_4 : decode cX2_seatMembers 4 = .ok (.getfield 80, 3) := by decide +kernel
theorem dX2_seatMembers_7 : decode cX2_seatMembers 7 = .ok (.if_icmp .ge 61, 3) := by decide +kernel
theorem dX2_seatMembers_10 : decode cX2_seatMembers 10 = .ok (.aload_n 1, 1) := by decide +kernel
theorem dX2_seatMembers_11 : decode cX2_seatMembers 11 = .ok (.getfield 131, 3) := by decide +kernel
theorem dX2_seatMembers_14 : decode cX2_seatMembers 14 = .ok (.iload_n 2, 1) := by decide +kernel
theorem dX2_seatMembers_15 : decode cX2_seatMembers 15 = .ok (.aaload, 1) := by decide +kernel
theorem dX2_seatMembers_16 : decode cX2_seatMembers 16 = .ok (.astore_n 3, 1) := by decide +kernel
theorem dX2_seatMembers_17 : decode cX2_seatMembers 17 = .ok (.aload_n 0, 1) := by decide +kernel
theorem dX2_seatMembers_18 : decode cX2_seatMembers 18 = .ok (.getfield 9, 3) := by decide +kernel
theorem dX2_seatMembers_21 : decode cX2_seatMembers 21 = .ok (.aload_n 3, 1) := by decide +kernel
theorem dX2_seatMembers_22 : decode cX2_seatMembers 22 = .ok (.getfield 135, 3) := by decide +kernel
theorem dX2_seatMembers_25 : decode cX2_seatMembers 25 = .ok (.invokevirtual 140, 3) := by decide +kernel
theorem dX2_seatMembers_28 : decode cX2_seatMembers 28 = .ok (.astore 4, 2) := by decide +kernel
theorem dX2_seatMembers_30 : decode cX2_seatMembers 30 = .ok (.aload_n 3, 1) := by decide +kernel
theorem dX2_seatMembers_31 : decode cX2_seatMembers 31 = .ok (.iconst (-1), 1) := by decide +kernel
theorem dX2_seatMembers_32 : decode cX2_seatMembers 32 = .ok (.putfield 144, 3) := by decide +kernel
theorem dX2_seatMembers_35 : decode cX2_seatMembers 35 = .ok (.aload 4, 2) := by decide +kernel
theorem dX2_seatMembers_37 : decode cX2_seatMembers 37 = .ok (.ifnull 25, 3) := by decide +kernel
theorem dX2_seatMembers_40 : decode cX2_seatMembers 40 = .ok (.aload 4, 2) := by decide +kernel
theorem dX2_seatMembers_42 : decode cX2_seatMembers 42 = .ok (.invokevirtual 147, 3) := by decide +kernel
theorem dX2_seatMembers_45 : decode cX2_seatMembers 45 = .ok (.ifCond .eq 17, 3) := by decide +kernel
theorem dX2_seatMembers_48 : decode cX2_seatMembers 48 = .ok (.aload_n 3, 1) := by decide +kernel
theorem dX2_seatMembers_49 : decode cX2_seatMembers 49 = .ok (.aload_n 3, 1) := by decide +kernel
theorem dX2_seatMembers_50 : decode cX2_seatMembers 50 = .ok (.getfield 135, 3) := by decide +kernel
theorem dX2_seatMembers_53 : decode cX2_seatMembers 53 = .ok (.putfield 144, 3) := by decide +kernel
theorem dX2_seatMembers_56 : decode cX2_seatMembers 56 = .ok (.aload 4, 2) := by decide +kernel
theorem dX2_seatMembers_58 : decode cX2_seatMembers 58 = .ok (.iconst 1, 1) := by decide +kernel
theorem dX2_seatMembers_59 : decode cX2_seatMembers 59 = .ok (.putfield 118, 3) := by decide +kernel
theorem dX2_seatMembers_62 : decode cX2_seatMembers 62 = .ok (.iinc 2 1, 3) := by decide +kernel
theorem dX2_seatMembers_65 : decode cX2_seatMembers 65 = .ok (.goto (-63), 3) := by decide +kernel
theorem dX2_seatMembers_68 : decode cX2_seatMembers 68 = .ok (.return_, 1) := by decide +kernel
theorem dX2_seatDeputies_0 : decode cX2_seatDeputies 0 = .ok (.iconst 0, 1) := by decide +kernel
theorem dX2_seatDeputies_1 : decode cX2_seatDeputies 1 = .ok (.istore_n 2, 1) := by decide +kernel
theorem dX2_seatDeputies_2 : decode cX2_seatDeputies 2 = .ok (.iload_n 2, 1) := by decide +kernel
theorem dX2_seatDeputies_3 : decode cX2_seatDeputies 3 = .ok (.aload_n 1, 1) := by decide +kernel
theorem dX2_seatDeputies_4 : decode cX2_seatDeputies 4 = .ok (.getfield 80, 3) := by decide +kernel
theorem dX2_seatDeputies_7 : decode cX2_seatDeputies 7 = .ok (.if_icmp .ge 56, 3) := by decide +kernel
theorem dX2_seatDeputies_10 : decode cX2_seatDeputies 10 = .ok (.aload_n 1, 1) := by decide +kernel
theorem dX2_seatDeputies_11 : decode cX2_seatDeputies 11 = .ok (.getfield 131, 3) := by decide +kernel
theorem dX2_seatDeputies_14 : decode cX2_seatDeputies 14 = .ok (.iload_n 2, 1) := by decide +kernel
theorem dX2_seatDeputies_15 : decode cX2_seatDeputies 15 = .ok (.aaload, 1) := by decide +kernel
theorem dX2_seatDeputies_16 : decode cX2_seatDeputies 16 = .ok (.astore_n 3, 1) := by decide +kernel
theorem dX2_seatDeputies_17 : decode cX2_seatDeputies 17 = .ok (.aload_n 3, 1) := by decide +kernel
theorem dX2_seatDeputies_18 : decode cX2_seatDeputies 18 = .ok (.invokevirtual 151, 3) := by decide +kernel
theorem dX2_seatDeputies_21 : decode cX2_seatDeputies 21 = .ok (.ifCond .eq 36, 3) := by decide +kernel
theorem dX2_seatDeputies_24 : decode cX2_seatDeputies 24 = .ok (.aload_n 3, 1) := by decide +kernel
theorem dX2_seatDeputies_25 : decode cX2_seatDeputies 25 = .ok (.aload_n 0, 1) := by decide +kernel
theorem dX2_seatDeputies_26 : decode cX2_seatDeputies 26 = .ok (.aload_n 3, 1) := by decide +kernel
theorem dX2_seatDeputies_27 : decode cX2_seatDeputies 27 = .ok (.invokevirtual 154, 3) := by decide +kernel
theorem dX2_seatDeputies_30 : decode cX2_seatDeputies 30 = .ok (.putfield 144, 3) := by decide +kernel
theorem dX2_seatDeputies_33 : decode cX2_seatDeputies 33 = .ok (.aload_n 0, 1) := by decide +kernel
theorem dX2_seatDeputies_34 : decode cX2_seatDeputies 34 = .ok (.getfield 9, 3) := by decide +kernel
theorem dX2_seatDeputies_37 : decode cX2_seatDeputies 37 = .ok (.aload_n 3, 1) := by decide +kernel
theorem dX2_seatDeputies_38 : decode cX2_seatDeputies 38 = .ok (.getfield 144, 3) := by decide +kernel
theorem dX2_seatDeputies_41 : decode cX2_seatDeputies 41 = .ok (.invokevirtual 140, 3) := by decide +kernel
theorem dX2_seatDeputies_44 : decode cX2_seatDeputies 44 = .ok (.astore 4, 2) := by decide +kernel
theorem dX2_seatDeputies_46 : decode cX2_seatDeputies 46 = .ok (.aload 4, 2) := by decide +kernel
theorem dX2_seatDeputies_48 : decode cX2_seatDeputies 48 = .ok (.ifnull 9, 3) := by decide +kernel
theorem dX2_seatDeputies_51 : decode cX2_seatDeputies 51 = .ok (.aload 4, 2) := by decide +kernel
theorem dX2_seatDeputies_53 : decode cX2_seatDeputies 53 = .ok (.iconst 1, 1) := by decide +kernel
theorem dX2_seatDeputies_54 : decode cX2_seatDeputies 54 = .ok (.putfield 118, 3) := by decide +kernel
theorem dX2_seatDeputies_57 : decode cX2_seatDeputies 57 = .ok (.iinc 2 1, 3) := by decide +kernel
theorem dX2_seatDeputies_60 : decode cX2_seatDeputies 60 = .ok (.goto (-58), 3) := by decide +kernel
theorem dX2_seatDeputies_63 : decode cX2_seatDeputies 63 = .ok (.return_, 1) := by decide +kernel
theorem dX2_deputyFor_0 : decode cX2_deputyFor 0 = .ok (.aload_n 0, 1) := by decide +kernel
theorem dX2_deputyFor_1 : decode cX2_deputyFor 1 = .ok (.getfield 9, 3) := by decide +kernel
theorem dX2_deputyFor_4 : decode cX2_deputyFor 4 = .ok (.aload_n 1, 1) := by decide +kernel
theorem dX2_deputyFor_5 : decode cX2_deputyFor 5 = .ok (.getfield 135, 3) := by decide +kernel
theorem dX2_deputyFor_8 : decode cX2_deputyFor 8 = .ok (.invokevirtual 140, 3) := by decide +kernel
theorem dX2_deputyFor_11 : decode cX2_deputyFor 11 = .ok (.astore_n 2, 1) := by decide +kernel
theorem dX2_deputyFor_12 : decode cX2_deputyFor 12 = .ok (.aload_n 2, 1) := by decide +kernel
theorem dX2_deputyFor_13 : decode cX2_deputyFor 13 = .ok (.ifnonnull 7, 3) := by decide +kernel
theorem dX2_deputyFor_16 : decode cX2_deputyFor 16 = .ok (.iconst 5, 1) := by decide +kernel
theorem dX2_deputyFor_17 : decode cX2_deputyFor 17 = .ok (.goto 13, 3) := by decide +kernel
theorem dX2_deputyFor_20 : decode cX2_deputyFor 20 = .ok (.aload_n 2, 1) := by decide +kernel
theorem dX2_deputyFor_21 : decode cX2_deputyFor 21 = .ok (.aload_n 1, 1) := by decide +kernel
theorem dX2_deputyFor_22 : decode cX2_deputyFor 22 = .ok (.getfield 158, 3) := by decide +kernel
theorem dX2_deputyFor_25 : decode cX2_deputyFor 25 = .ok (.invokevirtual 161, 3) := by decide +kernel
theorem dX2_deputyFor_28 : decode cX2_deputyFor 28 = .ok (.iconst 1, 1) := by decide +kernel
theorem dX2_deputyFor_29 : decode cX2_deputyFor 29 = .ok (.iadd, 1) := by decide +kernel
theorem dX2_deputyFor_30 : decode cX2_deputyFor 30 = .ok (.istore_n 3, 1) := by decide +kernel
theorem dX2_deputyFor_31 : decode cX2_deputyFor 31 = .ok (.iconst (-1), 1) := by decide +kernel
theorem dX2_deputyFor_32 : decode cX2_deputyFor 32 = .ok (.istore 4, 2) := by decide +kernel
theorem dX2_deputyFor_34 : decode cX2_deputyFor 34 = .ok (.iconst (-1), 1) := by decide +kernel
theorem dX2_deputyFor_35 : decode cX2_deputyFor 35 = .ok (.istore 5, 2) := by decide +kernel
theorem dX2_deputyFor_37 : decode cX2_deputyFor 37 = .ok (.iconst 0, 1) := by decide +kernel
theorem dX2_deputyFor_38 : decode cX2_deputyFor 38 = .ok (.istore 6, 2) := by decide +kernel
theorem dX2_deputyFor_40 : decode cX2_deputyFor 40 = .ok (.iconst 0, 1) := by decide +kernel
theorem dX2_deputyFor_41 : decode cX2_deputyFor 41 = .ok (.istore 7, 2) := by decide +kernel
theorem dX2_deputyFor_43 : decode cX2_deputyFor 43 = .ok (.iload 7, 2) := by decide +kernel
theorem dX2_deputyFor_45 : decode cX2_deputyFor 45 = .ok (.aload_n 0, 1) := by decide +kernel
theorem dX2_deputyFor_46 : decode cX2_deputyFor 46 = .ok (.getfield 9, 3) := by decide +kernel
theorem dX2_deputyFor_49 : decode cX2_deputyFor 49 = .ok (.getfield 51, 3) := by decide +kernel
theorem dX2_deputyFor_52 : decode cX2_deputyFor 52 = .ok (.if_icmp .ge 109, 3) := by decide +kernel
theorem dX2_deputyFor_55 : decode cX2_deputyFor 55 = .ok (.aload_n 0, 1) := by decide +kernel
theorem dX2_deputyFor_56 : decode cX2_deputyFor 56 = .ok (.getfield 9, 3) := by decide +kernel
theorem dX2_deputyFor_59 : decode cX2_deputyFor 59 = .ok (.getfield 54, 3) := by decide +kernel
theorem dX2_deputyFor_62 : decode cX2_deputyFor 62 = .ok (.iload 7, 2) := by decide +kernel
theorem dX2_deputyFor_64 : decode cX2_deputyFor 64 = .ok (.aaload, 1) := by decide +kernel
theorem dX2_deputyFor_65 : decode cX2_deputyFor 65 = .ok (.astore 8, 2) := by decide +kernel
theorem dX2_deputyFor_67 : decode cX2_deputyFor 67 = .ok (.aload 8, 2) := by decide +kernel
theorem dX2_deputyFor_69 : decode cX2_deputyFor 69 = .ok (.aload_n 1, 1) := by decide +kernel
theorem dX2_deputyFor_70 : decode cX2_deputyFor 70 = .ok (.getfield 158, 3) := by decide +kernel
theorem dX2_deputyFor_73 : decode cX2_deputyFor 73 = .ok (.invokevirtual 161, 3) := by decide +kernel
theorem dX2_deputyFor_76 : decode cX2_deputyFor 76 = .ok (.istore 9, 2) := by decide +kernel
theorem dX2_deputyFor_78 : decode cX2_deputyFor 78 = .ok (.aload 8, 2) := by decide +kernel
theorem dX2_deputyFor_80 : decode cX2_deputyFor 80 = .ok (.invokevirtual 164, 3) := by decide +kernel
theorem dX2_deputyFor_83 : decode cX2_deputyFor 83 = .ok (.ifCond .eq 13, 3) := by decide +kernel
theorem dX2_deputyFor_86 : decode cX2_deputyFor 86 = .ok (.iload 9, 2) := by decide +kernel
theorem dX2_deputyFor_88 : decode cX2_deputyFor 88 = .ok (.iload_n 3, 1) := by decide +kernel
theorem dX2_deputyFor_89 : decode cX2_deputyFor 89 = .ok (.if_icmp .gt 7, 3) := by decide +kernel
theorem dX2_deputyFor_92 : decode cX2_deputyFor 92 = .ok (.iconst 1, 1) := by decide +kernel
theorem dX2_deputyFor_93 : decode cX2_deputyFor 93 = .ok (.goto 4, 3) := by decide +kernel
theorem dX2_deputyFor_96 : decode cX2_deputyFor 96 = .ok (.iconst 0, 1) := by decide +kernel
theorem dX2_deputyFor_97 : decode cX2_deputyFor 97 = .ok (.istore 10, 2) := by decide +kernel
theorem dX2_deputyFor_99 : decode cX2_deputyFor 99 = .ok (.iload 9, 2) := by decide +kernel
theorem dX2_deputyFor_101 : decode cX2_deputyFor 101 = .ok (.iload 5, 2) := by decide +kernel
theorem dX2_deputyFor_103 : decode cX2_deputyFor 103 = .ok (.if_icmp .gt 20, 3) := by decide +kernel
theorem dX2_deputyFor_106 : decode cX2_deputyFor 106 = .ok (.iload 9, 2) := by decide +kernel
theorem dX2_deputyFor_108 : decode cX2_deputyFor 108 = .ok (.iload 5, 2) := by decide +kernel
theorem dX2_deputyFor_110 : decode cX2_deputyFor 110 = .ok (.if_icmp .ne 17, 3) := by decide +kernel
theorem dX2_deputyFor_113 : decode cX2_deputyFor 113 = .ok (.aload 8, 2) := by decide +kernel
theorem dX2_deputyFor_115 : decode cX2_deputyFor 115 = .ok (.getfield 167, 3) := by decide +kernel
theorem dX2_deputyFor_118 : decode cX2_deputyFor 118 = .ok (.iload 6, 2) := by decide +kernel
theorem dX2_deputyFor_120 : decode cX2_deputyFor 120 = .ok (.if_icmp .ge 7, 3) := by decide +kernel
theorem dX2_deputyFor_123 : decode cX2_deputyFor 123 = .ok (.iconst 1, 1) := by decide +kernel
theorem dX2_deputyFor_124 : decode cX2_deputyFor 124 = .ok (.goto 4, 3) := by decide +kernel
theorem dX2_deputyFor_127 : decode cX2_deputyFor 127 = .ok (.iconst 0, 1) := by decide +kernel
theorem dX2_deputyFor_128 : decode cX2_deputyFor 128 = .ok (.istore 11, 2) := by decide +kernel
theorem dX2_deputyFor_130 : decode cX2_deputyFor 130 = .ok (.iload 10, 2) := by decide +kernel
theorem dX2_deputyFor_132 : decode cX2_deputyFor 132 = .ok (.ifCond .eq 23, 3) := by decide +kernel
theorem dX2_deputyFor_135 : decode cX2_deputyFor 135 = .ok (.iload 11, 2) := by decide +kernel
theorem dX2_deputyFor_137 : decode cX2_deputyFor 137 = .ok (.ifCond .eq 18, 3) := by decide +kernel
theorem dX2_deputyFor_140 : decode cX2_deputyFor 140 = .ok (.iload 7, 2) := by decide +kernel
theorem dX2_deputyFor_142 : decode cX2_deputyFor 142 = .ok (.istore 4, 2) := by decide +kernel
theorem dX2_deputyFor_144 : decode cX2_deputyFor 144 = .ok (.iload 9, 2) := by decide +kernel
theorem dX2_deputyFor_146 : decode cX2_deputyFor 146 = .ok (.istore 5, 2) := by decide +kernel
theorem dX2_deputyFor_148 : decode cX2_deputyFor 148 = .ok (.aload 8, 2) := by decide +kernel
theorem dX2_deputyFor_150 : decode cX2_deputyFor 150 = .ok (.getfield 167, 3) := by decide +kernel
theorem dX2_deputyFor_153 : decode cX2_deputyFor 153 = .ok (.istore 6, 2) := by decide +kernel
theorem dX2_deputyFor_155 : decode cX2_deputyFor 155 = .ok (.iinc 7 1, 3) := by decide +kernel
theorem dX2_deputyFor_158 : decode cX2_deputyFor 158 = .ok (.goto (-115), 3) := by decide +kernel
theorem dX2_deputyFor_161 : decode cX2_deputyFor 161 = .ok (.iload 4, 2) := by decide +kernel
theorem dX2_deputyFor_163 : decode cX2_deputyFor 163 = .ok (.ireturn, 1) := by decide +kernel
theorem dX2_isOut_0 : decode cX2_isOut 0 = .ok (.aload_n 1, 1) := by decide +kernel
theorem dX2_isOut_1 : decode cX2_isOut 1 = .ok (.invokevirtual 45, 3) := by decide +kernel
theorem dX2_isOut_4 : decode cX2_isOut 4 = .ok (.iconst 3, 1) := by decide +kernel
theorem dX2_isOut_5 : decode cX2_isOut 5 = .ok (.if_icmp .le 7, 3) := by decide +kernel
theorem dX2_isOut_8 : decode cX2_isOut 8 = .ok (.iconst 1, 1) := by decide +kernel
theorem dX2_isOut_9 : decode cX2_isOut 9 = .ok (.goto 4, 3) := by decide +kernel
theorem dX2_isOut_12 : decode cX2_isOut 12 = .ok (.iconst 0, 1) := by decide +kernel
theorem dX2_isOut_13 : decode cX2_isOut 13 = .ok (.ireturn, 1) := by decide +kernel
theorem dX2_marksAsSeated_0 : decode cX2_marksAsSeated 0 = .ok (.aload_n 1, 1) := by decide +kernel
theorem dX2_marksAsSeated_1 : decode cX2_marksAsSeated 1 = .ok (.getfield 170, 3) := by decide +kernel
theorem dX2_marksAsSeated_4 : decode cX2_marksAsSeated 4 = .ok (.iconst 5, 1) := by decide +kernel
theorem dX2_marksAsSeated_5 : decode cX2_marksAsSeated 5 = .ok (.idiv, 1) := by decide +kernel
theorem dX2_marksAsSeated_6 : decode cX2_marksAsSeated 6 = .ok (.istore_n 2, 1) := by decide +kernel
theorem dX2_marksAsSeated_7 : decode cX2_marksAsSeated 7 = .ok (.iconst 0, 1) := by decide +kernel
theorem dX2_marksAsSeated_8 : decode cX2_marksAsSeated 8 = .ok (.istore_n 3, 1) := by decide +kernel
theorem dX2_marksAsSeated_9 : decode cX2_marksAsSeated 9 = .ok (.iload_n 3, 1) := by decide +kernel
theorem dX2_marksAsSeated_10 : decode cX2_marksAsSeated 10 = .ok (.aload_n 1, 1) := by decide +kernel
theorem dX2_marksAsSeated_11 : decode cX2_marksAsSeated 11 = .ok (.getfield 80, 3) := by decide +kernel
theorem dX2_marksAsSeated_14 : decode cX2_marksAsSeated 14 = .ok (.if_icmp .ge 67, 3) := by decide +kernel
theorem dX2_marksAsSeated_17 : decode cX2_marksAsSeated 17 = .ok (.aload_n 1, 1) := by decide +kernel
theorem dX2_marksAsSeated_18 : decode cX2_marksAsSeated 18 = .ok (.getfield 131, 3) := by decide +kernel
theorem dX2_marksAsSeated_21 : decode cX2_marksAsSeated 21 = .ok (.iload_n 3, 1) := by decide +kernel
theorem dX2_marksAsSeated_22 : decode cX2_marksAsSeated 22 = .ok (.aaload, 1) := by decide +kernel
theorem dX2_marksAsSeated_23 : decode cX2_marksAsSeated 23 = .ok (.astore 4, 2) := by decide +kernel
theorem dX2_marksAsSeated_25 : decode cX2_marksAsSeated 25 = .ok (.aload_n 0, 1) := by decide +kernel
theorem dX2_marksAsSeated_26 : decode cX2_marksAsSeated 26 = .ok (.getfield 9, 3) := by decide +kernel
theorem dX2_marksAsSeated_29 : decode cX2_marksAsSeated 29 = .ok (.aload 4, 2) := by decide +kernel
theorem dX2_marksAsSeated_31 : decode cX2_marksAsSeated 31 = .ok (.getfield 144, 3) := by decide +kernel
theorem dX2_marksAsSeated_34 : decode cX2_marksAsSeated 34 = .ok (.invokevirtual 140, 3) := by decide +kernel
theorem dX2_marksAsSeated_37 : decode cX2_marksAsSeated 37 = .ok (.astore 5, 2) := by decide +kernel
theorem dX2_marksAsSeated_39 : decode cX2_marksAsSeated 39 = .ok (.aload 5, 2) := by decide +kernel
theorem dX2_marksAsSeated_41 : decode cX2_marksAsSeated 41 = .ok (.ifnonnull 9, 3) := by decide +kernel
theorem dX2_marksAsSeated_44 : decode cX2_marksAsSeated 44 = .ok (.iinc 2 (-5), 3) := by decide +kernel
theorem dX2_marksAsSeated_47 : decode cX2_marksAsSeated 47 = .ok (.goto 17, 3) := by decide +kernel
theorem dX2_marksAsSeated_50 : decode cX2_marksAsSeated 50 = .ok (.iload_n 2, 1) := by decide +kernel
theorem dX2_marksAsSeated_51 : decode cX2_marksAsSeated 51 = .ok (.aload_n 0, 1) := by decide +kernel
theorem dX2_marksAsSeated_52 : decode cX2_marksAsSeated 52 = .ok (.aload 5, 2) := by decide +kernel
theorem dX2_marksAsSeated_54 : decode cX2_marksAsSeated 54 = .ok (.aload 4, 2) := by decide +kernel
theorem dX2_marksAsSeated_56 : decode cX2_marksAsSeated 56 = .ok (.getfield 158, 3) := by decide +kernel
theorem dX2_marksAsSeated_59 : decode cX2_marksAsSeated 59 = .ok (.invokevirtual 173, 3) := by decide +kernel
theorem dX2_marksAsSeated_62 : decode cX2_marksAsSeated 62 = .ok (.iadd, 1) := by decide +kernel
theorem dX2_marksAsSeated_63 : decode cX2_marksAsSeated 63 = .ok (.istore_n 2, 1) := by decide +kernel
theorem dX2_marksAsSeated_64 : decode cX2_marksAsSeated 64 = .ok (.aload 4, 2) := by decide +kernel
theorem dX2_marksAsSeated_66 : decode cX2_marksAsSeated 66 = .ok (.invokevirtual 177, 3) := by decide +kernel
theorem dX2_marksAsSeated_69 : decode cX2_marksAsSeated 69 = .ok (.ifCond .eq 6, 3) := by decide +kernel
theorem dX2_marksAsSeated_72 : decode cX2_marksAsSeated 72 = .ok (.iinc 2 1, 3) := by decide +kernel
theorem dX2_marksAsSeated_75 : decode cX2_marksAsSeated 75 = .ok (.iinc 3 1, 3) := by decide +kernel
theorem dX2_marksAsSeated_78 : decode cX2_marksAsSeated 78 = .ok (.goto (-69), 3) := by decide +kernel
theorem dX2_marksAsSeated_81 : decode cX2_marksAsSeated 81 = .ok (.iload_n 2, 1) := by decide +kernel
theorem dX2_marksAsSeated_82 : decode cX2_marksAsSeated 82 = .ok (.ireturn, 1) := by decide +kernel
theorem dX2_marksFor_0 : decode cX2_marksFor 0 = .ok (.bipush 10, 2) := by decide +kernel
theorem dX2_marksFor_2 : decode cX2_marksFor 2 = .ok (.aload_n 1, 1) := by decide +kernel
theorem dX2_marksFor_3 : decode cX2_marksFor 3 = .ok (.iload_n 2, 1) := by decide +kernel
theorem dX2_marksFor_4 : decode cX2_marksFor 4 = .ok (.invokevirtual 161, 3) := by decide +kernel
theorem dX2_marksFor_7 : decode cX2_marksFor 7 = .ok (.iadd, 1) := by decide +kernel
theorem dX2_marksFor_8 : decode cX2_marksFor 8 = .ok (.aload_n 0, 1) := by decide +kernel
theorem dX2_marksFor_9 : decode cX2_marksFor 9 = .ok (.getfield 9, 3) := by decide +kernel
theorem dX2_marksFor_12 : decode cX2_marksFor 12 = .ok (.iload_n 2, 1) := by decide +kernel
theorem dX2_marksFor_13 : decode cX2_marksFor 13 = .ok (.invokevirtual 180, 3) := by decide +kernel
theorem dX2_marksFor_16 : decode cX2_marksFor 16 = .ok (.isub, 1) := by decide +kernel
theorem dX2_marksFor_17 : decode cX2_marksFor 17 = .ok (.aload_n 1, 1) := by decide +kernel
theorem dX2_marksFor_18 : decode cX2_marksFor 18 = .ok (.getfield 167, 3) := by decide +kernel
theorem dX2_marksFor_21 : decode cX2_marksFor 21 = .ok (.bipush 20, 2) := by decide +kernel
theorem dX2_marksFor_23 : decode cX2_marksFor 23 = .ok (.idiv, 1) := by decide +kernel
theorem dX2_marksFor_24 : decode cX2_marksFor 24 = .ok (.isub, 1) := by decide +kernel
theorem dX2_marksFor_25 : decode cX2_marksFor 25 = .ok (.istore_n 3, 1) := by decide +kernel
theorem dX2_marksFor_26 : decode cX2_marksFor 26 = .ok (.iconst 0, 1) := by decide +kernel
theorem dX2_marksFor_27 : decode cX2_marksFor 27 = .ok (.iload_n 3, 1) := by decide +kernel
theorem dX2_marksFor_28 : decode cX2_marksFor 28 = .ok (.invokestatic 63, 3) := by decide +kernel
theorem dX2_marksFor_31 : decode cX2_marksFor 31 = .ok (.aload_n 0, 1) := by decide +kernel
theorem dX2_marksFor_32 : decode cX2_marksFor 32 = .ok (.getfield 9, 3) := by decide +kernel
theorem dX2_marksFor_35 : decode cX2_marksFor 35 = .ok (.iload_n 2, 1) := by decide +kernel
theorem dX2_marksFor_36 : decode cX2_marksFor 36 = .ok (.invokevirtual 183, 3) := by decide +kernel
theorem dX2_marksFor_39 : decode cX2_marksFor 39 = .ok (.imul, 1) := by decide +kernel
theorem dX2_marksFor_40 : decode cX2_marksFor 40 = .ok (.ireturn, 1) := by decide +kernel
theorem dX2_noteSittings_0 : decode cX2_noteSittings 0 = .ok (.iconst 0, 1) := by decide +kernel
theorem dX2_noteSittings_1 : decode cX2_noteSittings 1 = .ok (.istore_n 2, 1) := by decide +kernel
theorem dX2_noteSittings_2 : decode cX2_noteSittings 2 = .ok (.iload_n 2, 1) := by decide +kernel
theorem dX2_noteSittings_3 : decode cX2_noteSittings 3 = .ok (.aload_n 1, 1) := by decide +kernel
theorem dX2_noteSittings_4 : decode cX2_noteSittings 4 = .ok (.getfield 80, 3) := by decide +kernel
theorem dX2_noteSittings_7 : decode cX2_noteSittings 7 = .ok (.if_icmp .ge 77, 3) := by decide +kernel
theorem dX2_noteSittings_10 : decode cX2_noteSittings 10 = .ok (.aload_n 1, 1) := by decide +kernel
theorem dX2_noteSittings_11 : decode cX2_noteSittings 11 = .ok (.getfield 131, 3) := by decide +kernel
theorem dX2_noteSittings_14 : decode cX2_noteSittings 14 = .ok (.iload_n 2, 1) := by decide +kernel
theorem dX2_noteSittings_15 : decode cX2_noteSittings 15 = .ok (.aaload, 1) := by decide +kernel
theorem dX2_noteSittings_16 : decode cX2_noteSittings 16 = .ok (.astore_n 3, 1) := by decide +kernel
theorem dX2_noteSittings_17 : decode cX2_noteSittings 17 = .ok (.aload_n 0, 1) := by decide +kernel
theorem dX2_noteSittings_18 : decode cX2_noteSittings 18 = .ok (.getfield 9, 3) := by decide +kernel
theorem dX2_noteSittings_21 : decode cX2_noteSittings 21 = .ok (.aload_n 3, 1) := by decide +kernel
theorem dX2_noteSittings_22 : decode cX2_noteSittings 22 = .ok (.getfield 144, 3) := by decide +kernel
theorem dX2_noteSittings_25 : decode cX2_noteSittings 25 = .ok (.invokevirtual 140, 3) := by decide +kernel
theorem dX2_noteSittings_28 : decode cX2_noteSittings 28 = .ok (.astore 4, 2) := by decide +kernel
theorem dX2_noteSittings_30 : decode cX2_noteSittings 30 = .ok (.aload 4, 2) := by decide +kernel
theorem dX2_noteSittings_32 : decode cX2_noteSittings 32 = .ok (.ifnonnull 6, 3) := by decide +kernel
theorem dX2_noteSittings_35 : decode cX2_noteSittings 35 = .ok (.goto 43, 3) := by decide +kernel
theorem dX2_noteSittings_38 : decode cX2_noteSittings 38 = .ok (.aload 4, 2) := by decide +kernel
theorem dX2_noteSittings_40 : decode cX2_noteSittings 40 = .ok (.dup, 1) := by decide +kernel
theorem dX2_noteSittings_41 : decode cX2_noteSittings 41 = .ok (.getfield 186, 3) := by decide +kernel
theorem dX2_noteSittings_44 : decode cX2_noteSittings 44 = .ok (.iconst 1, 1) := by decide +kernel
theorem dX2_noteSittings_45 : decode cX2_noteSittings 45 = .ok (.iadd, 1) := by decide +kernel
theorem dX2_noteSittings_46 : decode cX2_noteSittings 46 = .ok (.putfield 186, 3) := by decide +kernel
theorem dX2_noteSittings_49 : decode cX2_noteSittings 49 = .ok (.aload_n 3, 1) := by decide +kernel
theorem dX2_noteSittings_50 : decode cX2_noteSittings 50 = .ok (.invokevirtual 189, 3) := by decide +kernel
theorem dX2_noteSittings_53 : decode cX2_noteSittings 53 = .ok (.ifCond .eq 25, 3) := by decide +kernel
theorem dX2_noteSittings_56 : decode cX2_noteSittings 56 = .ok (.aload 4, 2) := by decide +kernel
theorem dX2_noteSittings_58 : decode cX2_noteSittings 58 = .ok (.dup, 1) := by decide +kernel
theorem dX2_noteSittings_59 : decode cX2_noteSittings 59 = .ok (.getfield 192, 3) := by decide +kernel
theorem dX2_noteSittings_62 : decode cX2_noteSittings 62 = .ok (.iconst 1, 1) := by decide +kernel
theorem dX2_noteSittings_63 : decode cX2_noteSittings 63 = .ok (.iadd, 1) := by decide +kernel
theorem dX2_noteSittings_64 : decode cX2_noteSittings 64 = .ok (.putfield 192, 3) := by decide +kernel
theorem dX2_noteSittings_67 : decode cX2_noteSittings 67 = .ok (.aload 4, 2) := by decide +kernel
theorem dX2_noteSittings_69 : decode cX2_noteSittings 69 = .ok (.dup, 1) := by decide +kernel
theorem dX2_noteSittings_70 : decode cX2_noteSittings 70 = .ok (.getfield 87, 3) := by decide +kernel
theorem dX2_noteSittings_73 : decode cX2_noteSittings 73 = .ok (.iconst 1, 1) := by decide +kernel
theorem dX2_noteSittings_74 : decode cX2_noteSittings 74 = .ok (.iadd, 1) := by decide +kernel
theorem dX2_noteSittings_75 : decode cX2_noteSittings 75 = .ok (.putfield 87, 3) := by decide +kernel
theorem dX2_noteSittings_78 : decode cX2_noteSittings 78 = .ok (.iinc 2 1, 3) := by decide +kernel
theorem dX2_noteSittings_81 : decode cX2_noteSittings 81 = .ok (.goto (-79), 3) := by decide +kernel
theorem dX2_noteSittings_84 : decode cX2_noteSittings 84 = .ok (.return_, 1) := by decide +kernel
theorem dX2_moveLips_0 : decode cX2_moveLips 0 = .ok (.iconst 0, 1) := by decide +kernel
theorem dX2_moveLips_1 : decode cX2_moveLips 1 = .ok (.istore_n 1, 1) := by decide +kernel
theorem dX2_moveLips_2 : decode cX2_moveLips 2 = .ok (.iload_n 1, 1) := by decide +kernel
theorem dX2_moveLips_3 : decode cX2_moveLips 3 = .ok (.aload_n 0, 1) := by decide +kernel
theorem dX2_moveLips_4 : decode cX2_moveLips 4 = .ok (.getfield 9, 3) := by decide +kernel
theorem dX2_moveLips_7 : decode cX2_moveLips 7 = .ok (.getfield 51, 3) := by decide +kernel
theorem dX2_moveLips_10 : decode cX2_moveLips 10 = .ok (.if_icmp .ge 41, 3) := by decide +kernel
theorem dX2_moveLips_13 : decode cX2_moveLips 13 = .ok (.aload_n 0, 1) := by decide +kernel
theorem dX2_moveLips_14 : decode cX2_moveLips 14 = .ok (.getfield 9, 3) := by decide +kernel
theorem dX2_moveLips_17 : decode cX2_moveLips 17 = .ok (.getfield 54, 3) := by decide +kernel
theorem dX2_moveLips_20 : decode cX2_moveLips 20 = .ok (.iload_n 1, 1) := by decide +kernel
theorem dX2_moveLips_21 : decode cX2_moveLips 21 = .ok (.aaload, 1) := by decide +kernel
theorem dX2_moveLips_22 : decode cX2_moveLips 22 = .ok (.astore_n 2, 1) := by decide +kernel
theorem dX2_moveLips_23 : decode cX2_moveLips 23 = .ok (.aload_n 2, 1) := by decide +kernel
theorem dX2_moveLips_24 : decode cX2_moveLips 24 = .ok (.getfield 118, 3) := by decide +kernel
theorem dX2_moveLips_27 : decode cX2_moveLips 27 = .ok (.ifCond .eq 12, 3) := by decide +kernel
theorem dX2_moveLips_30 : decode cX2_moveLips 30 = .ok (.aload_n 2, 1) := by decide +kernel
theorem dX2_moveLips_31 : decode cX2_moveLips 31 = .ok (.bipush 15, 2) := by decide +kernel
theorem dX2_moveLips_33 : decode cX2_moveLips 33 = .ok (.invokevirtual 195, 3) := by decide +kernel
theorem dX2_moveLips_36 : decode cX2_moveLips 36 = .ok (.goto 9, 3) := by decide +kernel
theorem dX2_moveLips_39 : decode cX2_moveLips 39 = .ok (.aload_n 2, 1) := by decide +kernel
theorem dX2_moveLips_40 : decode cX2_moveLips 40 = .ok (.bipush 10, 2) := by decide +kernel
theorem dX2_moveLips_42 : decode cX2_moveLips 42 = .ok (.invokevirtual 198, 3) := by decide +kernel
theorem dX2_moveLips_45 : decode cX2_moveLips 45 = .ok (.iinc 1 1, 3) := by decide +kernel
theorem dX2_moveLips_48 : decode cX2_moveLips 48 = .ok (.goto (-46), 3) := by decide +kernel
theorem dX2_moveLips_51 : decode cX2_moveLips 51 = .ok (.return_, 1) := by decide +kernel
theorem dX2_givePlaces_0 : decode cX2_givePlaces 0 = .ok (.iconst (-1), 1) := by decide +kernel
theorem dX2_givePlaces_1 : decode cX2_givePlaces 1 = .ok (.istore_n 1, 1) := by decide +kernel
theorem dX2_givePlaces_2 : decode cX2_givePlaces 2 = .ok (.iconst 0, 1) := by decide +kernel
theorem dX2_givePlaces_3 : decode cX2_givePlaces 3 = .ok (.istore_n 2, 1) := by decide +kernel
theorem dX2_givePlaces_4 : decode cX2_givePlaces 4 = .ok (.iload_n 2, 1) := by decide +kernel
theorem dX2_givePlaces_5 : decode cX2_givePlaces 5 = .ok (.aload_n 0, 1) := by decide +kernel
theorem dX2_givePlaces_6 : decode cX2_givePlaces 6 = .ok (.getfield 9, 3) := by decide +kernel
theorem dX2_givePlaces_9 : decode cX2_givePlaces 9 = .ok (.getfield 18, 3) := by decide +kernel
theorem dX2_givePlaces_12 : decode cX2_givePlaces 12 = .ok (.if_icmp .ge 60, 3) := by decide +kernel
theorem dX2_givePlaces_15 : decode cX2_givePlaces 15 = .ok (.aload_n 0, 1) := by decide +kernel
theorem dX2_givePlaces_16 : decode cX2_givePlaces 16 = .ok (.getfield 9, 3) := by decide +kernel
theorem dX2_givePlaces_19 : decode cX2_givePlaces 19 = .ok (.getfield 36, 3) := by decide +kernel
theorem dX2_givePlaces_22 : decode cX2_givePlaces 22 = .ok (.iload_n 2, 1) := by decide +kernel
theorem dX2_givePlaces_23 : decode cX2_givePlaces 23 = .ok (.aaload, 1) := by decide +kernel
theorem dX2_givePlaces_24 : decode cX2_givePlaces 24 = .ok (.astore_n 3, 1) := by decide +kernel
theorem dX2_givePlaces_25 : decode cX2_givePlaces 25 = .ok (.aload_n 3, 1) := by decide +kernel
theorem dX2_givePlaces_26 : decode cX2_givePlaces 26 = .ok (.aload_n 0, 1) := by decide +kernel
theorem dX2_givePlaces_27 : decode cX2_givePlaces 27 = .ok (.iload_n 2, 1) := by decide +kernel
theorem dX2_givePlaces_28 : decode cX2_givePlaces 28 = .ok (.invokevirtual 201, 3) := by decide +kernel
theorem dX2_givePlaces_31 : decode cX2_givePlaces 31 = .ok (.putfield 204, 3) := by decide +kernel
theorem dX2_givePlaces_34 : decode cX2_givePlaces 34 = .ok (.aload_n 3, 1) := by decide +kernel
theorem dX2_givePlaces_35 : decode cX2_givePlaces 35 = .ok (.getfield 90, 3) := by decide +kernel
theorem dX2_givePlaces_38 : decode cX2_givePlaces 38 = .ok (.ifCond .le 19, 3) := by decide +kernel
theorem dX2_givePlaces_41 : decode cX2_givePlaces 41 = .ok (.aload_n 3, 1) := by decide +kernel
theorem dX2_givePlaces_42 : decode cX2_givePlaces 42 = .ok (.dup, 1) := by decide +kernel
theorem dX2_givePlaces_43 : decode cX2_givePlaces 43 = .ok (.getfield 207, 3) := by decide +kernel
theorem dX2_givePlaces_46 : decode cX2_givePlaces 46 = .ok (.aload_n 3, 1) := by decide +kernel
theorem dX2_givePlaces_47 : decode cX2_givePlaces 47 = .ok (.getfield 204, 3) := by decide +kernel
theorem dX2_givePlaces_50 : decode cX2_givePlaces 50 = .ok (.invokestatic 210, 3) := by decide +kernel
theorem dX2_givePlaces_53 : decode cX2_givePlaces 53 = .ok (.iadd, 1) := by decide +kernel
theorem dX2_givePlaces_54 : decode cX2_givePlaces 54 = .ok (.putfield 207, 3) := by decide +kernel
theorem dX2_givePlaces_57 : decode cX2_givePlaces 57 = .ok (.aload_n 3, 1) := by decide +kernel
theorem dX2_givePlaces_58 : decode cX2_givePlaces 58 = .ok (.getfield 204, 3) := by decide +kernel
theorem dX2_givePlaces_61 : decode cX2_givePlaces 61 = .ok (.ifCond .ne 5, 3) := by decide +kernel
theorem dX2_givePlaces_64 : decode cX2_givePlaces 64 = .ok (.iload_n 2, 1) := by decide +kernel
theorem dX2_givePlaces_65 : decode cX2_givePlaces 65 = .ok (.istore_n 1, 1) := by decide +kernel
theorem dX2_givePlaces_66 : decode cX2_givePlaces 66 = .ok (.iinc 2 1, 3) := by decide +kernel
theorem dX2_givePlaces_69 : decode cX2_givePlaces 69 = .ok (.goto (-65), 3) := by decide +kernel
theorem dX2_givePlaces_72 : decode cX2_givePlaces 72 = .ok (.iload_n 1, 1) := by decide +kernel
theorem dX2_givePlaces_73 : decode cX2_givePlaces 73 = .ok (.ireturn, 1) := by decide +kernel
theorem dX2_aheadByMarks_0 : decode cX2_aheadByMarks 0 = .ok (.iconst 0, 1) := by decide +kernel
theorem dX2_aheadByMarks_1 : decode cX2_aheadByMarks 1 = .ok (.istore_n 2, 1) := by decide +kernel
theorem dX2_aheadByMarks_2 : decode cX2_aheadByMarks 2 = .ok (.iconst 0, 1) := by decide +kernel
theorem dX2_aheadByMarks_3 : decode cX2_aheadByMarks 3 = .ok (.istore_n 3, 1) := by decide +kernel
theorem dX2_aheadByMarks_4 : decode cX2_aheadByMarks 4 = .ok (.iload_n 3, 1) := by decide +kernel
theorem dX2_aheadByMarks_5 : decode cX2_aheadByMarks 5 = .ok (.aload_n 0, 1) := by decide +kernel
theorem dX2_aheadByMarks_6 : decode cX2_aheadByMarks 6 = .ok (.getfield 9, 3) := by decide +kernel
theorem dX2_aheadByMarks_9 : decode cX2_aheadByMarks 9 = .ok (.getfield 18, 3) := by decide +kernel
theorem dX2_aheadByMarks_12 : decode cX2_aheadByMarks 12 = .ok (.if_icmp .ge 26, 3) := by decide +kernel
theorem dX2_aheadByMarks_15 : decode cX2_aheadByMarks 15 = .ok (.iload_n 3, 1) := by decide +kernel
theorem dX2_aheadByMarks_16 : decode cX2_aheadByMarks 16 = .ok (.iload_n 1, 1) := by decide +kernel
theorem dX2_aheadByMarks_17 : decode cX2_aheadByMarks 17 = .ok (.if_icmp .eq 15, 3) := by decide +kernel
theorem dX2_aheadByMarks_20 : decode cX2_aheadByMarks 20 = .ok (.aload_n 0, 1) := by decide +kernel
theorem dX2_aheadByMarks_21 : decode cX2_aheadByMarks 21 = .ok (.iload_n 3, 1) := by decide +kernel
theorem dX2_aheadByMarks_22 : decode cX2_aheadByMarks 22 = .ok (.iload_n 1, 1) := by decide +kernel
theorem dX2_aheadByMarks_23 : decode cX2_aheadByMarks 23 = .ok (.invokevirtual 213, 3) := by decide +kernel
theorem dX2_aheadByMarks_26 : decode cX2_aheadByMarks 26 = .ok (.ifCond .eq 6, 3) := by decide +kernel
theorem dX2_aheadByMarks_29 : decode cX2_aheadByMarks 29 = .ok (.iinc 2 1, 3) := by decide +kernel
theorem dX2_aheadByMarks_32 : decode cX2_aheadByMarks 32 = .ok (.iinc 3 1, 3) := by decide +kernel
theorem dX2_aheadByMarks_35 : decode cX2_aheadByMarks 35 = .ok (.goto (-31), 3) := by decide +kernel
theorem dX2_aheadByMarks_38 : decode cX2_aheadByMarks 38 = .ok (.iload_n 2, 1) := by decide +kernel
theorem dX2_aheadByMarks_39 : decode cX2_aheadByMarks 39 = .ok (.ireturn, 1) := by decide +kernel
theorem dX2_isAhead_0 : decode cX2_isAhead 0 = .ok (.aload_n 0, 1) := by decide +kernel
theorem dX2_isAhead_1 : decode cX2_isAhead 1 = .ok (.getfield 9, 3) := by decide +kernel
theorem dX2_isAhead_4 : decode cX2_isAhead 4 = .ok (.getfield 36, 3) := by decide +kernel
theorem dX2_isAhead_7 : decode cX2_isAhead 7 = .ok (.iload_n 1, 1) := by decide +kernel
theorem dX2_isAhead_8 : decode cX2_isAhead 8 = .ok (.aaload, 1) := by decide +kernel
theorem dX2_isAhead_9 : decode cX2_isAhead 9 = .ok (.astore_n 3, 1) := by decide +kernel
theorem dX2_isAhead_10 : decode cX2_isAhead 10 = .ok (.aload_n 0, 1) := by decide +kernel
theorem dX2_isAhead_11 : decode cX2_isAhead 11 = .ok (.getfield 9, 3) := by decide +kernel
theorem dX2_isAhead_14 : decode cX2_isAhead 14 = .ok (.getfield 36, 3) := by decide +kernel
theorem dX2_isAhead_17 : decode cX2_isAhead 17 = .ok (.iload_n 2, 1) := by decide +kernel
theorem dX2_isAhead_18 : decode cX2_isAhead 18 = .ok (.aaload, 1) := by decide +kernel
theorem dX2_isAhead_19 : decode cX2_isAhead 19 = .ok (.astore 4, 2) := by decide +kernel
theorem dX2_isAhead_21 : decode cX2_isAhead 21 = .ok (.aload_n 3, 1) := by decide +kernel
theorem dX2_isAhead_22 : decode cX2_isAhead 22 = .ok (.getfield 90, 3) := by decide +kernel
theorem dX2_isAhead_25 : decode cX2_isAhead 25 = .ok (.aload 4, 2) := by decide +kernel
theorem dX2_isAhead_27 : decode cX2_isAhead 27 = .ok (.getfield 90, 3) := by decide +kernel
theorem dX2_isAhead_30 : decode cX2_isAhead 30 = .ok (.if_icmp .eq 21, 3) := by decide +kernel
theorem dX2_isAhead_33 : decode cX2_isAhead 33 = .ok (.aload_n 3, 1) := by decide +kernel
theorem dX2_isAhead_34 : decode cX2_isAhead 34 = .ok (.getfield 90, 3) := by decide +kernel
theorem dX2_isAhead_37 : decode cX2_isAhead 37 = .ok (.aload 4, 2) := by decide +kernel
theorem dX2_isAhead_39 : decode cX2_isAhead 39 = .ok (.getfield 90, 3) := by decide +kernel
theorem dX2_isAhead_42 : decode cX2_isAhead 42 = .ok (.if_icmp .le 7, 3) := by decide +kernel
theorem dX2_isAhead_45 : decode cX2_isAhead 45 = .ok (.iconst 1, 1) := by decide +kernel
theorem dX2_isAhead_46 : decode cX2_isAhead 46 = .ok (.goto 4, 3) := by decide +kernel
theorem dX2_isAhead_49 : decode cX2_isAhead 49 = .ok (.iconst 0, 1) := by decide +kernel
theorem dX2_isAhead_50 : decode cX2_isAhead 50 = .ok (.ireturn, 1) := by decide +kernel
theorem dX2_isAhead_51 : decode cX2_isAhead 51 = .ok (.aload_n 3, 1) := by decide +kernel
theorem dX2_isAhead_52 : decode cX2_isAhead 52 = .ok (.getfield 93, 3) := by decide +kernel
theorem dX2_isAhead_55 : decode cX2_isAhead 55 = .ok (.aload 4, 2) := by decide +kernel
theorem dX2_isAhead_57 : decode cX2_isAhead 57 = .ok (.getfield 93, 3) := by decide +kernel
theorem dX2_isAhead_60 : decode cX2_isAhead 60 = .ok (.if_icmp .eq 21, 3) := by decide +kernel
theorem dX2_isAhead_63 : decode cX2_isAhead 63 = .ok (.aload_n 3, 1) := by decide +kernel
theorem dX2_isAhead_64 : decode cX2_isAhead 64 = .ok (.getfield 93, 3) := by decide +kernel
theorem dX2_isAhead_67 : decode cX2_isAhead 67 = .ok (.aload 4, 2) := by decide +kernel
theorem dX2_isAhead_69 : decode cX2_isAhead 69 = .ok (.getfield 93, 3) := by decide +kernel
theorem dX2_isAhead_72 : decode cX2_isAhead 72 = .ok (.if_icmp .ge 7, 3) := by decide +kernel
theorem dX2_isAhead_75 : decode cX2_isAhead 75 = .ok (.iconst 1, 1) := by decide +kernel
theorem dX2_isAhead_76 : decode cX2_isAhead 76 = .ok (.goto 4, 3) := by decide +kernel
theorem dX2_isAhead_79 : decode cX2_isAhead 79 = .ok (.iconst 0, 1) := by decide +kernel
theorem dX2_isAhead_80 : decode cX2_isAhead 80 = .ok (.ireturn, 1) := by decide +kernel
theorem dX2_isAhead_81 : decode cX2_isAhead 81 = .ok (.iload_n 1, 1) := by decide +kernel
theorem dX2_isAhead_82 : decode cX2_isAhead 82 = .ok (.iload_n 2, 1) := by decide +kernel
theorem dX2_isAhead_83 : decode cX2_isAhead 83 = .ok (.if_icmp .ge 7, 3) := by decide +kernel
theorem dX2_isAhead_86 : decode cX2_isAhead 86 = .ok (.iconst 1, 1) := by decide +kernel
theorem dX2_isAhead_87 : decode cX2_isAhead 87 = .ok (.goto 4, 3) := by decide +kernel
theorem dX2_isAhead_90 : decode cX2_isAhead 90 = .ok (.iconst 0, 1) := by decide +kernel
theorem dX2_isAhead_91 : decode cX2_isAhead 91 = .ok (.ireturn, 1) := by decide +kernel
theorem dX2_pointsFor_0 : decode cX2_pointsFor 0 = .ok (.iload_n 0, 1) := by decide +kernel
theorem dX2_pointsFor_1 : decode cX2_pointsFor 1 = .ok (.tableswitch 33 0 2 #[27, 29, 31], 27) := by decide +kernel
theorem dX2_pointsFor_28 : decode cX2_pointsFor 28 = .ok (.iconst 5, 1) := by decide +kernel
theorem dX2_pointsFor_29 : decode cX2_pointsFor 29 = .ok (.ireturn, 1) := by decide +kernel
theorem dX2_pointsFor_30 : decode cX2_pointsFor 30 = .ok (.iconst 3, 1) := by decide +kernel
theorem dX2_pointsFor_31 : decode cX2_pointsFor 31 = .ok (.ireturn, 1) := by decide +kernel
theorem dX2_pointsFor_32 : decode cX2_pointsFor 32 = .ok (.iconst 1, 1) := by decide +kernel
theorem dX2_pointsFor_33 : decode cX2_pointsFor 33 = .ok (.ireturn, 1) := by decide +kernel
theorem dX2_pointsFor_34 : decode cX2_pointsFor 34 = .ok (.iconst 0, 1) := by decide +kernel
theorem dX2_pointsFor_35 : decode cX2_pointsFor 35 = .ok (.ireturn, 1) := by decide +kernel
theorem dX3_init_0 : decode cX3_init 0 = .ok (.aload_n 0, 1) := by decide +kernel
theorem dX3_init_1 : decode cX3_init 1 = .ok (.invokespecial 3, 3) := by decide +kernel
theorem dX3_init_4 : decode cX3_init 4 = .ok (.aload_n 0, 1) := by decide +kernel
theorem dX3_init_5 : decode cX3_init 5 = .ok (.iconst 4, 1) := by decide +kernel
theorem dX3_init_6 : decode cX3_init 6 = .ok (.newarray .int, 2) := by decide +kernel
theorem dX3_init_8 : decode cX3_init 8 = .ok (.putfield 9, 3) := by decide +kernel
theorem dX3_init_11 : decode cX3_init 11 = .ok (.aload_n 0, 1) := by decide +kernel
theorem dX3_init_12 : decode cX3_init 12 = .ok (.iconst (-1), 1) := by decide +kernel
theorem dX3_init_13 : decode cX3_init 13 = .ok (.putfield 15, 3) := by decide +kernel
theorem dX3_init_16 : decode cX3_init 16 = .ok (.aload_n 0, 1) := by decide +kernel
theorem dX3_init_17 : decode cX3_init 17 = .ok (.iconst (-1), 1) := by decide +kernel
theorem dX3_init_18 : decode cX3_init 18 = .ok (.putfield 19, 3) := by decide +kernel
theorem dX3_init_21 : decode cX3_init 21 = .ok (.return_, 1) := by decide +kernel
theorem dX3_copyFrom_0 : decode cX3_copyFrom 0 = .ok (.aload_n 1, 1) := by decide +kernel
theorem dX3_copyFrom_1 : decode cX3_copyFrom 1 = .ok (.getfield 9, 3) := by decide +kernel
theorem dX3_copyFrom_4 : decode cX3_copyFrom 4 = .ok (.iconst 0, 1) := by decide +kernel
theorem dX3_copyFrom_5 : decode cX3_copyFrom 5 = .ok (.aload_n 0, 1) := by decide +kernel
theorem dX3_copyFrom_6 : decode cX3_copyFrom 6 = .ok (.getfield 9, 3) := by decide +kernel
theorem dX3_copyFrom_9 : decode cX3_copyFrom 9 = .ok (.iconst 0, 1) := by decide +kernel
theorem dX3_copyFrom_10 : decode cX3_copyFrom 10 = .ok (.iconst 4, 1) := by decide +kernel
theorem dX3_copyFrom_11 : decode cX3_copyFrom 11 = .ok (.invokestatic 22, 3) := by decide +kernel
theorem dX3_copyFrom_14 : decode cX3_copyFrom 14 = .ok (.aload_n 0, 1) := by decide +kernel
theorem dX3_copyFrom_15 : decode cX3_copyFrom 15 = .ok (.aload_n 1, 1) := by decide +kernel
theorem dX3_copyFrom_16 : decode cX3_copyFrom 16 = .ok (.getfield 28, 3) := by decide +kernel
theorem dX3_copyFrom_19 : decode cX3_copyFrom 19 = .ok (.putfield 28, 3) := by decide +kernel
theorem dX3_copyFrom_22 : decode cX3_copyFrom 22 = .ok (.aload_n 0, 1) := by decide +kernel
theorem dX3_copyFrom_23 : decode cX3_copyFrom 23 = .ok (.aload_n 1, 1) := by decide +kernel
theorem dX3_copyFrom_24 : decode cX3_copyFrom 24 = .ok (.getfield 31, 3) := by decide +kernel
theorem dX3_copyFrom_27 : decode cX3_copyFrom 27 = .ok (.putfield 31, 3) := by decide +kernel
theorem dX3_copyFrom_30 : decode cX3_copyFrom 30 = .ok (.aload_n 0, 1) := by decide +kernel
theorem dX3_copyFrom_31 : decode cX3_copyFrom 31 = .ok (.aload_n 1, 1) := by decide +kernel
theorem dX3_copyFrom_32 : decode cX3_copyFrom 32 = .ok (.getfield 15, 3) := by decide +kernel
theorem dX3_copyFrom_35 : decode cX3_copyFrom 35 = .ok (.putfield 15, 3) := by decide +kernel
theorem dX3_copyFrom_38 : decode cX3_copyFrom 38 = .ok (.aload_n 0, 1) := by decide +kernel
theorem dX3_copyFrom_39 : decode cX3_copyFrom 39 = .ok (.aload_n 1, 1) := by decide +kernel
theorem dX3_copyFrom_40 : decode cX3_copyFrom 40 = .ok (.getfield 19, 3) := by decide +kernel
theorem dX3_copyFrom_43 : decode cX3_copyFrom 43 = .ok (.putfield 19, 3) := by decide +kernel
theorem dX3_copyFrom_46 : decode cX3_copyFrom 46 = .ok (.aload_n 0, 1) := by decide +kernel
theorem dX3_copyFrom_47 : decode cX3_copyFrom 47 = .ok (.aload_n 1, 1) := by decide +kernel
theorem dX3_copyFrom_48 : decode cX3_copyFrom 48 = .ok (.getfield 34, 3) := by decide +kernel
theorem dX3_copyFrom_51 : decode cX3_copyFrom 51 = .ok (.putfield 34, 3) := by decide +kernel
theorem dX3_copyFrom_54 : decode cX3_copyFrom 54 = .ok (.aload_n 0, 1) := by decide +kernel
theorem dX3_copyFrom_55 : decode cX3_copyFrom 55 = .ok (.aload_n 1, 1) := by decide +kernel
theorem dX3_copyFrom_56 : decode cX3_copyFrom 56 = .ok (.getfield 37, 3) := by decide +kernel
theorem dX3_copyFrom_59 : decode cX3_copyFrom 59 = .ok (.putfield 37, 3) := by decide +kernel
theorem dX3_copyFrom_62 : decode cX3_copyFrom 62 = .ok (.return_, 1) := by decide +kernel
theorem dX3_skillFor_0 : decode cX3_skillFor 0 = .ok (.iload_n 1, 1) := by decide +kernel
theorem dX3_skillFor_1 : decode cX3_skillFor 1 = .ok (.ifCond .lt 17, 3) := by decide +kernel
theorem dX3_skillFor_4 : decode cX3_skillFor 4 = .ok (.iload_n 1, 1) := by decide +kernel
theorem dX3_skillFor_5 : decode cX3_skillFor 5 = .ok (.iconst 4, 1) := by decide +kernel
theorem dX3_skillFor_6 : decode cX3_skillFor 6 = .ok (.if_icmp .ge 12, 3) := by decide +kernel
theorem dX3_skillFor_9 : decode cX3_skillFor 9 = .ok (.aload_n 0, 1) := by decide +kernel
theorem dX3_skillFor_10 : decode cX3_skillFor 10 = .ok (.getfield 9, 3) := by decide +kernel
theorem dX3_skillFor_13 : decode cX3_skillFor 13 = .ok (.iload_n 1, 1) := by decide +kernel
theorem dX3_skillFor_14 : decode cX3_skillFor 14 = .ok (.iaload, 1) := by decide +kernel
theorem dX3_skillFor_15 : decode cX3_skillFor 15 = .ok (.goto 4, 3) := by decide +kernel
theorem dX3_skillFor_18 : decode cX3_skillFor 18 = .ok (.iconst 0, 1) := by decide +kernel
theorem dX3_skillFor_19 : decode cX3_skillFor 19 = .ok (.ireturn, 1) := by decide +kernel
theorem dX3_isThere_0 : decode cX3_isThere 0 = .ok (.aload_n 0, 1) := by decide +kernel
theorem dX3_isThere_1 : decode cX3_isThere 1 = .ok (.getfield 31, 3) := by decide +kernel
theorem dX3_isThere_4 : decode cX3_isThere 4 = .ok (.ifCond .ne 7, 3) := by decide +kernel
theorem dX3_isThere_7 : decode cX3_isThere 7 = .ok (.iconst 1, 1) := by decide +kernel
theorem dX3_isThere_8 : decode cX3_isThere 8 = .ok (.goto 4, 3) := by decide +kernel
theorem dX3_isThere_11 : decode cX3_isThere 11 = .ok (.iconst 0, 1) := by decide +kernel
theorem dX3_isThere_12 : decode cX3_isThere 12 = .ok (.ireturn, 1) := by decide +kernel
theorem dX3_mayBeDeputy_0 : decode cX3_mayBeDeputy 0 = .ok (.aload_n 0, 1) := by decide +kernel
theorem dX3_mayBeDeputy_1 : decode cX3_mayBeDeputy 1 = .ok (.getfield 31, 3) := by decide +kernel
theorem dX3_mayBeDeputy_4 : decode cX3_mayBeDeputy 4 = .ok (.ifCond .ne 22, 3) := by decide +kernel
theorem dX3_mayBeDeputy_7 : decode cX3_mayBeDeputy 7 = .ok (.aload_n 0, 1) := by decide +kernel
theorem dX3_mayBeDeputy_8 : decode cX3_mayBeDeputy 8 = .ok (.getfield 40, 3) := by decide +kernel
theorem dX3_mayBeDeputy_11 : decode cX3_mayBeDeputy 11 = .ok (.ifCond .ne 15, 3) := by decide +kernel
theorem dX3_mayBeDeputy_14 : decode cX3_mayBeDeputy 14 = .ok (.aload_n 0, 1) := by decide +kernel
theorem dX3_mayBeDeputy_15 : decode cX3_mayBeDeputy 15 = .ok (.getfield 44, 3) := by decide +kernel
theorem dX3_mayBeDeputy_18 : decode cX3_mayBeDeputy 18 = .ok (.iconst 1, 1) := by decide +kernel
theorem dX3_mayBeDeputy_19 : decode cX3_mayBeDeputy 19 = .ok (.if_icmp .gt 7, 3) := by decide +kernel
theorem dX3_mayBeDeputy_22 : decode cX3_mayBeDeputy 22 = .ok (.iconst 1, 1) := by decide +kernel
theorem dX3_mayBeDeputy_23 : decode cX3_mayBeDeputy 23 = .ok (.goto 4, 3) := by decide +kernel
theorem dX3_mayBeDeputy_26 : decode cX3_mayBeDeputy 26 = .ok (.iconst 0, 1) := by decide +kernel
theorem dX3_mayBeDeputy_27 : decode cX3_mayBeDeputy 27 = .ok (.ireturn, 1) := by decide +kernel
theorem dX3_tire_0 : decode cX3_tire 0 = .ok (.aload_n 0, 1) := by decide +kernel
theorem dX3_tire_1 : decode cX3_tire 1 = .ok (.bipush 100, 2) := by decide +kernel
theorem dX3_tire_3 : decode cX3_tire 3 = .ok (.aload_n 0, 1) := by decide +kernel
theorem dX3_tire_4 : decode cX3_tire 4 = .ok (.getfield 28, 3) := by decide +kernel
theorem dX3_tire_7 : decode cX3_tire 7 = .ok (.iload_n 1, 1) := by decide +kernel
theorem dX3_tire_8 : decode cX3_tire 8 = .ok (.iadd, 1) := by decide +kernel
theorem dX3_tire_9 : decode cX3_tire 9 = .ok (.invokestatic 47, 3) := by decide +kernel
theorem dX3_tire_12 : decode cX3_tire 12 = .ok (.putfield 28, 3) := by decide +kernel
theorem dX3_tire_15 : decode cX3_tire 15 = .ok (.return_, 1) := by decide +kernel
theorem dX3_rest_0 : decode cX3_rest 0 = .ok (.aload_n 0, 1) := by decide +kernel
theorem dX3_rest_1 : decode cX3_rest 1 = .ok (.iconst 0, 1) := by decide +kernel
theorem dX3_rest_2 : decode cX3_rest 2 = .ok (.aload_n 0, 1) := by decide +kernel
theorem dX3_rest_3 : decode cX3_rest 3 = .ok (.getfield 28, 3) := by decide +kernel
theorem dX3_rest_6 : decode cX3_rest 6 = .ok (.iload_n 1, 1) := by decide +kernel
theorem dX3_rest_7 : decode cX3_rest 7 = .ok (.isub, 1) := by decide +kernel
theorem dX3_rest_8 : decode cX3_rest 8 = .ok (.invokestatic 53, 3) := by decide +kernel
theorem dX3_rest_11 : decode cX3_rest 11 = .ok (.putfield 28, 3) := by decide +kernel
theorem dX3_rest_14 : decode cX3_rest 14 = .ok (.return_, 1) := by decide +kernel
theorem dX3_tell_0 : decode cX3_tell 0 = .ok (.iload_n 1, 1) := by decide +kernel
theorem dX3_tell_1 : decode cX3_tell 1 = .ok (.tableswitch 69 4 9 #[39, 44, 49, 54, 59, 64], 39) := by decide +kernel
theorem dX3_tell_40 : decode cX3_tell 40 = .ok (.aload_n 0, 1) := by decide +kernel
theorem dX3_tell_41 : decode cX3_tell 41 = .ok (.getfield 28, 3) := by decide +kernel
theorem dX3_tell_44 : decode cX3_tell 44 = .ok (.ireturn, 1) := by decide +kernel
theorem dX3_tell_45 : decode cX3_tell 45 = .ok (.aload_n 0, 1) := by decide +kernel
theorem dX3_tell_46 : decode cX3_tell 46 = .ok (.getfield 31, 3) := by decide +kernel
theorem dX3_tell_49 : decode cX3_tell 49 = .ok (.ireturn, 1) := by decide +kernel
theorem dX3_tell_50 : decode cX3_tell 50 = .ok (.aload_n 0, 1) := by decide +kernel
theorem dX3_tell_51 : decode cX3_tell 51 = .ok (.getfield 15, 3) := by decide +kernel
theorem dX3_tell_54 : decode cX3_tell 54 = .ok (.ireturn, 1) := by decide +kernel
theorem dX3_tell_55 : decode cX3_tell 55 = .ok (.aload_n 0, 1) := by decide +kernel
theorem dX3_tell_56 : decode cX3_tell 56 = .ok (.getfield 19, 3) := by decide +kernel
theorem dX3_tell_59 : decode cX3_tell 59 = .ok (.ireturn, 1) := by decide +kernel
theorem dX3_tell_60 : decode cX3_tell 60 = .ok (.aload_n 0, 1) := by decide +kernel
theorem dX3_tell_61 : decode cX3_tell 61 = .ok (.getfield 34, 3) := by decide +kernel
theorem dX3_tell_64 : decode cX3_tell 64 = .ok (.ireturn, 1) := by decide +kernel
theorem dX3_tell_65 : decode cX3_tell 65 = .ok (.aload_n 0, 1) := by decide +kernel
theorem dX3_tell_66 : decode cX3_tell 66 = .ok (.getfield 37, 3) := by decide +kernel
theorem dX3_tell_69 : decode cX3_tell 69 = .ok (.ireturn, 1) := by decide +kernel
theorem dX3_tell_70 : decode cX3_tell 70 = .ok (.aload_n 0, 1) := by decide +kernel
theorem dX3_tell_71 : decode cX3_tell 71 = .ok (.iload_n 1, 1) := by decide +kernel
theorem dX3_tell_72 : decode cX3_tell 72 = .ok (.invokevirtual 56, 3) := by decide +kernel
theorem dX3_tell_75 : decode cX3_tell 75 = .ok (.ireturn, 1) := by decide +kernel
theorem dX4_init_0 : decode cX4_init 0 = .ok (.aload_n 0, 1) := by decide +kernel
theorem dX4_init_1 : decode cX4_init 1 = .ok (.invokespecial 3, 3) := by decide +kernel
theorem dX4_init_4 : decode cX4_init 4 = .ok (.aload_n 0, 1) := by decide +kernel
theorem dX4_init_5 : decode cX4_init 5 = .ok (.bipush 24, 2) := by decide +kernel
theorem dX4_init_7 : decode cX4_init 7 = .ok (.anewarray 9, 3) := by decide +kernel
theorem dX4_init_10 : decode cX4_init 10 = .ok (.putfield 11, 3) := by decide +kernel
theorem dX4_init_13 : decode cX4_init 13 = .ok (.aload_n 0, 1) := by decide +kernel
theorem dX4_init_14 : decode cX4_init 14 = .ok (.bipush 6, 2) := by decide +kernel
theorem dX4_init_16 : decode cX4_init 16 = .ok (.anewarray 17, 3) := by decide +kernel
theorem dX4_init_19 : decode cX4_init 19 = .ok (.putfield 19, 3) := by decide +kernel
theorem dX4_init_22 : decode cX4_init 22 = .ok (.aload_n 0, 1) := by decide +kernel
theorem dX4_init_23 : decode cX4_init 23 = .ok (.iconst 4, 1) := by decide +kernel
theorem dX4_init_24 : decode cX4_init 24 = .ok (.newarray .int, 2) := by decide +kernel
theorem dX4_init_26 : decode cX4_init 26 = .ok (.putfield 23, 3) := by decide +kernel
theorem dX4_init_29 : decode cX4_init 29 = .ok (.aload_n 0, 1) := by decide +kernel
theorem dX4_init_30 : decode cX4_init 30 = .ok (.iconst 4, 1) := by decide +kernel
theorem dX4_init_31 : decode cX4_init 31 = .ok (.newarray .int, 2) := by decide +kernel
theorem dX4_init_33 : decode cX4_init 33 = .ok (.putfield 27, 3) := by decide +kernel
theorem dX4_init_36 : decode cX4_init 36 = .ok (.iconst 0, 1) := by decide +kernel
theorem dX4_init_37 : decode cX4_init 37 = .ok (.istore_n 1, 1) := by decide +kernel
theorem dX4_init_38 : decode cX4_init 38 = .ok (.iload_n 1, 1) := by decide +kernel
theorem dX4_init_39 : decode cX4_init 39 = .ok (.bipush 24, 2) := by decide +kernel
theorem dX4_init_41 : decode cX4_init 41 = .ok (.if_icmp .ge 22, 3) := by decide +kernel
theorem dX4_init_44 : decode cX4_init 44 = .ok (.aload_n 0, 1) := by decide +kernel
theorem dX4_init_45 : decode cX4_init 45 = .ok (.getfield 11, 3) := by decide +kernel
theorem dX4_init_48 : decode cX4_init 48 = .ok (.iload_n 1, 1) := by decide +kernel
theorem dX4_init_49 : decode cX4_init 49 = .ok (.new 9, 3) := by decide +kernel
theorem dX4_init_52 : decode cX4_init 52 = .ok (.dup, 1) := by decide +kernel
theorem dX4_init_53 : decode cX4_init 53 = .ok (.invokespecial 30, 3) := by decide +kernel
theorem dX4_init_56 : decode cX4_init 56 = .ok (.aastore, 1) := by decide +kernel
theorem dX4_init_57 : decode cX4_init 57 = .ok (.iinc 1 1, 3) := by decide +kernel
theorem dX4_init_60 : decode cX4_init 60 = .ok (.goto (-22), 3) := by decide +kernel
theorem dX4_init_63 : decode cX4_init 63 = .ok (.iconst 0, 1) := by decide +kernel
theorem dX4_init_64 : decode cX4_init 64 = .ok (.istore_n 1, 1) := by decide +kernel
theorem dX4_init_65 : decode cX4_init 65 = .ok (.iload_n 1, 1) := by decide +kernel
theorem dX4_init_66 : decode cX4_init 66 = .ok (.bipush 6, 2) := by decide +kernel
theorem dX4_init_68 : decode cX4_init 68 = .ok (.if_icmp .ge 22, 3) := by decide +kernel
theorem dX4_init_71 : decode cX4_init 71 = .ok (.aload_n 0, 1) := by decide +kernel
theorem dX4_init_72 : decode cX4_init 72 = .ok (.getfield 19, 3) := by decide +kernel
theorem dX4_init_75 : decode cX4_init 75 = .ok (.iload_n 1, 1) := by decide +kernel
theorem dX4_init_76 : decode cX4_init 76 = .ok (.new 17, 3) := by decide +kernel
theorem dX4_init_79 : decode cX4_init 79 = .ok (.dup, 1) := by decide +kernel
theorem dX4_init_80 : decode cX4_init 80 = .ok (.invokespecial 31, 3) := by decide +kernel
theorem dX4_init_83 : decode cX4_init 83 = .ok (.aastore, 1) := by decide +kernel
theorem dX4_init_84 : decode cX4_init 84 = .ok (.iinc 1 1, 3) := by decide +kernel
theorem dX4_init_87 : decode cX4_init 87 = .ok (.goto (-22), 3) := by decide +kernel
theorem dX4_init_90 : decode cX4_init 90 = .ok (.iconst 0, 1) := by decide +kernel
theorem dX4_init_91 : decode cX4_init 91 = .ok (.istore_n 1, 1) := by decide +kernel
theorem dX4_init_92 : decode cX4_init 92 = .ok (.iload_n 1, 1) := by decide +kernel
theorem dX4_init_93 : decode cX4_init 93 = .ok (.iconst 4, 1) := by decide +kernel
theorem dX4_init_94 : decode cX4_init 94 = .ok (.if_icmp .ge 23, 3) := by decide +kernel
theorem dX4_init_97 : decode cX4_init 97 = .ok (.aload_n 0, 1) := by decide +kernel
theorem dX4_init_98 : decode cX4_init 98 = .ok (.getfield 23, 3) := by decide +kernel
theorem dX4_init_101 : decode cX4_init 101 = .ok (.iload_n 1, 1) := by decide +kernel
theorem dX4_init_102 : decode cX4_init 102 = .ok (.iconst 3, 1) := by decide +kernel
theorem dX4_init_103 : decode cX4_init 103 = .ok (.iastore, 1) := by decide +kernel
theorem dX4_init_104 : decode cX4_init 104 = .ok (.aload_n 0, 1) := by decide +kernel
theorem dX4_init_105 : decode cX4_init 105 = .ok (.getfield 27, 3) := by decide +kernel
theorem dX4_init_108 : decode cX4_init 108 = .ok (.iload_n 1, 1) := by decide +kernel
theorem dX4_init_109 : decode cX4_init 109 = .ok (.iconst 1, 1) := by decide +kernel
theorem dX4_init_110 : decode cX4_init 110 = .ok (.iastore, 1) := by decide +kernel
theorem dX4_init_111 : decode cX4_init 111 = .ok (.iinc 1 1, 3) := by decide +kernel
theorem dX4_init_114 : decode cX4_init 114 = .ok (.goto (-22), 3) := by decide +kernel
theorem dX4_init_117 : decode cX4_init 117 = .ok (.return_, 1) := by decide +kernel
theorem dX4_copyFrom_0 : decode cX4_copyFrom 0 = .ok (.aload_n 0, 1) := by decide +kernel
theorem dX4_copyFrom_1 : decode cX4_copyFrom 1 = .ok (.aload_n 1, 1) := by decide +kernel
theorem dX4_copyFrom_2 : decode cX4_copyFrom 2 = .ok (.getfield 32, 3) := by decide +kernel
theorem dX4_copyFrom_5 : decode cX4_copyFrom 5 = .ok (.putfield 32, 3) := by decide +kernel
theorem dX4_copyFrom_8 : decode cX4_copyFrom 8 = .ok (.iconst 0, 1) := by decide +kernel
theorem dX4_copyFrom_9 : decode cX4_copyFrom 9 = .ok (.istore_n 2, 1) := by decide +kernel
theorem dX4_copyFrom_10 : decode cX4_copyFrom 10 = .ok (.iload_n 2, 1) := by decide +kernel
theorem dX4_copyFrom_11 : decode cX4_copyFrom 11 = .ok (.aload_n 0, 1) := by decide +kernel
theorem dX4_copyFrom_12 : decode cX4_copyFrom 12 = .ok (.getfield 32, 3) := by decide +kernel
theorem dX4_copyFrom_15 : decode cX4_copyFrom 15 = .ok (.if_icmp .ge 24, 3) := by decide +kernel
theorem dX4_copyFrom_18 : decode cX4_copyFrom 18 = .ok (.aload_n 0, 1) := by decide +kernel
theorem dX4_copyFrom_19 : decode cX4_copyFrom 19 = .ok (.getfield 11, 3) := by decide +kernel
theorem dX4_copyFrom_22 : decode cX4_copyFrom 22 = .ok (.iload_n 2, 1) := by decide +kernel
theorem dX4_copyFrom_23 : decode cX4_copyFrom 23 = .ok (.aaload, 1) := by decide +kernel
theorem dX4_copyFrom_24 : decode cX4_copyFrom 24 = .ok (.aload_n 1, 1) := by decide +kernel
theorem dX4_copyFrom_25 : decode cX4_copyFrom 25 = .ok (.getfield 11, 3) := by decide +kernel
theorem dX4_copyFrom_28 : decode cX4_copyFrom 28 = .ok (.iload_n 2, 1) := by decide +kernel
theorem dX4_copyFrom_29 : decode cX4_copyFrom 29 = .ok (.aaload, 1) := by decide +kernel
theorem dX4_copyFrom_30 : decode cX4_copyFrom 30 = .ok (.invokevirtual 36, 3) := by decide +kernel
theorem dX4_copyFrom_33 : decode cX4_copyFrom 33 = .ok (.iinc 2 1, 3) := by decide +kernel
theorem dX4_copyFrom_36 : decode cX4_copyFrom 36 = .ok (.goto (-26), 3) := by decide +kernel
theorem dX4_copyFrom_39 : decode cX4_copyFrom 39 = .ok (.aload_n 0, 1) := by decide +kernel
theorem dX4_copyFrom_40 : decode cX4_copyFrom 40 = .ok (.aload_n 1, 1) := by decide +kernel
theorem dX4_copyFrom_41 : decode cX4_copyFrom 41 = .ok (.getfield 40, 3) := by decide +kernel
theorem dX4_copyFrom_44 : decode cX4_copyFrom 44 = .ok (.putfield 40, 3) := by decide +kernel
theorem dX4_copyFrom_47 : decode cX4_copyFrom 47 = .ok (.iconst 0, 1) := by decide +kernel
theorem dX4_copyFrom_48 : decode cX4_copyFrom 48 = .ok (.istore_n 2, 1) := by decide +kernel
theorem dX4_copyFrom_49 : decode cX4_copyFrom 49 = .ok (.iload_n 2, 1) := by decide +kernel
theorem dX4_copyFrom_50 : decode cX4_copyFrom 50 = .ok (.aload_n 0, 1) := by decide +kernel
theorem dX4_copyFrom_51 : decode cX4_copyFrom 51 = .ok (.getfield 40, 3) := by decide +kernel
theorem dX4_copyFrom_54 : decode cX4_copyFrom 54 = .ok (.if_icmp .ge 24, 3) := by decide +kernel
theorem dX4_copyFrom_57 : decode cX4_copyFrom 57 = .ok (.aload_n 0, 1) := by decide +kernel
theorem dX4_copyFrom_58 : decode cX4_copyFrom 58 = .ok (.getfield 19, 3) := by decide +kernel
theorem dX4_copyFrom_61 : decode cX4_copyFrom 61 = .ok (.iload_n 2, 1) := by decide +kernel
theorem dX4_copyFrom_62 : decode cX4_copyFrom 62 = .ok (.aaload, 1) := by decide +kernel
theorem dX4_copyFrom_63 : decode cX4_copyFrom 63 = .ok (.aload_n 1, 1) := by decide +kernel
theorem dX4_copyFrom_64 : decode cX4_copyFrom 64 = .ok (.getfield 19, 3) := by decide +kernel
theorem dX4_copyFrom_67 : decode cX4_copyFrom 67 = .ok (.iload_n 2, 1) := by decide +kernel
theorem dX4_copyFrom_68 : decode cX4_copyFrom 68 = .ok (.aaload, 1) := by decide +kernel
theorem dX4_copyFrom_69 : decode cX4_copyFrom 69 = .ok (.invokevirtual 43, 3) := by decide +kernel
theorem dX4_copyFrom_72 : decode cX4_copyFrom 72 = .ok (.iinc 2 1, 3) := by decide +kernel
theorem dX4_copyFrom_75 : decode cX4_copyFrom 75 = .ok (.goto (-26), 3) := by decide +kernel
theorem dX4_copyFrom_78 : decode cX4_copyFrom 78 = .ok (.aload_n 1, 1) := by decide +kernel
theorem dX4_copyFrom_79 : decode cX4_copyFrom 79 = .ok (.getfield 23, 3) := by decide +kernel
theorem dX4_copyFrom_82 : decode cX4_copyFrom 82 = .ok (.iconst 0, 1) := by decide +kernel
theorem dX4_copyFrom_83 : decode cX4_copyFrom 83 = .ok (.aload_n 0, 1) := by decide +kernel
theorem dX4_copyFrom_84 : decode cX4_copyFrom 84 = .ok (.getfield 23, 3) := by decide +kernel
theorem dX4_copyFrom_87 : decode cX4_copyFrom 87 = .ok (.iconst 0, 1) := by decide +kernel
theorem dX4_copyFrom_88 : decode cX4_copyFrom 88 = .ok (.iconst 4, 1) := by decide +kernel
theorem dX4_copyFrom_89 : decode cX4_copyFrom 89 = .ok (.invokestatic 46, 3) := by decide +kernel
theorem dX4_copyFrom_92 : decode cX4_copyFrom 92 = .ok (.aload_n 1, 1) := by decide +kernel
theorem dX4_copyFrom_93 : decode cX4_copyFrom 93 = .ok (.getfield 27, 3) := by decide +kernel
theorem dX4_copyFrom_96 : decode cX4_copyFrom 96 = .ok (.iconst 0, 1) := by decide +kernel
theorem dX4_copyFrom_97 : decode cX4_copyFrom 97 = .ok (.aload_n 0, 1) := by decide +kernel
theorem dX4_copyFrom_98 : decode cX4_copyFrom 98 = .ok (.getfield 27, 3) := by decide +kernel
theorem dX4_copyFrom_101 : decode cX4_copyFrom 101 = .ok (.iconst 0, 1) := by decide +kernel
theorem dX4_copyFrom_102 : decode cX4_copyFrom 102 = .ok (.iconst 4, 1) := by decide +kernel
theorem dX4_copyFrom_103 : decode cX4_copyFrom 103 = .ok (.invokestatic 46, 3) := by decide +kernel
theorem dX4_copyFrom_106 : decode cX4_copyFrom 106 = .ok (.aload_n 0, 1) := by decide +kernel
theorem dX4_copyFrom_107 : decode cX4_copyFrom 107 = .ok (.aload_n 1, 1) := by decide +kernel
theorem dX4_copyFrom_108 : decode cX4_copyFrom 108 = .ok (.getfield 52, 3) := by decide +kernel
theorem dX4_copyFrom_111 : decode cX4_copyFrom 111 = .ok (.putfield 52, 3) := by decide +kernel
theorem dX4_copyFrom_114 : decode cX4_copyFrom 114 = .ok (.aload_n 0, 1) := by decide +kernel
theorem dX4_copyFrom_115 : decode cX4_copyFrom 115 = .ok (.aload_n 1, 1) := by decide +kernel
theorem dX4_copyFrom_116 : decode cX4_copyFrom 116 = .ok (.getfield 55, 3) := by decide +kernel
theorem dX4_copyFrom_119 : decode cX4_copyFrom 119 = .ok (.putfield 55, 3) := by decide +kernel
theorem dX4_copyFrom_122 : decode cX4_copyFrom 122 = .ok (.aload_n 0, 1) := by decide +kernel
theorem dX4_copyFrom_123 : decode cX4_copyFrom 123 = .ok (.aload_n 1, 1) := by decide +kernel
theorem dX4_copyFrom_124 : decode cX4_copyFrom 124 = .ok (.getfield 58, 3) := by decide +kernel
theorem dX4_copyFrom_127 : decode cX4_copyFrom 127 = .ok (.putfield 58, 3) := by decide +kernel
theorem dX4_copyFrom_130 : decode cX4_copyFrom 130 = .ok (.return_, 1) := by decide +kernel
theorem dX4_playerAt_0 : decode cX4_playerAt 0 = .ok (.iload_n 1, 1) := by decide +kernel
theorem dX4_playerAt_1 : decode cX4_playerAt 1 = .ok (.ifCond .lt 20, 3) := by decide +kernel
theorem dX4_playerAt_4 : decode cX4_playerAt 4 = .ok (.iload_n 1, 1) := by decide +kernel
theorem dX4_playerAt_5 : decode cX4_playerAt 5 = .ok (.aload_n 0, 1) := by decide +kernel
theorem dX4_playerAt_6 : decode cX4_playerAt 6 = .ok (.getfield 32, 3) := by decide +kernel
theorem dX4_playerAt_9 : decode cX4_playerAt 9 = .ok (.if_icmp .ge 12, 3) := by decide +kernel
theorem dX4_playerAt_12 : decode cX4_playerAt 12 = .ok (.aload_n 0, 1) := by decide +kernel
theorem dX4_playerAt_13 : decode cX4_playerAt 13 = .ok (.getfield 11, 3) := by decide +kernel
theorem dX4_playerAt_16 : decode cX4_playerAt 16 = .ok (.iload_n 1, 1) := by decide +kernel
theorem dX4_playerAt_17 : decode cX4_playerAt 17 = .ok (.aaload, 1) := by decide +kernel
theorem dX4_playerAt_18 : decode cX4_playerAt 18 = .ok (.goto 4, 3) := by decide +kernel
theorem dX4_playerAt_21 : decode cX4_playerAt 21 = .ok (.aconst_null, 1) := by decide +kernel
theorem dX4_playerAt_22 : decode cX4_playerAt 22 = .ok (.areturn, 1) := by decide +kernel
theorem dX4_bandAt_0 : decode cX4_bandAt 0 = .ok (.iload_n 1, 1) := by decide +kernel
theorem dX4_bandAt_1 : decode cX4_bandAt 1 = .ok (.ifCond .lt 20, 3) := by decide +kernel
theorem dX4_bandAt_4 : decode cX4_bandAt 4 = .ok (.iload_n 1, 1) := by decide +kernel
theorem dX4_bandAt_5 : decode cX4_bandAt 5 = .ok (.aload_n 0, 1) := by decide +kernel
theorem dX4_bandAt_6 : decode cX4_bandAt 6 = .ok (.getfield 40, 3) := by decide +kernel
theorem dX4_bandAt_9 : decode cX4_bandAt 9 = .ok (.if_icmp .ge 12, 3) := by decide +kernel
theorem dX4_bandAt_12 : decode cX4_bandAt 12 = .ok (.aload_n 0, 1) := by decide +kernel
theorem dX4_bandAt_13 : decode cX4_bandAt 13 = .ok (.getfield 19, 3) := by decide +kernel
theorem dX4_bandAt_16 : decode cX4_bandAt 16 = .ok (.iload_n 1, 1) := by decide +kernel
theorem dX4_bandAt_17 : decode cX4_bandAt 17 = .ok (.aaload, 1) := by decide +kernel
theorem dX4_bandAt_18 : decode cX4_bandAt 18 = .ok (.goto 4, 3) := by decide +kernel
theorem dX4_bandAt_21 : decode cX4_bandAt 21 = .ok (.aconst_null, 1) := by decide +kernel
theorem dX4_bandAt_22 : decode cX4_bandAt 22 = .ok (.areturn, 1) := by decide +kernel
theorem dX4_chairAt_0 : decode cX4_chairAt 0 = .ok (.aload_n 0, 1) := by decide +kernel
theorem dX4_chairAt_1 : decode cX4_chairAt 1 = .ok (.iload_n 1, 1) := by decide +kernel
theorem dX4_chairAt_2 : decode cX4_chairAt 2 = .ok (.invokevirtual 61, 3) := by decide +kernel
theorem dX4_chairAt_5 : decode cX4_chairAt 5 = .ok (.astore_n 3, 1) := by decide +kernel
theorem dX4_chairAt_6 : decode cX4_chairAt 6 = .ok (.aload_n 3, 1) := by decide +kernel
theorem dX4_chairAt_7 : decode cX4_chairAt 7 = .ok (.ifnonnull 7, 3) := by decide +kernel
theorem dX4_chairAt_10 : decode cX4_chairAt 10 = .ok (.aconst_null, 1) := by decide +kernel
theorem dX4_chairAt_11 : decode cX4_chairAt 11 = .ok (.goto 8, 3) := by decide +kernel
theorem dX4_chairAt_14 : decode cX4_chairAt 14 = .ok (.aload_n 3, 1) := by decide +kernel
theorem dX4_chairAt_15 : decode cX4_chairAt 15 = .ok (.iload_n 2, 1) := by decide +kernel
theorem dX4_chairAt_16 : decode cX4_chairAt 16 = .ok (.invokevirtual 65, 3) := by decide +kernel
theorem dX4_chairAt_19 : decode cX4_chairAt 19 = .ok (.areturn, 1) := by decide +kernel
theorem dX4_hardFor_0 : decode cX4_hardFor 0 = .ok (.iload_n 1, 1) := by decide +kernel
theorem dX4_hardFor_1 : decode cX4_hardFor 1 = .ok (.ifCond .lt 17, 3) := by decide +kernel
theorem dX4_hardFor_4 : decode cX4_hardFor 4 = .ok (.iload_n 1, 1) := by decide +kernel
theorem dX4_hardFor_5 : decode cX4_hardFor 5 = .ok (.iconst 4, 1) := by decide +kernel
theorem dX4_hardFor_6 : decode cX4_hardFor 6 = .ok (.if_icmp .ge 12, 3) := by decide +kernel
theorem dX4_hardFor_9 : decode cX4_hardFor 9 = .ok (.aload_n 0, 1) := by decide +kernel
theorem dX4_hardFor_10 : decode cX4_hardFor 10 = .ok (.getfield 23, 3) := by decide +kernel
theorem dX4_hardFor_13 : decode cX4_hardFor 13 = .ok (.iload_n 1, 1) := by decide +kernel
theorem dX4_hardFor_14 : decode cX4_hardFor 14 = .ok (.iaload, 1) := by decide +kernel
theorem dX4_hardFor_15 : decode cX4_hardFor 15 = .ok (.goto 4, 3) := by decide +kernel
theorem dX4_hardFor_18 : decode cX4_hardFor 18 = .ok (.iconst 0, 1) := by decide +kernel
theorem dX4_hardFor_19 : decode cX4_hardFor 19 = .ok (.ireturn, 1) := by decide +kernel
theorem dX4_weightFor_0 : decode cX4_weightFor 0 = .ok (.iload_n 1, 1) := by decide +kernel
theorem dX4_weightFor_1 : decode cX4_weightFor 1 = .ok (.ifCond .lt 17, 3) := by decide +kernel
theorem dX4_weightFor_4 : decode cX4_weightFor 4 = .ok (.iload_n 1, 1) := by decide +kernel
theorem dX4_weightFor_5 : decode cX4_weightFor 5 = .ok (.iconst 4, 1) := by decide +kernel
theorem dX4_weightFor_6 : decode cX4_weightFor 6 = .ok (.if_icmp .ge 12, 3) := by decide +kernel
theorem dX4_weightFor_9 : decode cX4_weightFor 9 = .ok (.aload_n 0, 1) := by decide +kernel
theorem dX4_weightFor_10 : decode cX4_weightFor 10 = .ok (.getfield 27, 3) := by decide +kernel
theorem dX4_weightFor_13 : decode cX4_weightFor 13 = .ok (.iload_n 1, 1) := by decide +kernel
theorem dX4_weightFor_14 : decode cX4_weightFor 14 = .ok (.iaload, 1) := by decide +kernel
theorem dX4_weightFor_15 : decode cX4_weightFor 15 = .ok (.goto 4, 3) := by decide +kernel
theorem dX4_weightFor_18 : decode cX4_weightFor 18 = .ok (.iconst 0, 1) := by decide +kernel
theorem dX4_weightFor_19 : decode cX4_weightFor 19 = .ok (.ireturn, 1) := by decide +kernel
theorem dX4_enrol_0 : decode cX4_enrol 0 = .ok (.aload_n 0, 1) := by decide +kernel
theorem dX4_enrol_1 : decode cX4_enrol 1 = .ok (.getfield 32, 3) := by decide +kernel
theorem dX4_enrol_4 : decode cX4_enrol 4 = .ok (.bipush 24, 2) := by decide +kernel
theorem dX4_enrol_6 : decode cX4_enrol 6 = .ok (.if_icmp .lt 5, 3) := by decide +kernel
theorem dX4_enrol_9 : decode cX4_enrol 9 = .ok (.iconst (-1), 1) := by decide +kernel
theorem dX4_enrol_10 : decode cX4_enrol 10 = .ok (.ireturn, 1) := by decide +kernel
theorem dX4_enrol_11 : decode cX4_enrol 11 = .ok (.aload_n 0, 1) := by decide +kernel
theorem dX4_enrol_12 : decode cX4_enrol 12 = .ok (.getfield 11, 3) := by decide +kernel
theorem dX4_enrol_15 : decode cX4_enrol 15 = .ok (.aload_n 0, 1) := by decide +kernel
theorem dX4_enrol_16 : decode cX4_enrol 16 = .ok (.getfield 32, 3) := by decide +kernel
theorem dX4_enrol_19 : decode cX4_enrol 19 = .ok (.aaload, 1) := by decide +kernel
theorem dX4_enrol_20 : decode cX4_enrol 20 = .ok (.getfield 69, 3) := by decide +kernel
theorem dX4_enrol_23 : decode cX4_enrol 23 = .ok (.astore 5, 2) := by decide +kernel
theorem dX4_enrol_25 : decode cX4_enrol 25 = .ok (.aload 5, 2) := by decide +kernel
theorem dX4_enrol_27 : decode cX4_enrol 27 = .ok (.iconst 0, 1) := by decide +kernel
theorem dX4_enrol_28 : decode cX4_enrol 28 = .ok (.iload_n 1, 1) := by decide +kernel
theorem dX4_enrol_29 : decode cX4_enrol 29 = .ok (.iastore, 1) := by decide +kernel
theorem dX4_enrol_30 : decode cX4_enrol 30 = .ok (.aload 5, 2) := by decide +kernel
theorem dX4_enrol_32 : decode cX4_enrol 32 = .ok (.iconst 1, 1) := by decide +kernel
theorem dX4_enrol_33 : decode cX4_enrol 33 = .ok (.iload_n 2, 1) := by decide +kernel
theorem dX4_enrol_34 : decode cX4_enrol 34 = .ok (.iastore, 1) := by decide +kernel
theorem dX4_enrol_35 : decode cX4_enrol 35 = .ok (.aload 5, 2) := by decide +kernel
theorem dX4_enrol_37 : decode cX4_enrol 37 = .ok (.iconst 2, 1) := by decide +kernel
theorem dX4_enrol_38 : decode cX4_enrol 38 = .ok (.iload_n 3, 1) := by decide +kernel
theorem dX4_enrol_39 : decode cX4_enrol 39 = .ok (.iastore, 1) := by decide +kernel
theorem dX4_enrol_40 : decode cX4_enrol 40 = .ok (.aload 5, 2) := by decide +kernel
theorem dX4_enrol_42 : decode cX4_enrol 42 = .ok (.iconst 3, 1) := by decide +kernel
theorem dX4_enrol_43 : decode cX4_enrol 43 = .ok (.iload 4, 2) := by decide +kernel
theorem dX4_enrol_45 : decode cX4_enrol 45 = .ok (.iastore, 1) := by decide +kernel
theorem dX4_enrol_46 : decode cX4_enrol 46 = .ok (.aload_n 0, 1) := by decide +kernel
theorem dX4_enrol_47 : decode cX4_enrol 47 = .ok (.dup, 1) := by decide +kernel
theorem dX4_enrol_48 : decode cX4_enrol 48 = .ok (.getfield 32, 3) := by decide +kernel
theorem dX4_enrol_51 : decode cX4_enrol 51 = .ok (.iconst 1, 1) := by decide +kernel
theorem dX4_enrol_52 : decode cX4_enrol 52 = .ok (.iadd, 1) := by decide +kernel
theorem dX4_enrol_53 : decode cX4_enrol 53 = .ok (.putfield 32, 3) := by decide +kernel
theorem dX4_enrol_56 : decode cX4_enrol 56 = .ok (.aload_n 0, 1) := by decide +kernel
theorem dX4_enrol_57 : decode cX4_enrol 57 = .ok (.getfield 32, 3) := by decide +kernel
theorem dX4_enrol_60 : decode cX4_enrol 60 = .ok (.iconst 1, 1) := by decide +kernel
theorem dX4_enrol_61 : decode cX4_enrol 61 = .ok (.isub, 1) := by decide +kernel
theorem dX4_enrol_62 : decode cX4_enrol 62 = .ok (.ireturn, 1) := by decide +kernel
theorem dX4_open_0 : decode cX4_open 0 = .ok (.aload_n 0, 1) := by decide +kernel
theorem dX4_open_1 : decode cX4_open 1 = .ok (.getfield 40, 3) := by decide +kernel
theorem dX4_open_4 : decode cX4_open 4 = .ok (.bipush 6, 2) := by decide +kernel
theorem dX4_open_6 : decode cX4_open 6 = .ok (.if_icmp .lt 5, 3) := by decide +kernel
theorem dX4_open_9 : decode cX4_open 9 = .ok (.iconst (-1), 1) := by decide +kernel
theorem dX4_open_10 : decode cX4_open 10 = .ok (.ireturn, 1) := by decide +kernel
theorem dX4_open_11 : decode cX4_open 11 = .ok (.aload_n 0, 1) := by decide +kernel
theorem dX4_open_12 : decode cX4_open 12 = .ok (.getfield 19, 3) := by decide +kernel
theorem dX4_open_15 : decode cX4_open 15 = .ok (.aload_n 0, 1) := by decide +kernel
theorem dX4_open_16 : decode cX4_open 16 = .ok (.getfield 40, 3) := by decide +kernel
theorem dX4_open_19 : decode cX4_open 19 = .ok (.aaload, 1) := by decide +kernel
theorem dX4_open_20 : decode cX4_open 20 = .ok (.iload_n 1, 1) := by decide +kernel
theorem dX4_open_21 : decode cX4_open 21 = .ok (.iload_n 2, 1) := by decide +kernel
theorem dX4_open_22 : decode cX4_open 22 = .ok (.invokevirtual 72, 3) := by decide +kernel
theorem dX4_open_25 : decode cX4_open 25 = .ok (.aload_n 0, 1) := by decide +kernel
theorem dX4_open_26 : decode cX4_open 26 = .ok (.dup, 1) := by decide +kernel
theorem dX4_open_27 : decode cX4_open 27 = .ok (.getfield 40, 3) := by decide +kernel
theorem dX4_open_30 : decode cX4_open 30 = .ok (.iconst 1, 1) := by decide +kernel
theorem dX4_open_31 : decode cX4_open 31 = .ok (.iadd, 1) := by decide +kernel
theorem dX4_open_32 : decode cX4_open 32 = .ok (.putfield 40, 3) := by decide +kernel
theorem dX4_open_35 : decode cX4_open 35 = .ok (.aload_n 0, 1) := by decide +kernel
theorem dX4_open_36 : decode cX4_open 36 = .ok (.getfield 40, 3) := by decide +kernel
theorem dX4_open_39 : decode cX4_open 39 = .ok (.iconst 1, 1) := by decide +kernel
theorem dX4_open_40 : decode cX4_open 40 = .ok (.isub, 1) := by decide +kernel
theorem dX4_open_41 : decode cX4_open 41 = .ok (.ireturn, 1) := by decide +kernel
theorem dX4_leave_0 : decode cX4_leave 0 = .ok (.aload_n 0, 1) := by decide +kernel
theorem dX4_leave_1 : decode cX4_leave 1 = .ok (.iload_n 1, 1) := by decide +kernel
theorem dX4_leave_2 : decode cX4_leave 2 = .ok (.invokevirtual 76, 3) := by decide +kernel
theorem dX4_leave_5 : decode cX4_leave 5 = .ok (.astore_n 2, 1) := by decide +kernel
theorem dX4_leave_6 : decode cX4_leave 6 = .ok (.aload_n 2, 1) := by decide +kernel
theorem dX4_leave_7 : decode cX4_leave 7 = .ok (.ifnonnull 4, 3) := by decide +kernel
theorem dX4_leave_10 : decode cX4_leave 10 = .ok (.return_, 1) := by decide +kernel
theorem dX4_leave_11 : decode cX4_leave 11 = .ok (.aload_n 0, 1) := by decide +kernel
theorem dX4_leave_12 : decode cX4_leave 12 = .ok (.aload_n 2, 1) := by decide +kernel
theorem dX4_leave_13 : decode cX4_leave 13 = .ok (.getfield 80, 3) := by decide +kernel
theorem dX4_leave_16 : decode cX4_leave 16 = .ok (.aload_n 2, 1) := by decide +kernel
theorem dX4_leave_17 : decode cX4_leave 17 = .ok (.getfield 83, 3) := by decide +kernel
theorem dX4_leave_20 : decode cX4_leave 20 = .ok (.invokevirtual 86, 3) := by decide +kernel
theorem dX4_leave_23 : decode cX4_leave 23 = .ok (.astore_n 3, 1) := by decide +kernel
theorem dX4_leave_24 : decode cX4_leave 24 = .ok (.aload_n 3, 1) := by decide +kernel
theorem dX4_leave_25 : decode cX4_leave 25 = .ok (.ifnull 8, 3) := by decide +kernel
theorem dX4_leave_28 : decode cX4_leave 28 = .ok (.aload_n 3, 1) := by decide +kernel
theorem dX4_leave_29 : decode cX4_leave 29 = .ok (.iconst (-1), 1) := by decide +kernel
theorem dX4_leave_30 : decode cX4_leave 30 = .ok (.putfield 89, 3) := by decide +kernel
theorem dX4_leave_33 : decode cX4_leave 33 = .ok (.aload_n 2, 1) := by decide +kernel
theorem dX4_leave_34 : decode cX4_leave 34 = .ok (.iconst (-1), 1) := by decide +kernel
theorem dX4_leave_35 : decode cX4_leave 35 = .ok (.putfield 80, 3) := by decide +kernel
theorem dX4_leave_38 : decode cX4_leave 38 = .ok (.aload_n 2, 1) := by decide +kernel
theorem dX4_leave_39 : decode cX4_leave 39 = .ok (.iconst (-1), 1) := by decide +kernel
theorem dX4_leave_40 : decode cX4_leave 40 = .ok (.putfield 83, 3) := by decide +kernel
theorem dX4_leave_43 : decode cX4_leave 43 = .ok (.return_, 1) := by decide +kernel
theorem dX4_putOn_0 : decode cX4_putOn 0 = .ok (.aload_n 0, 1) := by decide +kernel
theorem dX4_putOn_1 : decode cX4_putOn 1 = .ok (.iload_n 1, 1) := by decide +kernel
theorem dX4_putOn_2 : decode cX4_putOn 2 = .ok (.iload_n 2, 1) := by decide +kernel
theorem dX4_putOn_3 : decode cX4_putOn 3 = .ok (.invokevirtual 86, 3) := by decide +kernel
theorem dX4_putOn_6 : decode cX4_putOn 6 = .ok (.astore 4, 2) := by decide +kernel
theorem dX4_putOn_8 : decode cX4_putOn 8 = .ok (.aload 4, 2) := by decide +kernel
theorem dX4_putOn_10 : decode cX4_putOn 10 = .ok (.ifnonnull 4, 3) := by decide +kernel
theorem dX4_putOn_13 : decode cX4_putOn 13 = .ok (.return_, 1) := by decide +kernel
theorem dX4_putOn_14 : decode cX4_putOn 14 = .ok (.aload 4, 2) := by decide +kernel
theorem dX4_putOn_16 : decode cX4_putOn 16 = .ok (.iload_n 3, 1) := by decide +kernel
theorem dX4_putOn_17 : decode cX4_putOn 17 = .ok (.putfield 89, 3) := by decide +kernel
theorem dX4_putOn_20 : decode cX4_putOn 20 = .ok (.aload_n 0, 1) := by decide +kernel
theorem dX4_putOn_21 : decode cX4_putOn 21 = .ok (.iload_n 3, 1) := by decide +kernel
theorem dX4_putOn_22 : decode cX4_putOn 22 = .ok (.invokevirtual 76, 3) := by decide +kernel
theorem dX4_putOn_25 : decode cX4_putOn 25 = .ok (.astore 5, 2) := by decide +kernel
theorem dX4_putOn_27 : decode cX4_putOn 27 = .ok (.aload 5, 2) := by decide +kernel
theorem dX4_putOn_29 : decode cX4_putOn 29 = .ok (.ifnull 15, 3) := by decide +kernel
theorem dX4_putOn_32 : decode cX4_putOn 32 = .ok (.aload 5, 2) := by decide +kernel
theorem dX4_putOn_34 : decode cX4_putOn 34 = .ok (.iload_n 1, 1) := by decide +kernel
theorem dX4_putOn_35 : decode cX4_putOn 35 = .ok (.putfield 80, 3) := by decide +kernel
theorem dX4_putOn_38 : decode cX4_putOn 38 = .ok (.aload 5, 2) := by decide +kernel
theorem dX4_putOn_40 : decode cX4_putOn 40 = .ok (.iload_n 2, 1) := by decide +kernel
theorem dX4_putOn_41 : decode cX4_putOn 41 = .ok (.putfield 83, 3) := by decide +kernel
theorem dX4_putOn_44 : decode cX4_putOn 44 = .ok (.return_, 1) := by decide +kernel
theorem dX4_swapMembers_0 : decode cX4_swapMembers 0 = .ok (.aload_n 0, 1) := by decide +kernel
theorem dX4_swapMembers_1 : decode cX4_swapMembers 1 = .ok (.iload_n 1, 1) := by decide +kernel
theorem dX4_swapMembers_2 : decode cX4_swapMembers 2 = .ok (.iload_n 2, 1) := by decide +kernel
theorem dX4_swapMembers_3 : decode cX4_swapMembers 3 = .ok (.invokevirtual 86, 3) := by decide +kernel
theorem dX4_swapMembers_6 : decode cX4_swapMembers 6 = .ok (.astore 4, 2) := by decide +kernel
theorem dX4_swapMembers_8 : decode cX4_swapMembers 8 = .ok (.aload_n 0, 1) := by decide +kernel
theorem dX4_swapMembers_9 : decode cX4_swapMembers 9 = .ok (.iload_n 1, 1) := by decide +kernel
theorem dX4_swapMembers_10 : decode cX4_swapMembers 10 = .ok (.iload_n 3, 1) := by decide +kernel
theorem dX4_swapMembers_11 : decode cX4_swapMembers 11 = .ok (.invokevirtual 86, 3) := by decide +kernel
theorem dX4_swapMembers_14 : decode cX4_swapMembers 14 = .ok (.astore 5, 2) := by decide +kernel
theorem dX4_swapMembers_16 : decode cX4_swapMembers 16 = .ok (.aload 4, 2) := by decide +kernel
theorem dX4_swapMembers_18 : decode cX4_swapMembers 18 = .ok (.ifnull 8, 3) := by decide +kernel
theorem dX4_swapMembers_21 : decode cX4_swapMembers 21 = .ok (.aload 5, 2) := by decide +kernel
theorem dX4_swapMembers_23 : decode cX4_swapMembers 23 = .ok (.ifnonnull 4, 3) := by decide +kernel
theorem dX4_swapMembers_26 : decode cX4_swapMembers 26 = .ok (.return_, 1) := by decide +kernel
theorem dX4_swapMembers_27 : decode cX4_swapMembers 27 = .ok (.aload 4, 2) := by decide +kernel
theorem dX4_swapMembers_29 : decode cX4_swapMembers 29 = .ok (.getfield 89, 3) := by decide +kernel
theorem dX4_swapMembers_32 : decode cX4_swapMembers 32 = .ok (.istore 6, 2) := by decide +kernel
theorem dX4_swapMembers_34 : decode cX4_swapMembers 34 = .ok (.aload 5, 2) := by decide +kernel
theorem dX4_swapMembers_36 : decode cX4_swapMembers 36 = .ok (.getfield 89, 3) := by decide +kernel
theorem dX4_swapMembers_39 : decode cX4_swapMembers 39 = .ok (.istore 7, 2) := by decide +kernel
theorem dX4_swapMembers_41 : decode cX4_swapMembers 41 = .ok (.aload_n 0, 1) := by decide +kernel
theorem dX4_swapMembers_42 : decode cX4_swapMembers 42 = .ok (.iload_n 1, 1) := by decide +kernel
theorem dX4_swapMembers_43 : decode cX4_swapMembers 43 = .ok (.iload_n 2, 1) := by decide +kernel
theorem dX4_swapMembers_44 : decode cX4_swapMembers 44 = .ok (.iload 7, 2) := by decide +kernel
theorem dX4_swapMembers_46 : decode cX4_swapMembers 46 = .ok (.invokevirtual 94, 3) := by decide +kernel
theorem dX4_swapMembers_49 : decode cX4_swapMembers 49 = .ok (.aload_n 0, 1) := by decide +kernel
theorem dX4_swapMembers_50 : decode cX4_swapMembers 50 = .ok (.iload_n 1, 1) := by decide +kernel
theorem dX4_swapMembers_51 : decode cX4_swapMembers 51 = .ok (.iload_n 3, 1) := by decide +kernel
theorem dX4_swapMembers_52 : decode cX4_swapMembers 52 = .ok (.iload 6, 2) := by decide +kernel
theorem dX4_swapMembers_54 : decode cX4_swapMembers 54 = .ok (.invokevirtual 94, 3) := by decide +kernel
theorem dX4_swapMembers_57 : decode cX4_swapMembers 57 = .ok (.return_, 1) := by decide +kernel
theorem dX4_tireMembers_0 : decode cX4_tireMembers 0 = .ok (.iconst 0, 1) := by decide +kernel
theorem dX4_tireMembers_1 : decode cX4_tireMembers 1 = .ok (.istore_n 3, 1) := by decide +kernel
theorem dX4_tireMembers_2 : decode cX4_tireMembers 2 = .ok (.iload_n 3, 1) := by decide +kernel
theorem dX4_tireMembers_3 : decode cX4_tireMembers 3 = .ok (.aload_n 1, 1) := by decide +kernel
theorem dX4_tireMembers_4 : decode cX4_tireMembers 4 = .ok (.getfield 98, 3) := by decide +kernel
theorem dX4_tireMembers_7 : decode cX4_tireMembers 7 = .ok (.if_icmp .ge 43, 3) := by decide +kernel
theorem dX4_tireMembers_10 : decode cX4_tireMembers 10 = .ok (.aload_n 0, 1) := by decide +kernel
theorem dX4_tireMembers_11 : decode cX4_tireMembers 11 = .ok (.aload_n 1, 1) := by decide +kernel
theorem dX4_tireMembers_12 : decode cX4_tireMembers 12 = .ok (.getfield 101, 3) := by decide +kernel
theorem dX4_tireMembers_15 : decode cX4_tireMembers 15 = .ok (.iload_n 3, 1) := by decide +kernel
theorem dX4_tireMembers_16 : decode cX4_tireMembers 16 = .ok (.aaload, 1) := by decide +kernel
theorem dX4_tireMembers_17 : decode cX4_tireMembers 17 = .ok (.getfield 89, 3) := by decide +kernel
theorem dX4_tireMembers_20 : decode cX4_tireMembers 20 = .ok (.invokevirtual 76, 3) := by decide +kernel
theorem dX4_tireMembers_23 : decode cX4_tireMembers 23 = .ok (.astore 4, 2) := by decide +kernel
theorem dX4_tireMembers_25 : decode cX4_tireMembers 25 = .ok (.aload 4, 2) := by decide +kernel
theorem dX4_tireMembers_27 : decode cX4_tireMembers 27 = .ok (.ifnull 17, 3) := by decide +kernel
theorem dX4_tireMembers_30 : decode cX4_tireMembers 30 = .ok (.aload 4, 2) := by decide +kernel
theorem dX4_tireMembers_32 : decode cX4_tireMembers 32 = .ok (.invokevirtual 105, 3) := by decide +kernel
theorem dX4_tireMembers_35 : decode cX4_tireMembers 35 = .ok (.ifCond .eq 9, 3) := by decide +kernel
theorem dX4_tireMembers_38 : decode cX4_tireMembers 38 = .ok (.aload 4, 2) := by decide +kernel
theorem dX4_tireMembers_40 : decode cX4_tireMembers 40 = .ok (.iload_n 2, 1) := by decide +kernel
theorem dX4_tireMembers_41 : decode cX4_tireMembers 41 = .ok (.invokevirtual 109, 3) := by decide +kernel
theorem dX4_tireMembers_44 : decode cX4_tireMembers 44 = .ok (.iinc 3 1, 3) := by decide +kernel
theorem dX4_tireMembers_47 : decode cX4_tireMembers 47 = .ok (.goto (-45), 3) := by decide +kernel
theorem dX4_tireMembers_50 : decode cX4_tireMembers 50 = .ok (.return_, 1) := by decide +kernel
theorem dX4_membersInAll_0 : decode cX4_membersInAll 0 = .ok (.iconst 0, 1) := by decide +kernel
theorem dX4_membersInAll_1 : decode cX4_membersInAll 1 = .ok (.istore_n 1, 1) := by decide +kernel
theorem dX4_membersInAll_2 : decode cX4_membersInAll 2 = .ok (.iconst 0, 1) := by decide +kernel
theorem dX4_membersInAll_3 : decode cX4_membersInAll 3 = .ok (.istore_n 2, 1) := by decide +kernel
theorem dX4_membersInAll_4 : decode cX4_membersInAll 4 = .ok (.iload_n 2, 1) := by decide +kernel
theorem dX4_membersInAll_5 : decode cX4_membersInAll 5 = .ok (.aload_n 0, 1) := by decide +kernel
theorem dX4_membersInAll_6 : decode cX4_membersInAll 6 = .ok (.getfield 40, 3) := by decide +kernel
theorem dX4_membersInAll_9 : decode cX4_membersInAll 9 = .ok (.if_icmp .ge 21, 3) := by decide +kernel
theorem dX4_membersInAll_12 : decode cX4_membersInAll 12 = .ok (.iload_n 1, 1) := by decide +kernel
theorem dX4_membersInAll_13 : decode cX4_membersInAll 13 = .ok (.aload_n 0, 1) := by decide +kernel
theorem dX4_membersInAll_14 : decode cX4_membersInAll 14 = .ok (.getfield 19, 3) := by decide +kernel
theorem dX4_membersInAll_17 : decode cX4_membersInAll 17 = .ok (.iload_n 2, 1) := by decide +kernel
theorem dX4_membersInAll_18 : decode cX4_membersInAll 18 = .ok (.aaload, 1) := by decide +kernel
theorem dX4_membersInAll_19 : decode cX4_membersInAll 19 = .ok (.invokevirtual 113, 3) := by decide +kernel
theorem dX4_membersInAll_22 : decode cX4_membersInAll 22 = .ok (.iadd, 1) := by decide +kernel
theorem dX4_membersInAll_23 : decode cX4_membersInAll 23 = .ok (.istore_n 1, 1) := by decide +kernel
theorem dX4_membersInAll_24 : decode cX4_membersInAll 24 = .ok (.iinc 2 1, 3) := by decide +kernel
theorem dX4_membersInAll_27 : decode cX4_membersInAll 27 = .ok (.goto (-23), 3) := by decide +kernel
theorem dX4_membersInAll_30 : decode cX4_membersInAll 30 = .ok (.iload_n 1, 1) := by decide +kernel
theorem dX4_membersInAll_31 : decode cX4_membersInAll 31 = .ok (.ireturn, 1) := by decide +kernel
theorem dX4_absentInAll_0 : decode cX4_absentInAll 0 = .ok (.iconst 0, 1) := by decide +kernel
theorem dX4_absentInAll_1 : decode cX4_absentInAll 1 = .ok (.istore_n 1, 1) := by decide +kernel
theorem dX4_absentInAll_2 : decode cX4_absentInAll 2 = .ok (.iconst 0, 1) := by decide +kernel
theorem dX4_absentInAll_3 : decode cX4_absentInAll 3 = .ok (.istore_n 2, 1) := by decide +kernel
theorem dX4_absentInAll_4 : decode cX4_absentInAll 4 = .ok (.iload_n 2, 1) := by decide +kernel
theorem dX4_absentInAll_5 : decode cX4_absentInAll 5 = .ok (.aload_n 0, 1) := by decide +kernel
theorem dX4_absentInAll_6 : decode cX4_absentInAll 6 = .ok (.getfield 32, 3) := by decide +kernel
theorem dX4_absentInAll_9 : decode cX4_absentInAll 9 = .ok (.if_icmp .ge 24, 3) := by decide +kernel
theorem dX4_absentInAll_12 : decode cX4_absentInAll 12 = .ok (.aload_n 0, 1) := by decide +kernel
theorem dX4_absentInAll_13 : decode cX4_absentInAll 13 = .ok (.getfield 11, 3) := by decide +kernel
theorem dX4_absentInAll_16 : decode cX4_absentInAll 16 = .ok (.iload_n 2, 1) := by decide +kernel
theorem dX4_absentInAll_17 : decode cX4_absentInAll 17 = .ok (.aaload, 1) := by decide +kernel
theorem dX4_absentInAll_18 : decode cX4_absentInAll 18 = .ok (.invokevirtual 105, 3) := by decide +kernel
theorem dX4_absentInAll_21 : decode cX4_absentInAll 21 = .ok (.ifCond .ne 6, 3) := by decide +kernel
theorem dX4_absentInAll_24 : decode cX4_absentInAll 24 = .ok (.iinc 1 1, 3) := by decide +kernel
theorem dX4_absentInAll_27 : decode cX4_absentInAll 27 = .ok (.iinc 2 1, 3) := by decide +kernel
theorem dX4_absentInAll_30 : decode cX4_absentInAll 30 = .ok (.goto (-26), 3) := by decide +kernel
theorem dX4_absentInAll_33 : decode cX4_absentInAll 33 = .ok (.iload_n 1, 1) := by decide +kernel
theorem dX4_absentInAll_34 : decode cX4_absentInAll 34 = .ok (.ireturn, 1) := by decide +kernel
theorem dX4_tell_0 : decode cX4_tell 0 = .ok (.iload_n 1, 1) := by decide +kernel
theorem dX4_tell_1 : decode cX4_tell 1 = .ok (.tableswitch 69 0 5 #[39, 44, 49, 54, 59, 64], 39) := by decide +kernel
theorem dX4_tell_40 : decode cX4_tell 40 = .ok (.aload_n 0, 1) := by decide +kernel
theorem dX4_tell_41 : decode cX4_tell 41 = .ok (.getfield 52, 3) := by decide +kernel
theorem dX4_tell_44 : decode cX4_tell 44 = .ok (.ireturn, 1) := by decide +kernel
theorem dX4_tell_45 : decode cX4_tell 45 = .ok (.aload_n 0, 1) := by decide +kernel
theorem dX4_tell_46 : decode cX4_tell 46 = .ok (.getfield 32, 3) := by decide +kernel
theorem dX4_tell_49 : decode cX4_tell 49 = .ok (.ireturn, 1) := by decide +kernel
theorem dX4_tell_50 : decode cX4_tell 50 = .ok (.aload_n 0, 1) := by decide +kernel
theorem dX4_tell_51 : decode cX4_tell 51 = .ok (.getfield 40, 3) := by decide +kernel
theorem dX4_tell_54 : decode cX4_tell 54 = .ok (.ireturn, 1) := by decide +kernel
theorem dX4_tell_55 : decode cX4_tell 55 = .ok (.aload_n 0, 1) := by decide +kernel
theorem dX4_tell_56 : decode cX4_tell 56 = .ok (.invokevirtual 117, 3) := by decide +kernel
theorem dX4_tell_59 : decode cX4_tell 59 = .ok (.ireturn, 1) := by decide +kernel
theorem dX4_tell_60 : decode cX4_tell 60 = .ok (.aload_n 0, 1) := by decide +kernel
theorem dX4_tell_61 : decode cX4_tell 61 = .ok (.invokevirtual 120, 3) := by decide +kernel
theorem dX4_tell_64 : decode cX4_tell 64 = .ok (.ireturn, 1) := by decide +kernel
theorem dX4_tell_65 : decode cX4_tell 65 = .ok (.aload_n 0, 1) := by decide +kernel
theorem dX4_tell_66 : decode cX4_tell 66 = .ok (.getfield 55, 3) := by decide +kernel
theorem dX4_tell_69 : decode cX4_tell 69 = .ok (.ireturn, 1) := by decide +kernel
theorem dX4_tell_70 : decode cX4_tell 70 = .ok (.aload_n 0, 1) := by decide +kernel
theorem dX4_tell_71 : decode cX4_tell 71 = .ok (.getfield 58, 3) := by decide +kernel
theorem dX4_tell_74 : decode cX4_tell 74 = .ok (.ireturn, 1) := by decide +kernel
theorem dX4_bandByPoints_0 : decode cX4_bandByPoints 0 = .ok (.iconst 0, 1) := by decide +kernel
theorem dX4_bandByPoints_1 : decode cX4_bandByPoints 1 = .ok (.istore_n 2, 1) := by decide +kernel
theorem dX4_bandByPoints_2 : decode cX4_bandByPoints 2 = .ok (.iload_n 2, 1) := by decide +kernel
theorem dX4_bandByPoints_3 : decode cX4_bandByPoints 3 = .ok (.aload_n 0, 1) := by decide +kernel
theorem dX4_bandByPoints_4 : decode cX4_bandByPoints 4 = .ok (.getfield 40, 3) := by decide +kernel
theorem dX4_bandByPoints_7 : decode cX4_bandByPoints 7 = .ok (.if_icmp .ge 20, 3) := by decide +kernel
theorem dX4_bandByPoints_10 : decode cX4_bandByPoints 10 = .ok (.aload_n 0, 1) := by decide +kernel
theorem dX4_bandByPoints_11 : decode cX4_bandByPoints 11 = .ok (.iload_n 2, 1) := by decide +kernel
theorem dX4_bandByPoints_12 : decode cX4_bandByPoints 12 = .ok (.invokevirtual 123, 3) := by decide +kernel
theorem dX4_bandByPoints_15 : decode cX4_bandByPoints 15 = .ok (.iload_n 1, 1) := by decide +kernel
theorem dX4_bandByPoints_16 : decode cX4_bandByPoints 16 = .ok (.if_icmp .ne 5, 3) := by decide +kernel
theorem dX4_bandByPoints_19 : decode cX4_bandByPoints 19 = .ok (.iload_n 2, 1) := by decide +kernel
theorem dX4_bandByPoints_20 : decode cX4_bandByPoints 20 = .ok (.ireturn, 1) := by decide +kernel
theorem dX4_bandByPoints_21 : decode cX4_bandByPoints 21 = .ok (.iinc 2 1, 3) := by decide +kernel
theorem dX4_bandByPoints_24 : decode cX4_bandByPoints 24 = .ok (.goto (-22), 3) := by decide +kernel
theorem dX4_bandByPoints_27 : decode cX4_bandByPoints 27 = .ok (.iconst (-1), 1) := by decide +kernel
theorem dX4_bandByPoints_28 : decode cX4_bandByPoints 28 = .ok (.ireturn, 1) := by decide +kernel
theorem dX4_aheadByPoints_0 : decode cX4_aheadByPoints 0 = .ok (.aload_n 0, 1) := by decide +kernel
theorem dX4_aheadByPoints_1 : decode cX4_aheadByPoints 1 = .ok (.getfield 19, 3) := by decide +kernel
theorem dX4_aheadByPoints_4 : decode cX4_aheadByPoints 4 = .ok (.iload_n 1, 1) := by decide +kernel
theorem dX4_aheadByPoints_5 : decode cX4_aheadByPoints 5 = .ok (.aaload, 1) := by decide +kernel
theorem dX4_aheadByPoints_6 : decode cX4_aheadByPoints 6 = .ok (.getfield 127, 3) := by decide +kernel
theorem dX4_aheadByPoints_9 : decode cX4_aheadByPoints 9 = .ok (.istore_n 2, 1) := by decide +kernel
theorem dX4_aheadByPoints_10 : decode cX4_aheadByPoints 10 = .ok (.iconst 0, 1) := by decide +kernel
theorem dX4_aheadByPoints_11 : decode cX4_aheadByPoints 11 = .ok (.istore_n 3, 1) := by decide +kernel
theorem dX4_aheadByPoints_12 : decode cX4_aheadByPoints 12 = .ok (.iconst 0, 1) := by decide +kernel
theorem dX4_aheadByPoints_13 : decode cX4_aheadByPoints 13 = .ok (.istore 4, 2) := by decide +kernel
theorem dX4_aheadByPoints_15 : decode cX4_aheadByPoints 15 = .ok (.iload 4, 2) := by decide +kernel
theorem dX4_aheadByPoints_17 : decode cX4_aheadByPoints 17 = .ok (.aload_n 0, 1) := by decide +kernel
theorem dX4_aheadByPoints_18 : decode cX4_aheadByPoints 18 = .ok (.getfield 40, 3) := by decide +kernel
theorem dX4_aheadByPoints_21 : decode cX4_aheadByPoints 21 = .ok (.if_icmp .ge 46, 3) := by decide +kernel
theorem dX4_aheadByPoints_24 : decode cX4_aheadByPoints 24 = .ok (.aload_n 0, 1) := by decide +kernel
theorem dX4_aheadByPoints_25 : decode cX4_aheadByPoints 25 = .ok (.getfield 19, 3) := by decide +kernel
theorem dX4_aheadByPoints_28 : decode cX4_aheadByPoints 28 = .ok (.iload 4, 2) := by decide +kernel
theorem dX4_aheadByPoints_30 : decode cX4_aheadByPoints 30 = .ok (.aaload, 1) := by decide +kernel
theorem dX4_aheadByPoints_31 : decode cX4_aheadByPoints 31 = .ok (.getfield 127, 3) := by decide +kernel
theorem dX4_aheadByPoints_34 : decode cX4_aheadByPoints 34 = .ok (.iload_n 2, 1) := by decide +kernel
theorem dX4_aheadByPoints_35 : decode cX4_aheadByPoints 35 = .ok (.if_icmp .gt 23, 3) := by decide +kernel
theorem dX4_aheadByPoints_38 : decode cX4_aheadByPoints 38 = .ok (.aload_n 0, 1) := by decide +kernel
theorem dX4_aheadByPoints_39 : decode cX4_aheadByPoints 39 = .ok (.getfield 19, 3) := by decide +kernel
theorem dX4_aheadByPoints_42 : decode cX4_aheadByPoints 42 = .ok (.iload 4, 2) := by decide +kernel
theorem dX4_aheadByPoints_44 : decode cX4_aheadByPoints 44 = .ok (.aaload, 1) := by decide +kernel
theorem dX4_aheadByPoints_45 : decode cX4_aheadByPoints 45 = .ok (.getfield 127, 3) := by decide +kernel
theorem dX4_aheadByPoints_48 : decode cX4_aheadByPoints 48 = .ok (.iload_n 2, 1) := by decide +kernel
theorem dX4_aheadByPoints_49 : decode cX4_aheadByPoints 49 = .ok (.if_icmp .ne 12, 3) := by decide +kernel
theorem dX4_aheadByPoints_52 : decode cX4_aheadByPoints 52 = .ok (.iload 4, 2) := by decide +kernel
theorem dX4_aheadByPoints_54 : decode cX4_aheadByPoints 54 = .ok (.iload_n 1, 1) := by decide +kernel
theorem dX4_aheadByPoints_55 : decode cX4_aheadByPoints 55 = .ok (.if_icmp .ge 6, 3) := by decide +kernel
theorem dX4_aheadByPoints_58 : decode cX4_aheadByPoints 58 = .ok (.iinc 3 1, 3) := by decide +kernel
theorem dX4_aheadByPoints_61 : decode cX4_aheadByPoints 61 = .ok (.iinc 4 1, 3) := by decide +kernel
theorem dX4_aheadByPoints_64 : decode cX4_aheadByPoints 64 = .ok (.goto (-49), 3) := by decide +kernel
theorem dX4_aheadByPoints_67 : decode cX4_aheadByPoints 67 = .ok (.iload_n 3, 1) := by decide +kernel
theorem dX4_aheadByPoints_68 : decode cX4_aheadByPoints 68 = .ok (.ireturn, 1) := by decide +kernel
theorem dX4_bestFree_0 : decode cX4_bestFree 0 = .ok (.iconst (-1), 1) := by decide +kernel
theorem dX4_bestFree_1 : decode cX4_bestFree 1 = .ok (.istore_n 2, 1) := by decide +kernel
theorem dX4_bestFree_2 : decode cX4_bestFree 2 = .ok (.iconst (-1), 1) := by decide +kernel
theorem dX4_bestFree_3 : decode cX4_bestFree 3 = .ok (.istore_n 3, 1) := by decide +kernel
theorem dX4_bestFree_4 : decode cX4_bestFree 4 = .ok (.iconst 0, 1) := by decide +kernel
theorem dX4_bestFree_5 : decode cX4_bestFree 5 = .ok (.istore 4, 2) := by decide +kernel
theorem dX4_bestFree_7 : decode cX4_bestFree 7 = .ok (.iload 4, 2) := by decide +kernel
theorem dX4_bestFree_9 : decode cX4_bestFree 9 = .ok (.aload_n 0, 1) := by decide +kernel
theorem dX4_bestFree_10 : decode cX4_bestFree 10 = .ok (.getfield 32, 3) := by decide +kernel
theorem dX4_bestFree_13 : decode cX4_bestFree 13 = .ok (.if_icmp .ge 55, 3) := by decide +kernel
theorem dX4_bestFree_16 : decode cX4_bestFree 16 = .ok (.aload_n 0, 1) := by decide +kernel
theorem dX4_bestFree_17 : decode cX4_bestFree 17 = .ok (.getfield 11, 3) := by decide +kernel
theorem dX4_bestFree_20 : decode cX4_bestFree 20 = .ok (.iload 4, 2) := by decide +kernel
theorem dX4_bestFree_22 : decode cX4_bestFree 22 = .ok (.aaload, 1) := by decide +kernel
theorem dX4_bestFree_23 : decode cX4_bestFree 23 = .ok (.astore 5, 2) := by decide +kernel
theorem dX4_bestFree_25 : decode cX4_bestFree 25 = .ok (.aload 5, 2) := by decide +kernel
theorem dX4_bestFree_27 : decode cX4_bestFree 27 = .ok (.getfield 80, 3) := by decide +kernel
theorem dX4_bestFree_30 : decode cX4_bestFree 30 = .ok (.iconst (-1), 1) := by decide +kernel
theorem dX4_bestFree_31 : decode cX4_bestFree 31 = .ok (.if_icmp .ne 31, 3) := by decide +kernel
theorem dX4_bestFree_34 : decode cX4_bestFree 34 = .ok (.aload 5, 2) := by decide +kernel
theorem dX4_bestFree_36 : decode cX4_bestFree 36 = .ok (.invokevirtual 105, 3) := by decide +kernel
theorem dX4_bestFree_39 : decode cX4_bestFree 39 = .ok (.ifCond .eq 23, 3) := by decide +kernel
theorem dX4_bestFree_42 : decode cX4_bestFree 42 = .ok (.aload 5, 2) := by decide +kernel
theorem dX4_bestFree_44 : decode cX4_bestFree 44 = .ok (.iload_n 1, 1) := by decide +kernel
theorem dX4_bestFree_45 : decode cX4_bestFree 45 = .ok (.invokevirtual 130, 3) := by decide +kernel
theorem dX4_bestFree_48 : decode cX4_bestFree 48 = .ok (.iload_n 3, 1) := by decide +kernel
theorem dX4_bestFree_49 : decode cX4_bestFree 49 = .ok (.if_icmp .le 13, 3) := by decide +kernel
theorem dX4_bestFree_52 : decode cX4_bestFree 52 = .ok (.iload 4, 2) := by decide +kernel
theorem dX4_bestFree_54 : decode cX4_bestFree 54 = .ok (.istore_n 2, 1) := by decide +kernel
theorem dX4_bestFree_55 : decode cX4_bestFree 55 = .ok (.aload 5, 2) := by decide +kernel
theorem dX4_bestFree_57 : decode cX4_bestFree 57 = .ok (.iload_n 1, 1) := by decide +kernel
theorem dX4_bestFree_58 : decode cX4_bestFree 58 = .ok (.invokevirtual 130, 3) := by decide +kernel
theorem dX4_bestFree_61 : decode cX4_bestFree 61 = .ok (.istore_n 3, 1) := by decide +kernel
theorem dX4_bestFree_62 : decode cX4_bestFree 62 = .ok (.iinc 4 1, 3) := by decide +kernel
theorem dX4_bestFree_65 : decode cX4_bestFree 65 = .ok (.goto (-58), 3) := by decide +kernel
theorem dX4_bestFree_68 : decode cX4_bestFree 68 = .ok (.iload_n 2, 1) := by decide +kernel
theorem dX4_bestFree_69 : decode cX4_bestFree 69 = .ok (.ireturn, 1) := by decide +kernel
theorem dX4_meanMarks_0 : decode cX4_meanMarks 0 = .ok (.iconst 0, 1) := by decide +kernel
theorem dX4_meanMarks_1 : decode cX4_meanMarks 1 = .ok (.istore_n 1, 1) := by decide +kernel
theorem dX4_meanMarks_2 : decode cX4_meanMarks 2 = .ok (.iconst 0, 1) := by decide +kernel
theorem dX4_meanMarks_3 : decode cX4_meanMarks 3 = .ok (.istore_n 2, 1) := by decide +kernel
theorem dX4_meanMarks_4 : decode cX4_meanMarks 4 = .ok (.iconst 0, 1) := by decide +kernel
theorem dX4_meanMarks_5 : decode cX4_meanMarks 5 = .ok (.istore_n 3, 1) := by decide +kernel
theorem dX4_meanMarks_6 : decode cX4_meanMarks 6 = .ok (.iload_n 3, 1) := by decide +kernel
theorem dX4_meanMarks_7 : decode cX4_meanMarks 7 = .ok (.aload_n 0, 1) := by decide +kernel
theorem dX4_meanMarks_8 : decode cX4_meanMarks 8 = .ok (.getfield 40, 3) := by decide +kernel
theorem dX4_meanMarks_11 : decode cX4_meanMarks 11 = .ok (.if_icmp .ge 37, 3) := by decide +kernel
theorem dX4_meanMarks_14 : decode cX4_meanMarks 14 = .ok (.aload_n 0, 1) := by decide +kernel
theorem dX4_meanMarks_15 : decode cX4_meanMarks 15 = .ok (.getfield 19, 3) := by decide +kernel
theorem dX4_meanMarks_18 : decode cX4_meanMarks 18 = .ok (.iload_n 3, 1) := by decide +kernel
theorem dX4_meanMarks_19 : decode cX4_meanMarks 19 = .ok (.aaload, 1) := by decide +kernel
theorem dX4_meanMarks_20 : decode cX4_meanMarks 20 = .ok (.getfield 133, 3) := by decide +kernel
theorem dX4_meanMarks_23 : decode cX4_meanMarks 23 = .ok (.iconst (-1), 1) := by decide +kernel
theorem dX4_meanMarks_24 : decode cX4_meanMarks 24 = .ok (.if_icmp .eq 18, 3) := by decide +kernel
theorem dX4_meanMarks_27 : decode cX4_meanMarks 27 = .ok (.iload_n 1, 1) := by decide +kernel
theorem dX4_meanMarks_28 : decode cX4_meanMarks 28 = .ok (.aload_n 0, 1) := by decide +kernel
theorem dX4_meanMarks_29 : decode cX4_meanMarks 29 = .ok (.getfield 19, 3) := by decide +kernel
theorem dX4_meanMarks_32 : decode cX4_meanMarks 32 = .ok (.iload_n 3, 1) := by decide +kernel
theorem dX4_meanMarks_33 : decode cX4_meanMarks 33 = .ok (.aaload, 1) := by decide +kernel
theorem dX4_meanMarks_34 : decode cX4_meanMarks 34 = .ok (.getfield 133, 3) := by decide +kernel
theorem dX4_meanMarks_37 : decode cX4_meanMarks 37 = .ok (.iadd, 1) := by decide +kernel
theorem dX4_meanMarks_38 : decode cX4_meanMarks 38 = .ok (.istore_n 1, 1) := by decide +kernel
theorem dX4_meanMarks_39 : decode cX4_meanMarks 39 = .ok (.iinc 2 1, 3) := by decide +kernel
theorem dX4_meanMarks_42 : decode cX4_meanMarks 42 = .ok (.iinc 3 1, 3) := by decide +kernel
theorem dX4_meanMarks_45 : decode cX4_meanMarks 45 = .ok (.goto (-39), 3) := by decide +kernel
theorem dX4_meanMarks_48 : decode cX4_meanMarks 48 = .ok (.iload_n 2, 1) := by decide +kernel
theorem dX4_meanMarks_49 : decode cX4_meanMarks 49 = .ok (.ifCond .ne 7, 3) := by decide +kernel
theorem dX4_meanMarks_52 : decode cX4_meanMarks 52 = .ok (.dconst 0, 1) := by decide +kernel
theorem dX4_meanMarks_53 : decode cX4_meanMarks 53 = .ok (.goto 8, 3) := by decide +kernel
theorem dX4_meanMarks_56 : decode cX4_meanMarks 56 = .ok (.iload_n 1, 1) := by decide +kernel
theorem dX4_meanMarks_57 : decode cX4_meanMarks 57 = .ok (.i2d, 1) := by decide +kernel
theorem dX4_meanMarks_58 : decode cX4_meanMarks 58 = .ok (.iload_n 2, 1) := by decide +kernel
theorem dX4_meanMarks_59 : decode cX4_meanMarks 59 = .ok (.i2d, 1) := by decide +kernel
theorem dX4_meanMarks_60 : decode cX4_meanMarks 60 = .ok (.ddiv, 1) := by decide +kernel
theorem dX4_meanMarks_61 : decode cX4_meanMarks 61 = .ok (.dreturn, 1) := by decide +kernel
theorem dX4_checksum_0 : decode cX4_checksum 0 = .ok (.ldc2_w 136, 3) := by decide +kernel
theorem dX4_checksum_3 : decode cX4_checksum 3 = .ok (.lstore_n 1, 1) := by decide +kernel
theorem dX4_checksum_4 : decode cX4_checksum 4 = .ok (.iconst 0, 1) := by decide +kernel
theorem dX4_checksum_5 : decode cX4_checksum 5 = .ok (.istore_n 3, 1) := by decide +kernel
theorem dX4_checksum_6 : decode cX4_checksum 6 = .ok (.iload_n 3, 1) := by decide +kernel
theorem dX4_checksum_7 : decode cX4_checksum 7 = .ok (.bipush 7, 2) := by decide +kernel
theorem dX4_checksum_9 : decode cX4_checksum 9 = .ok (.if_icmp .ge 22, 3) := by decide +kernel
theorem dX4_checksum_12 : decode cX4_checksum 12 = .ok (.lload_n 1, 1) := by decide +kernel
theorem dX4_checksum_13 : decode cX4_checksum 13 = .ok (.ldc2_w 138, 3) := by decide +kernel
theorem dX4_checksum_16 : decode cX4_checksum 16 = .ok (.lmul, 1) := by decide +kernel
theorem dX4_checksum_17 : decode cX4_checksum 17 = .ok (.aload_n 0, 1) := by decide +kernel
theorem dX4_checksum_18 : decode cX4_checksum 18 = .ok (.iload_n 3, 1) := by decide +kernel
theorem dX4_checksum_19 : decode cX4_checksum 19 = .ok (.invokevirtual 140, 3) := by decide +kernel
theorem dX4_checksum_22 : decode cX4_checksum 22 = .ok (.i2l, 1) := by decide +kernel
theorem dX4_checksum_23 : decode cX4_checksum 23 = .ok (.ladd, 1) := by decide +kernel
theorem dX4_checksum_24 : decode cX4_checksum 24 = .ok (.lstore_n 1, 1) := by decide +kernel
theorem dX4_checksum_25 : decode cX4_checksum 25 = .ok (.iinc 3 1, 3) := by decide +kernel
theorem dX4_checksum_28 : decode cX4_checksum 28 = .ok (.goto (-22), 3) := by decide +kernel
theorem dX4_checksum_31 : decode cX4_checksum 31 = .ok (.iconst 0, 1) := by decide +kernel
theorem dX4_checksum_32 : decode cX4_checksum 32 = .ok (.istore_n 3, 1) := by decide +kernel
theorem dX4_checksum_33 : decode cX4_checksum 33 = .ok (.iload_n 3, 1) := by decide +kernel
theorem dX4_checksum_34 : decode cX4_checksum 34 = .ok (.iconst 4, 1) := by decide +kernel
theorem dX4_checksum_35 : decode cX4_checksum 35 = .ok (.if_icmp .ge 37, 3) := by decide +kernel
theorem dX4_checksum_38 : decode cX4_checksum 38 = .ok (.lload_n 1, 1) := by decide +kernel
theorem dX4_checksum_39 : decode cX4_checksum 39 = .ok (.ldc2_w 138, 3) := by decide +kernel
theorem dX4_checksum_42 : decode cX4_checksum 42 = .ok (.lmul, 1) := by decide +kernel
theorem dX4_checksum_43 : decode cX4_checksum 43 = .ok (.aload_n 0, 1) := by decide +kernel
theorem dX4_checksum_44 : decode cX4_checksum 44 = .ok (.getfield 23, 3) := by decide +kernel
theorem dX4_checksum_47 : decode cX4_checksum 47 = .ok (.iload_n 3, 1) := by decide +kernel
theorem dX4_checksum_48 : decode cX4_checksum 48 = .ok (.iaload, 1) := by decide +kernel
theorem dX4_checksum_49 : decode cX4_checksum 49 = .ok (.i2l, 1) := by decide +kernel
theorem dX4_checksum_50 : decode cX4_checksum 50 = .ok (.ladd, 1) := by decide +kernel
theorem dX4_checksum_51 : decode cX4_checksum 51 = .ok (.lstore_n 1, 1) := by decide +kernel
theorem dX4_checksum_52 : decode cX4_checksum 52 = .ok (.lload_n 1, 1) := by decide +kernel
theorem dX4_checksum_53 : decode cX4_checksum 53 = .ok (.ldc2_w 138, 3) := by decide +kernel
theorem dX4_checksum_56 : decode cX4_checksum 56 = .ok (.lmul, 1) := by decide +kernel
theorem dX4_checksum_57 : decode cX4_checksum 57 = .ok (.aload_n 0, 1) := by decide +kernel
theorem dX4_checksum_58 : decode cX4_checksum 58 = .ok (.getfield 27, 3) := by decide +kernel
theorem dX4_checksum_61 : decode cX4_checksum 61 = .ok (.iload_n 3, 1) := by decide +kernel
theorem dX4_checksum_62 : decode cX4_checksum 62 = .ok (.iaload, 1) := by decide +kernel
theorem dX4_checksum_63 : decode cX4_checksum 63 = .ok (.i2l, 1) := by decide +kernel
theorem dX4_checksum_64 : decode cX4_checksum 64 = .ok (.ladd, 1) := by decide +kernel
theorem dX4_checksum_65 : decode cX4_checksum 65 = .ok (.lstore_n 1, 1) := by decide +kernel
theorem dX4_checksum_66 : decode cX4_checksum 66 = .ok (.iinc 3 1, 3) := by decide +kernel
theorem dX4_checksum_69 : decode cX4_checksum 69 = .ok (.goto (-36), 3) := by decide +kernel
theorem dX4_checksum_72 : decode cX4_checksum 72 = .ok (.iconst 0, 1) := by decide +kernel
theorem dX4_checksum_73 : decode cX4_checksum 73 = .ok (.istore_n 3, 1) := by decide +kernel
theorem dX4_checksum_74 : decode cX4_checksum 74 = .ok (.iload_n 3, 1) := by decide +kernel
theorem dX4_checksum_75 : decode cX4_checksum 75 = .ok (.aload_n 0, 1) := by decide +kernel
theorem dX4_checksum_76 : decode cX4_checksum 76 = .ok (.getfield 32, 3) := by decide +kernel
theorem dX4_checksum_79 : decode cX4_checksum 79 = .ok (.if_icmp .ge 44, 3) := by decide +kernel
theorem dX4_checksum_82 : decode cX4_checksum 82 = .ok (.iconst 0, 1) := by decide +kernel
theorem dX4_checksum_83 : decode cX4_checksum 83 = .ok (.istore 4, 2) := by decide +kernel
theorem dX4_checksum_85 : decode cX4_checksum 85 = .ok (.iload 4, 2) := by decide +kernel
theorem dX4_checksum_87 : decode cX4_checksum 87 = .ok (.bipush 10, 2) := by decide +kernel
theorem dX4_checksum_89 : decode cX4_checksum 89 = .ok (.if_icmp .ge 28, 3) := by decide +kernel
theorem dX4_checksum_92 : decode cX4_checksum 92 = .ok (.lload_n 1, 1) := by decide +kernel
theorem dX4_checksum_93 : decode cX4_checksum 93 = .ok (.ldc2_w 138, 3) := by decide +kernel
theorem dX4_checksum_96 : decode cX4_checksum 96 = .ok (.lmul, 1) := by decide +kernel
theorem dX4_checksum_97 : decode cX4_checksum 97 = .ok (.aload_n 0, 1) := by decide +kernel
theorem dX4_checksum_98 : decode cX4_checksum 98 = .ok (.getfield 11, 3) := by decide +kernel
theorem dX4_checksum_101 : decode cX4_checksum 101 = .ok (.iload_n 3, 1) := by decide +kernel
theorem dX4_checksum_102 : decode cX4_checksum 102 = .ok (.aaload, 1) := by decide +kernel
theorem dX4_checksum_103 : decode cX4_checksum 103 = .ok (.iload 4, 2) := by decide +kernel
theorem dX4_checksum_105 : decode cX4_checksum 105 = .ok (.invokevirtual 143, 3) := by decide +kernel
theorem dX4_checksum_108 : decode cX4_checksum 108 = .ok (.i2l, 1) := by decide +kernel
theorem dX4_checksum_109 : decode cX4_checksum 109 = .ok (.ladd, 1) := by decide +kernel
theorem dX4_checksum_110 : decode cX4_checksum 110 = .ok (.lstore_n 1, 1) := by decide +kernel
theorem dX4_checksum_111 : decode cX4_checksum 111 = .ok (.iinc 4 1, 3) := by decide +kernel
theorem dX4_checksum_114 : decode cX4_checksum 114 = .ok (.goto (-29), 3) := by decide +kernel
theorem dX4_checksum_117 : decode cX4_checksum 117 = .ok (.iinc 3 1, 3) := by decide +kernel
theorem dX4_checksum_120 : decode cX4_checksum 120 = .ok (.goto (-46), 3) := by decide +kernel
theorem dX4_checksum_123 : decode cX4_checksum 123 = .ok (.iconst 0, 1) := by decide +kernel
theorem dX4_checksum_124 : decode cX4_checksum 124 = .ok (.istore_n 3, 1) := by decide +kernel
theorem dX4_checksum_125 : decode cX4_checksum 125 = .ok (.iload_n 3, 1) := by decide +kernel
theorem dX4_checksum_126 : decode cX4_checksum 126 = .ok (.aload_n 0, 1) := by decide +kernel
theorem dX4_checksum_127 : decode cX4_checksum 127 = .ok (.getfield 40, 3) := by decide +kernel
theorem dX4_checksum_130 : decode cX4_checksum 130 = .ok (.if_icmp .ge 21, 3) := by decide +kernel
theorem dX4_checksum_133 : decode cX4_checksum 133 = .ok (.aload_n 0, 1) := by decide +kernel
theorem dX4_checksum_134 : decode cX4_checksum 134 = .ok (.lload_n 1, 1) := by decide +kernel
theorem dX4_checksum_135 : decode cX4_checksum 135 = .ok (.aload_n 0, 1) := by decide +kernel
theorem dX4_checksum_136 : decode cX4_checksum 136 = .ok (.getfield 19, 3) := by decide +kernel
theorem dX4_checksum_139 : decode cX4_checksum 139 = .ok (.iload_n 3, 1) := by decide +kernel
theorem dX4_checksum_140 : decode cX4_checksum 140 = .ok (.aaload, 1) := by decide +kernel
theorem dX4_checksum_141 : decode cX4_checksum 141 = .ok (.invokevirtual 144, 3) := by decide +kernel
theorem dX4_checksum_144 : decode cX4_checksum 144 = .ok (.lstore_n 1, 1) := by decide +kernel
theorem dX4_checksum_145 : decode cX4_checksum 145 = .ok (.iinc 3 1, 3) := by decide +kernel
theorem dX4_checksum_148 : decode cX4_checksum 148 = .ok (.goto (-23), 3) := by decide +kernel
theorem dX4_checksum_151 : decode cX4_checksum 151 = .ok (.lload_n 1, 1) := by decide +kernel
theorem dX4_checksum_152 : decode cX4_checksum 152 = .ok (.lreturn, 1) := by decide +kernel
theorem dX4_withBand_0 : decode cX4_withBand 0 = .ok (.lload_n 1, 1) := by decide +kernel
theorem dX4_withBand_1 : decode cX4_withBand 1 = .ok (.lstore 4, 2) := by decide +kernel
theorem dX4_withBand_3 : decode cX4_withBand 3 = .ok (.iconst 0, 1) := by decide +kernel
theorem dX4_withBand_4 : decode cX4_withBand 4 = .ok (.istore 6, 2) := by decide +kernel
theorem dX4_withBand_6 : decode cX4_withBand 6 = .ok (.iload 6, 2) := by decide +kernel
theorem dX4_withBand_8 : decode cX4_withBand 8 = .ok (.bipush 9, 2) := by decide +kernel
theorem dX4_withBand_10 : decode cX4_withBand 10 = .ok (.if_icmp .ge 25, 3) := by decide +kernel
theorem dX4_withBand_13 : decode cX4_withBand 13 = .ok (.lload 4, 2) := by decide +kernel
theorem dX4_withBand_15 : decode cX4_withBand 15 = .ok (.ldc2_w 138, 3) := by decide +kernel
theorem dX4_withBand_18 : decode cX4_withBand 18 = .ok (.lmul, 1) := by decide +kernel
theorem dX4_withBand_19 : decode cX4_withBand 19 = .ok (.aload_n 3, 1) := by decide +kernel
theorem dX4_withBand_20 : decode cX4_withBand 20 = .ok (.iload 6, 2) := by decide +kernel
theorem dX4_withBand_22 : decode cX4_withBand 22 = .ok (.invokevirtual 148, 3) := by decide +kernel
theorem dX4_withBand_25 : decode cX4_withBand 25 = .ok (.i2l, 1) := by decide +kernel
theorem dX4_withBand_26 : decode cX4_withBand 26 = .ok (.ladd, 1) := by decide +kernel
theorem dX4_withBand_27 : decode cX4_withBand 27 = .ok (.lstore 4, 2) := by decide +kernel
theorem dX4_withBand_29 : decode cX4_withBand 29 = .ok (.iinc 6 1, 3) := by decide +kernel
theorem dX4_withBand_32 : decode cX4_withBand 32 = .ok (.goto (-26), 3) := by decide +kernel
theorem dX4_withBand_35 : decode cX4_withBand 35 = .ok (.iconst 0, 1) := by decide +kernel
theorem dX4_withBand_36 : decode cX4_withBand 36 = .ok (.istore 6, 2) := by decide +kernel
theorem dX4_withBand_38 : decode cX4_withBand 38 = .ok (.iload 6, 2) := by decide +kernel
theorem dX4_withBand_40 : decode cX4_withBand 40 = .ok (.aload_n 3, 1) := by decide +kernel
theorem dX4_withBand_41 : decode cX4_withBand 41 = .ok (.getfield 98, 3) := by decide +kernel
theorem dX4_withBand_44 : decode cX4_withBand 44 = .ok (.if_icmp .ge 46, 3) := by decide +kernel
theorem dX4_withBand_47 : decode cX4_withBand 47 = .ok (.iconst 0, 1) := by decide +kernel
theorem dX4_withBand_48 : decode cX4_withBand 48 = .ok (.istore 7, 2) := by decide +kernel
theorem dX4_withBand_50 : decode cX4_withBand 50 = .ok (.iload 7, 2) := by decide +kernel
theorem dX4_withBand_52 : decode cX4_withBand 52 = .ok (.iconst 3, 1) := by decide +kernel
theorem dX4_withBand_53 : decode cX4_withBand 53 = .ok (.if_icmp .ge 31, 3) := by decide +kernel
theorem dX4_withBand_56 : decode cX4_withBand 56 = .ok (.lload 4, 2) := by decide +kernel
theorem dX4_withBand_58 : decode cX4_withBand 58 = .ok (.ldc2_w 138, 3) := by decide +kernel
theorem dX4_withBand_61 : decode cX4_withBand 61 = .ok (.lmul, 1) := by decide +kernel
theorem dX4_withBand_62 : decode cX4_withBand 62 = .ok (.aload_n 3, 1) := by decide +kernel
theorem dX4_withBand_63 : decode cX4_withBand 63 = .ok (.getfield 101, 3) := by decide +kernel
theorem dX4_withBand_66 : decode cX4_withBand 66 = .ok (.iload 6, 2) := by decide +kernel
theorem dX4_withBand_68 : decode cX4_withBand 68 = .ok (.aaload, 1) := by decide +kernel
theorem dX4_withBand_69 : decode cX4_withBand 69 = .ok (.iload 7, 2) := by decide +kernel
theorem dX4_withBand_71 : decode cX4_withBand 71 = .ok (.invokevirtual 149, 3) := by decide +kernel
theorem dX4_withBand_74 : decode cX4_withBand 74 = .ok (.i2l, 1) := by decide +kernel
theorem dX4_withBand_75 : decode cX4_withBand 75 = .ok (.ladd, 1) := by decide +kernel
theorem dX4_withBand_76 : decode cX4_withBand 76 = .ok (.lstore 4, 2) := by decide +kernel
theorem dX4_withBand_78 : decode cX4_withBand 78 = .ok (.iinc 7 1, 3) := by decide +kernel
theorem dX4_withBand_81 : decode cX4_withBand 81 = .ok (.goto (-31), 3) := by decide +kernel
theorem dX4_withBand_84 : decode cX4_withBand 84 = .ok (.iinc 6 1, 3) := by decide +kernel
theorem dX4_withBand_87 : decode cX4_withBand 87 = .ok (.goto (-49), 3) := by decide +kernel
theorem dX4_withBand_90 : decode cX4_withBand 90 = .ok (.lload 4, 2) := by decide +kernel
theorem dX4_withBand_92 : decode cX4_withBand 92 = .ok (.lreturn, 1) := by decide +kernel
theorem dX5_init_0 : decode cX5_init 0 = .ok (.aload_n 0, 1) := by decide +kernel
theorem dX5_init_1 : decode cX5_init 1 = .ok (.invokespecial 1, 3) := by decide +kernel
theorem dX5_init_4 : decode cX5_init 4 = .ok (.aload_n 0, 1) := by decide +kernel
theorem dX5_init_5 : decode cX5_init 5 = .ok (.new 7, 3) := by decide +kernel
theorem dX5_init_8 : decode cX5_init 8 = .ok (.dup, 1) := by decide +kernel
theorem dX5_init_9 : decode cX5_init 9 = .ok (.invokespecial 9, 3) := by decide +kernel
theorem dX5_init_12 : decode cX5_init 12 = .ok (.putfield 10, 3) := by decide +kernel
theorem dX5_init_15 : decode cX5_init 15 = .ok (.aload_n 0, 1) := by decide +kernel
theorem dX5_init_16 : decode cX5_init 16 = .ok (.new 16, 3) := by decide +kernel
theorem dX5_init_19 : decode cX5_init 19 = .ok (.dup, 1) := by decide +kernel
theorem dX5_init_20 : decode cX5_init 20 = .ok (.aload_n 0, 1) := by decide +kernel
theorem dX5_init_21 : decode cX5_init 21 = .ok (.getfield 10, 3) := by decide +kernel
theorem dX5_init_24 : decode cX5_init 24 = .ok (.invokespecial 18, 3) := by decide +kernel
theorem dX5_init_27 : decode cX5_init 27 = .ok (.putfield 21, 3) := by decide +kernel
theorem dX5_init_30 : decode cX5_init 30 = .ok (.aload_n 0, 1) := by decide +kernel
theorem dX5_init_31 : decode cX5_init 31 = .ok (.new 7, 3) := by decide +kernel
theorem dX5_init_34 : decode cX5_init 34 = .ok (.dup, 1) := by decide +kernel
theorem dX5_init_35 : decode cX5_init 35 = .ok (.invokespecial 9, 3) := by decide +kernel
theorem dX5_init_38 : decode cX5_init 38 = .ok (.putfield 25, 3) := by decide +kernel
theorem dX5_init_41 : decode cX5_init 41 = .ok (.aload_n 0, 1) := by decide +kernel
theorem dX5_init_42 : decode cX5_init 42 = .ok (.new 16, 3) := by decide +kernel
theorem dX5_init_45 : decode cX5_init 45 = .ok (.dup, 1) := by decide +kernel
theorem dX5_init_46 : decode cX5_init 46 = .ok (.aload_n 0, 1) := by decide +kernel
theorem dX5_init_47 : decode cX5_init 47 = .ok (.getfield 25, 3) := by decide +kernel
theorem dX5_init_50 : decode cX5_init 50 = .ok (.invokespecial 18, 3) := by decide +kernel
theorem dX5_init_53 : decode cX5_init 53 = .ok (.putfield 28, 3) := by decide +kernel
theorem dX5_init_56 : decode cX5_init 56 = .ok (.return_, 1) := by decide +kernel
theorem dX5_addPlayer_0 : decode cX5_addPlayer 0 = .ok (.iload_n 1, 1) := by decide +kernel
theorem dX5_addPlayer_1 : decode cX5_addPlayer 1 = .ok (.invokestatic 31, 3) := by decide +kernel
theorem dX5_addPlayer_4 : decode cX5_addPlayer 4 = .ok (.ifCond .eq 25, 3) := by decide +kernel
theorem dX5_addPlayer_7 : decode cX5_addPlayer 7 = .ok (.iload_n 2, 1) := by decide +kernel
theorem dX5_addPlayer_8 : decode cX5_addPlayer 8 = .ok (.invokestatic 31, 3) := by decide +kernel
theorem dX5_addPlayer_11 : decode cX5_addPlayer 11 = .ok (.ifCond .eq 18, 3) := by decide +kernel
theorem dX5_addPlayer_14 : decode cX5_addPlayer 14 = .ok (.iload_n 3, 1) := by decide +kernel
theorem dX5_addPlayer_15 : decode cX5_addPlayer 15 = .ok (.invokestatic 31, 3) := by decide +kernel
theorem dX5_addPlayer_18 : decode cX5_addPlayer 18 = .ok (.ifCond .eq 11, 3) := by decide +kernel
theorem dX5_addPlayer_21 : decode cX5_addPlayer 21 = .ok (.iload 4, 2) := by decide +kernel
theorem dX5_addPlayer_23 : decode cX5_addPlayer 23 = .ok (.invokestatic 31, 3) := by decide +kernel
theorem dX5_addPlayer_26 : decode cX5_addPlayer 26 = .ok (.ifCond .ne 13, 3) := by decide +kernel
theorem dX5_addPlayer_29 : decode cX5_addPlayer 29 = .ok (.new 35, 3) := by decide +kernel
theorem dX5_addPlayer_32 : decode cX5_addPlayer 32 = .ok (.dup, 1) := by decide +kernel
theorem dX5_addPlayer_33 : decode cX5_addPlayer 33 = .ok (.ldc 37, 2) := by decide +kernel
theorem dX5_addPlayer_35 : decode cX5_addPlayer 35 = .ok (.invokespecial 39, 3) := by decide +kernel
theorem dX5_addPlayer_38 : decode cX5_addPlayer 38 = .ok (.athrow, 1) := by decide +kernel
theorem dX5_addPlayer_39 : decode cX5_addPlayer 39 = .ok (.aload_n 0, 1) := by decide +kernel
theorem dX5_addPlayer_40 : decode cX5_addPlayer 40 = .ok (.getfield 10, 3) := by decide +kernel
theorem dX5_addPlayer_43 : decode cX5_addPlayer 43 = .ok (.getfield 42, 3) := by decide +kernel
theorem dX5_addPlayer_46 : decode cX5_addPlayer 46 = .ok (.bipush 24, 2) := by decide +kernel
theorem dX5_addPlayer_48 : decode cX5_addPlayer 48 = .ok (.if_icmp .lt 13, 3) := by decide +kernel
theorem dX5_addPlayer_51 : decode cX5_addPlayer 51 = .ok (.new 46, 3) := by decide +kernel
theorem dX5_addPlayer_54 : decode cX5_addPlayer 54 = .ok (.dup, 1) := by decide +kernel
theorem dX5_addPlayer_55 : decode cX5_addPlayer 55 = .ok (.ldc 48, 2) := by decide +kernel
theorem dX5_addPlayer_57 : decode cX5_addPlayer 57 = .ok (.invokespecial 50, 3) := by decide +kernel
theorem dX5_addPlayer_60 : decode cX5_addPlayer 60 = .ok (.athrow, 1) := by decide +kernel
theorem dX5_addPlayer_61 : decode cX5_addPlayer 61 = .ok (.aload_n 0, 1) := by decide +kernel
theorem dX5_addPlayer_62 : decode cX5_addPlayer 62 = .ok (.getfield 10, 3) := by decide +kernel
theorem dX5_addPlayer_65 : decode cX5_addPlayer 65 = .ok (.iload_n 1, 1) := by decide +kernel
theorem dX5_addPlayer_66 : decode cX5_addPlayer 66 = .ok (.iload_n 2, 1) := by decide +kernel
theorem dX5_addPlayer_67 : decode cX5_addPlayer 67 = .ok (.iload_n 3, 1) := by decide +kernel
theorem dX5_addPlayer_68 : decode cX5_addPlayer 68 = .ok (.iload 4, 2) := by decide +kernel
theorem dX5_addPlayer_70 : decode cX5_addPlayer 70 = .ok (.invokevirtual 51, 3) := by decide +kernel
theorem dX5_addPlayer_73 : decode cX5_addPlayer 73 = .ok (.ireturn, 1) := by decide +kernel
theorem dX5_found_0 : decode cX5_found 0 = .ok (.iload_n 1, 1) := by decide +kernel
theorem dX5_found_1 : decode cX5_found 1 = .ok (.invokestatic 55, 3) := by decide +kernel
theorem dX5_found_4 : decode cX5_found 4 = .ok (.istore_n 2, 1) := by decide +kernel
theorem dX5_found_5 : decode cX5_found 5 = .ok (.iload_n 2, 1) := by decide +kernel
theorem dX5_found_6 : decode cX5_found 6 = .ok (.ifCond .ne 13, 3) := by decide +kernel
theorem dX5_found_9 : decode cX5_found 9 = .ok (.new 35, 3) := by decide +kernel
theorem dX5_found_12 : decode cX5_found 12 = .ok (.dup, 1) := by decide +kernel
theorem dX5_found_13 : decode cX5_found 13 = .ok (.ldc 59, 2) := by decide +kernel
theorem dX5_found_15 : decode cX5_found 15 = .ok (.invokespecial 39, 3) := by decide +kernel
theorem dX5_found_18 : decode cX5_found 18 = .ok (.athrow, 1) := by decide +kernel
theorem dX5_found_19 : decode cX5_found 19 = .ok (.aload_n 0, 1) := by decide +kernel
theorem dX5_found_20 : decode cX5_found 20 = .ok (.getfield 10, 3) := by decide +kernel
theorem dX5_found_23 : decode cX5_found 23 = .ok (.getfield 61, 3) := by decide +kernel
theorem dX5_found_26 : decode cX5_found 26 = .ok (.bipush 6, 2) := by decide +kernel
theorem dX5_found_28 : decode cX5_found 28 = .ok (.if_icmp .lt 13, 3) := by decide +kernel
theorem dX5_found_31 : decode cX5_found 31 = .ok (.new 46, 3) := by decide +kernel
theorem dX5_found_34 : decode cX5_found 34 = .ok (.dup, 1) := by decide +kernel
theorem dX5_found_35 : decode cX5_found 35 = .ok (.ldc 64, 2) := by decide +kernel
theorem dX5_found_37 : decode cX5_found 37 = .ok (.invokespecial 50, 3) := by decide +kernel
theorem dX5_found_40 : decode cX5_found 40 = .ok (.athrow, 1) := by decide +kernel
theorem dX5_found_41 : decode cX5_found 41 = .ok (.aload_n 0, 1) := by decide +kernel
theorem dX5_found_42 : decode cX5_found 42 = .ok (.getfield 10, 3) := by decide +kernel
theorem dX5_found_45 : decode cX5_found 45 = .ok (.iload_n 1, 1) := by decide +kernel
theorem dX5_found_46 : decode cX5_found 46 = .ok (.iload_n 2, 1) := by decide +kernel
theorem dX5_found_47 : decode cX5_found 47 = .ok (.invokevirtual 66, 3) := by decide +kernel
theorem dX5_found_50 : decode cX5_found 50 = .ok (.ireturn, 1) := by decide +kernel
theorem dX5_seat_0 : decode cX5_seat 0 = .ok (.aload_n 0, 1) := by decide +kernel
theorem dX5_seat_1 : decode cX5_seat 1 = .ok (.iload_n 1, 1) := by decide +kernel
theorem dX5_seat_2 : decode cX5_seat 2 = .ok (.iload_n 2, 1) := by decide +kernel
theorem dX5_seat_3 : decode cX5_seat 3 = .ok (.invokevirtual 70, 3) := by decide +kernel
theorem dX5_seat_6 : decode cX5_seat 6 = .ok (.astore 4, 2) := by decide +kernel
theorem dX5_seat_8 : decode cX5_seat 8 = .ok (.iload_n 3, 1) := by decide +kernel
theorem dX5_seat_9 : decode cX5_seat 9 = .ok (.iconst (-1), 1) := by decide +kernel
theorem dX5_seat_10 : decode cX5_seat 10 = .ok (.if_icmp .eq 9, 3) := by decide +kernel
theorem dX5_seat_13 : decode cX5_seat 13 = .ok (.aload_n 0, 1) := by decide +kernel
theorem dX5_seat_14 : decode cX5_seat 14 = .ok (.iload_n 3, 1) := by decide +kernel
theorem dX5_seat_15 : decode cX5_seat 15 = .ok (.invokevirtual 74, 3) := by decide +kernel
theorem dX5_seat_18 : decode cX5_seat 18 = .ok (.pop, 1) := by decide +kernel
theorem dX5_seat_19 : decode cX5_seat 19 = .ok (.aload 4, 2) := by decide +kernel
theorem dX5_seat_21 : decode cX5_seat 21 = .ok (.getfield 78, 3) := by decide +kernel
theorem dX5_seat_24 : decode cX5_seat 24 = .ok (.istore 5, 2) := by decide +kernel
theorem dX5_seat_26 : decode cX5_seat 26 = .ok (.iload_n 3, 1) := by decide +kernel
theorem dX5_seat_27 : decode cX5_seat 27 = .ok (.iconst (-1), 1) := by decide +kernel
theorem dX5_seat_28 : decode cX5_seat 28 = .ok (.if_icmp .eq 25, 3) := by decide +kernel
theorem dX5_seat_31 : decode cX5_seat 31 = .ok (.iload 5, 2) := by decide +kernel
theorem dX5_seat_33 : decode cX5_seat 33 = .ok (.iconst (-1), 1) := by decide +kernel
theorem dX5_seat_34 : decode cX5_seat 34 = .ok (.if_icmp .eq 19, 3) := by decide +kernel
theorem dX5_seat_37 : decode cX5_seat 37 = .ok (.iload 5, 2) := by decide +kernel
theorem dX5_seat_39 : decode cX5_seat 39 = .ok (.iload_n 3, 1) := by decide +kernel
theorem dX5_seat_40 : decode cX5_seat 40 = .ok (.if_icmp .eq 13, 3) := by decide +kernel
theorem dX5_seat_43 : decode cX5_seat 43 = .ok (.new 46, 3) := by decide +kernel
theorem dX5_seat_46 : decode cX5_seat 46 = .ok (.dup, 1) := by decide +kernel
theorem dX5_seat_47 : decode cX5_seat 47 = .ok (.ldc 83, 2) := by decide +kernel
theorem dX5_seat_49 : decode cX5_seat 49 = .ok (.invokespecial 50, 3) := by decide +kernel
theorem dX5_seat_52 : decode cX5_seat 52 = .ok (.athrow, 1) := by decide +kernel
theorem dX5_seat_53 : decode cX5_seat 53 = .ok (.aload_n 0, 1) := by decide +kernel
theorem dX5_seat_54 : decode cX5_seat 54 = .ok (.getfield 10, 3) := by decide +kernel
theorem dX5_seat_57 : decode cX5_seat 57 = .ok (.iload 5, 2) := by decide +kernel
theorem dX5_seat_59 : decode cX5_seat 59 = .ok (.invokevirtual 85, 3) := by decide +kernel
theorem dX5_seat_62 : decode cX5_seat 62 = .ok (.aload_n 0, 1) := by decide +kernel
theorem dX5_seat_63 : decode cX5_seat 63 = .ok (.getfield 10, 3) := by decide +kernel
theorem dX5_seat_66 : decode cX5_seat 66 = .ok (.iload_n 3, 1) := by decide +kernel
theorem dX5_seat_67 : decode cX5_seat 67 = .ok (.invokevirtual 85, 3) := by decide +kernel
theorem dX5_seat_70 : decode cX5_seat 70 = .ok (.aload_n 0, 1) := by decide +kernel
theorem dX5_seat_71 : decode cX5_seat 71 = .ok (.getfield 10, 3) := by decide +kernel
theorem dX5_seat_74 : decode cX5_seat 74 = .ok (.iload_n 1, 1) := by decide +kernel
theorem dX5_seat_75 : decode cX5_seat 75 = .ok (.iload_n 2, 1) := by decide +kernel
theorem dX5_seat_76 : decode cX5_seat 76 = .ok (.iload_n 3, 1) := by decide +kernel
theorem dX5_seat_77 : decode cX5_seat 77 = .ok (.invokevirtual 89, 3) := by decide +kernel
theorem dX5_seat_80 : decode cX5_seat 80 = .ok (.iload 5, 2) := by decide +kernel
theorem dX5_seat_82 : decode cX5_seat 82 = .ok (.ireturn, 1) := by decide +kernel
theorem dX5_change_0 : decode cX5_change 0 = .ok (.aload_n 0, 1) := by decide +kernel
theorem dX5_change_1 : decode cX5_change 1 = .ok (.iload_n 1, 1) := by decide +kernel
theorem dX5_change_2 : decode cX5_change 2 = .ok (.iload_n 2, 1) := by decide +kernel
theorem dX5_change_3 : decode cX5_change 3 = .ok (.invokevirtual 70, 3) := by decide +kernel
theorem dX5_change_6 : decode cX5_change 6 = .ok (.astore 4, 2) := by decide +kernel
theorem dX5_change_8 : decode cX5_change 8 = .ok (.aload_n 0, 1) := by decide +kernel
theorem dX5_change_9 : decode cX5_change 9 = .ok (.iload_n 1, 1) := by decide +kernel
theorem dX5_change_10 : decode cX5_change 10 = .ok (.iload_n 3, 1) := by decide +kernel
theorem dX5_change_11 : decode cX5_change 11 = .ok (.invokevirtual 70, 3) := by decide +kernel
theorem dX5_change_14 : decode cX5_change 14 = .ok (.pop, 1) := by decide +kernel
theorem dX5_change_15 : decode cX5_change 15 = .ok (.aload_n 0, 1) := by decide +kernel
theorem dX5_change_16 : decode cX5_change 16 = .ok (.getfield 10, 3) := by decide +kernel
theorem dX5_change_19 : decode cX5_change 19 = .ok (.iload_n 1, 1) := by decide +kernel
theorem dX5_change_20 : decode cX5_change 20 = .ok (.iload_n 2, 1) := by decide +kernel
theorem dX5_change_21 : decode cX5_change 21 = .ok (.iload_n 3, 1) := by decide +kernel
theorem dX5_change_22 : decode cX5_change 22 = .ok (.invokevirtual 93, 3) := by decide +kernel
theorem dX5_change_25 : decode cX5_change 25 = .ok (.aload 4, 2) := by decide +kernel
theorem dX5_change_27 : decode cX5_change 27 = .ok (.getfield 78, 3) := by decide +kernel
theorem dX5_change_30 : decode cX5_change 30 = .ok (.ireturn, 1) := by decide +kernel
theorem dX5_absent_0 : decode cX5_absent 0 = .ok (.aload_n 0, 1) := by decide +kernel
theorem dX5_absent_1 : decode cX5_absent 1 = .ok (.iload_n 1, 1) := by decide +kernel
theorem dX5_absent_2 : decode cX5_absent 2 = .ok (.invokevirtual 74, 3) := by decide +kernel
theorem dX5_absent_5 : decode cX5_absent 5 = .ok (.astore_n 3, 1) := by decide +kernel
theorem dX5_absent_6 : decode cX5_absent 6 = .ok (.iload_n 2, 1) := by decide +kernel
theorem dX5_absent_7 : decode cX5_absent 7 = .ok (.ifCond .lt 9, 3) := by decide +kernel
theorem dX5_absent_10 : decode cX5_absent 10 = .ok (.iload_n 2, 1) := by decide +kernel
theorem dX5_absent_11 : decode cX5_absent 11 = .ok (.bipush 20, 2) := by decide +kernel
theorem dX5_absent_13 : decode cX5_absent 13 = .ok (.if_icmp .le 13, 3) := by decide +kernel
theorem dX5_absent_16 : decode cX5_absent 16 = .ok (.new 35, 3) := by decide +kernel
theorem dX5_absent_19 : decode cX5_absent 19 = .ok (.dup, 1) := by decide +kernel
theorem dX5_absent_20 : decode cX5_absent 20 = .ok (.ldc 96, 2) := by decide +kernel
theorem dX5_absent_22 : decode cX5_absent 22 = .ok (.invokespecial 39, 3) := by decide +kernel
theorem dX5_absent_25 : decode cX5_absent 25 = .ok (.athrow, 1) := by decide +kernel
theorem dX5_absent_26 : decode cX5_absent 26 = .ok (.aload_n 3, 1) := by decide +kernel
theorem dX5_absent_27 : decode cX5_absent 27 = .ok (.getfield 98, 3) := by decide +kernel
theorem dX5_absent_30 : decode cX5_absent 30 = .ok (.istore 4, 2) := by decide +kernel
theorem dX5_absent_32 : decode cX5_absent 32 = .ok (.aload_n 3, 1) := by decide +kernel
theorem dX5_absent_33 : decode cX5_absent 33 = .ok (.iload_n 2, 1) := by decide +kernel
theorem dX5_absent_34 : decode cX5_absent 34 = .ok (.putfield 98, 3) := by decide +kernel
theorem dX5_absent_37 : decode cX5_absent 37 = .ok (.iload 4, 2) := by decide +kernel
theorem dX5_absent_39 : decode cX5_absent 39 = .ok (.ireturn, 1) := by decide +kernel
theorem dX5_rehearse_0 : decode cX5_rehearse 0 = .ok (.aload_n 0, 1) := by decide +kernel
theorem dX5_rehearse_1 : decode cX5_rehearse 1 = .ok (.iload_n 1, 1) := by decide +kernel
theorem dX5_rehearse_2 : decode cX5_rehearse 2 = .ok (.invokevirtual 103, 3) := by decide +kernel
theorem dX5_rehearse_5 : decode cX5_rehearse 5 = .ok (.astore_n 2, 1) := by decide +kernel
theorem dX5_rehearse_6 : decode cX5_rehearse 6 = .ok (.aload_n 2, 1) := by decide +kernel
theorem dX5_rehearse_7 : decode cX5_rehearse 7 = .ok (.iconst 3, 1) := by decide +kernel
theorem dX5_rehearse_8 : decode cX5_rehearse 8 = .ok (.invokevirtual 107, 3) := by decide +kernel
theorem dX5_rehearse_11 : decode cX5_rehearse 11 = .ok (.aload_n 0, 1) := by decide +kernel
theorem dX5_rehearse_12 : decode cX5_rehearse 12 = .ok (.getfield 10, 3) := by decide +kernel
theorem dX5_rehearse_15 : decode cX5_rehearse 15 = .ok (.aload_n 2, 1) := by decide +kernel
theorem dX5_rehearse_16 : decode cX5_rehearse 16 = .ok (.iconst 5, 1) := by decide +kernel
theorem dX5_rehearse_17 : decode cX5_rehearse 17 = .ok (.invokevirtual 112, 3) := by decide +kernel
theorem dX5_rehearse_20 : decode cX5_rehearse 20 = .ok (.aload_n 2, 1) := by decide +kernel
theorem dX5_rehearse_21 : decode cX5_rehearse 21 = .ok (.getfield 116, 3) := by decide +kernel
theorem dX5_rehearse_24 : decode cX5_rehearse 24 = .ok (.ireturn, 1) := by decide +kernel
theorem dX5_setPiece_0 : decode cX5_setPiece 0 = .ok (.iload_n 1, 1) := by decide +kernel
theorem dX5_setPiece_1 : decode cX5_setPiece 1 = .ok (.invokestatic 119, 3) := by decide +kernel
theorem dX5_setPiece_4 : decode cX5_setPiece 4 = .ok (.iload_n 2, 1) := by decide +kernel
theorem dX5_setPiece_5 : decode cX5_setPiece 5 = .ok (.ifCond .lt 9, 3) := by decide +kernel
theorem dX5_setPiece_8 : decode cX5_setPiece 8 = .ok (.iload_n 2, 1) := by decide +kernel
theorem dX5_setPiece_9 : decode cX5_setPiece 9 = .ok (.bipush 9, 2) := by decide +kernel
theorem dX5_setPiece_11 : decode cX5_setPiece 11 = .ok (.if_icmp .le 13, 3) := by decide +kernel
theorem dX5_setPiece_14 : decode cX5_setPiece 14 = .ok (.new 35, 3) := by decide +kernel
theorem dX5_setPiece_17 : decode cX5_setPiece 17 = .ok (.dup, 1) := by decide +kernel
theorem dX5_setPiece_18 : decode cX5_setPiece 18 = .ok (.ldc 122, 2) := by decide +kernel
theorem dX5_setPiece_20 : decode cX5_setPiece 20 = .ok (.invokespecial 39, 3) := by decide +kernel
theorem dX5_setPiece_23 : decode cX5_setPiece 23 = .ok (.athrow, 1) := by decide +kernel
theorem dX5_setPiece_24 : decode cX5_setPiece 24 = .ok (.aload_n 0, 1) := by decide +kernel
theorem dX5_setPiece_25 : decode cX5_setPiece 25 = .ok (.getfield 10, 3) := by decide +kernel
theorem dX5_setPiece_28 : decode cX5_setPiece 28 = .ok (.getfield 124, 3) := by decide +kernel
theorem dX5_setPiece_31 : decode cX5_setPiece 31 = .ok (.iload_n 1, 1) := by decide +kernel
theorem dX5_setPiece_32 : decode cX5_setPiece 32 = .ok (.iaload, 1) := by decide +kernel
theorem dX5_setPiece_33 : decode cX5_setPiece 33 = .ok (.istore_n 3, 1) := by decide +kernel
theorem dX5_setPiece_34 : decode cX5_setPiece 34 = .ok (.aload_n 0, 1) := by decide +kernel
theorem dX5_setPiece_35 : decode cX5_setPiece 35 = .ok (.getfield 10, 3) := by decide +kernel
theorem dX5_setPiece_38 : decode cX5_setPiece 38 = .ok (.getfield 124, 3) := by decide +kernel
theorem dX5_setPiece_41 : decode cX5_setPiece 41 = .ok (.iload_n 1, 1) := by decide +kernel
theorem dX5_setPiece_42 : decode cX5_setPiece 42 = .ok (.iload_n 2, 1) := by decide +kernel
theorem dX5_setPiece_43 : decode cX5_setPiece 43 = .ok (.iastore, 1) := by decide +kernel
theorem dX5_setPiece_44 : decode cX5_setPiece 44 = .ok (.iload_n 3, 1) := by decide +kernel
theorem dX5_setPiece_45 : decode cX5_setPiece 45 = .ok (.ireturn, 1) := by decide +kernel
theorem dX5_setTaste_0 : decode cX5_setTaste 0 = .ok (.iload_n 1, 1) := by decide +kernel
theorem dX5_setTaste_1 : decode cX5_setTaste 1 = .ok (.invokestatic 119, 3) := by decide +kernel
theorem dX5_setTaste_4 : decode cX5_setTaste 4 = .ok (.iload_n 2, 1) := by decide +kernel
theorem dX5_setTaste_5 : decode cX5_setTaste 5 = .ok (.iconst 1, 1) := by decide +kernel
theorem dX5_setTaste_6 : decode cX5_setTaste 6 = .ok (.if_icmp .lt 8, 3) := by decide +kernel
theorem dX5_setTaste_9 : decode cX5_setTaste 9 = .ok (.iload_n 2, 1) := by decide +kernel
theorem dX5_setTaste_10 : decode cX5_setTaste 10 = .ok (.iconst 5, 1) := by decide +kernel
theorem dX5_setTaste_11 : decode cX5_setTaste 11 = .ok (.if_icmp .le 13, 3) := by decide +kernel
theorem dX5_setTaste_14 : decode cX5_setTaste 14 = .ok (.new 35, 3) := by decide +kernel
theorem dX5_setTaste_17 : decode cX5_setTaste 17 = .ok (.dup, 1) := by decide +kernel
theorem dX5_setTaste_18 : decode cX5_setTaste 18 = .ok (.ldc 128, 2) := by decide +kernel
theorem dX5_setTaste_20 : decode cX5_setTaste 20 = .ok (.invokespecial 39, 3) := by decide +kernel
theorem dX5_setTaste_23 : decode cX5_setTaste 23 = .ok (.athrow, 1) := by decide +kernel
theorem dX5_setTaste_24 : decode cX5_setTaste 24 = .ok (.aload_n 0, 1) := by decide +kernel
theorem dX5_setTaste_25 : decode cX5_setTaste 25 = .ok (.getfield 10, 3) := by decide +kernel
theorem dX5_setTaste_28 : decode cX5_setTaste 28 = .ok (.getfield 130, 3) := by decide +kernel
theorem dX5_setTaste_31 : decode cX5_setTaste 31 = .ok (.iload_n 1, 1) := by decide +kernel
theorem dX5_setTaste_32 : decode cX5_setTaste 32 = .ok (.iaload, 1) := by decide +kernel
theorem dX5_setTaste_33 : decode cX5_setTaste 33 = .ok (.istore_n 3, 1) := by decide +kernel
theorem dX5_setTaste_34 : decode cX5_setTaste 34 = .ok (.aload_n 0, 1) := by decide +kernel
theorem dX5_setTaste_35 : decode cX5_setTaste 35 = .ok (.getfield 10, 3) := by decide +kernel
theorem dX5_setTaste_38 : decode cX5_setTaste 38 = .ok (.getfield 130, 3) := by decide +kernel
theorem dX5_setTaste_41 : decode cX5_setTaste 41 = .ok (.iload_n 1, 1) := by decide +kernel
theorem dX5_setTaste_42 : decode cX5_setTaste 42 = .ok (.iload_n 2, 1) := by decide +kernel
theorem dX5_setTaste_43 : decode cX5_setTaste 43 = .ok (.iastore, 1) := by decide +kernel
theorem dX5_setTaste_44 : decode cX5_setTaste 44 = .ok (.iload_n 3, 1) := by decide +kernel
theorem dX5_setTaste_45 : decode cX5_setTaste 45 = .ok (.ireturn, 1) := by decide +kernel
theorem dX5_player_0 : decode cX5_player 0 = .ok (.aload_n 0, 1) := by decide +kernel
theorem dX5_player_1 : decode cX5_player 1 = .ok (.iload_n 1, 1) := by decide +kernel
theorem dX5_player_2 : decode cX5_player 2 = .ok (.invokevirtual 74, 3) := by decide +kernel
theorem dX5_player_5 : decode cX5_player 5 = .ok (.astore_n 3, 1) := by decide +kernel
theorem dX5_player_6 : decode cX5_player 6 = .ok (.iload_n 2, 1) := by decide +kernel
theorem dX5_player_7 : decode cX5_player 7 = .ok (.bipush 10, 2) := by decide +kernel
theorem dX5_player_9 : decode cX5_player 9 = .ok (.invokestatic 133, 3) := by decide +kernel
theorem dX5_player_12 : decode cX5_player 12 = .ok (.aload_n 3, 1) := by decide +kernel
theorem dX5_player_13 : decode cX5_player 13 = .ok (.iload_n 2, 1) := by decide +kernel
theorem dX5_player_14 : decode cX5_player 14 = .ok (.invokevirtual 137, 3) := by decide +kernel
theorem dX5_player_17 : decode cX5_player 17 = .ok (.ireturn, 1) := by decide +kernel
theorem dX5_band_0 : decode cX5_band 0 = .ok (.aload_n 0, 1) := by decide +kernel
theorem dX5_band_1 : decode cX5_band 1 = .ok (.iload_n 1, 1) := by decide +kernel
theorem dX5_band_2 : decode cX5_band 2 = .ok (.invokevirtual 103, 3) := by decide +kernel
theorem dX5_band_5 : decode cX5_band 5 = .ok (.astore_n 3, 1) := by decide +kernel
theorem dX5_band_6 : decode cX5_band 6 = .ok (.iload_n 2, 1) := by decide +kernel
theorem dX5_band_7 : decode cX5_band 7 = .ok (.bipush 9, 2) := by decide +kernel
theorem dX5_band_9 : decode cX5_band 9 = .ok (.invokestatic 133, 3) := by decide +kernel
theorem dX5_band_12 : decode cX5_band 12 = .ok (.aload_n 3, 1) := by decide +kernel
theorem dX5_band_13 : decode cX5_band 13 = .ok (.iload_n 2, 1) := by decide +kernel
theorem dX5_band_14 : decode cX5_band 14 = .ok (.invokevirtual 140, 3) := by decide +kernel
theorem dX5_band_17 : decode cX5_band 17 = .ok (.ireturn, 1) := by decide +kernel
theorem dX5_chair_0 : decode cX5_chair 0 = .ok (.aload_n 0, 1) := by decide +kernel
theorem dX5_chair_1 : decode cX5_chair 1 = .ok (.iload_n 1, 1) := by decide +kernel
theorem dX5_chair_2 : decode cX5_chair 2 = .ok (.iload_n 2, 1) := by decide +kernel
theorem dX5_chair_3 : decode cX5_chair 3 = .ok (.invokevirtual 70, 3) := by decide +kernel
theorem dX5_chair_6 : decode cX5_chair 6 = .ok (.astore 4, 2) := by decide +kernel
theorem dX5_chair_8 : decode cX5_chair 8 = .ok (.iload_n 3, 1) := by decide +kernel
theorem dX5_chair_9 : decode cX5_chair 9 = .ok (.iconst 3, 1) := by decide +kernel
theorem dX5_chair_10 : decode cX5_chair 10 = .ok (.invokestatic 133, 3) := by decide +kernel
theorem dX5_chair_13 : decode cX5_chair 13 = .ok (.aload 4, 2) := by decide +kernel
theorem dX5_chair_15 : decode cX5_chair 15 = .ok (.iload_n 3, 1) := by decide +kernel
theorem dX5_chair_16 : decode cX5_chair 16 = .ok (.invokevirtual 141, 3) := by decide +kernel
theorem dX5_chair_19 : decode cX5_chair 19 = .ok (.ireturn, 1) := by decide +kernel
theorem dX5_contest_0 : decode cX5_contest 0 = .ok (.aload_n 0, 1) := by decide +kernel
theorem dX5_contest_1 : decode cX5_contest 1 = .ok (.getfield 10, 3) := by decide +kernel
theorem dX5_contest_4 : decode cX5_contest 4 = .ok (.getfield 61, 3) := by decide +kernel
theorem dX5_contest_7 : decode cX5_contest 7 = .ok (.ifCond .ne 13, 3) := by decide +kernel
theorem dX5_contest_10 : decode cX5_contest 10 = .ok (.new 46, 3) := by decide +kernel
theorem dX5_contest_13 : decode cX5_contest 13 = .ok (.dup, 1) := by decide +kernel
theorem dX5_contest_14 : decode cX5_contest 14 = .ok (.ldc 142, 2) := by decide +kernel
theorem dX5_contest_16 : decode cX5_contest 16 = .ok (.invokespecial 50, 3) := by decide +kernel
theorem dX5_contest_19 : decode cX5_contest 19 = .ok (.athrow, 1) := by decide +kernel
theorem dX5_contest_20 : decode cX5_contest 20 = .ok (.aload_n 0, 1) := by decide +kernel
theorem dX5_contest_21 : decode cX5_contest 21 = .ok (.getfield 21, 3) := by decide +kernel
theorem dX5_contest_24 : decode cX5_contest 24 = .ok (.invokevirtual 144, 3) := by decide +kernel
theorem dX5_contest_27 : decode cX5_contest 27 = .ok (.ireturn, 1) := by decide +kernel
theorem dX5_rank_0 : decode cX5_rank 0 = .ok (.iload_n 1, 1) := by decide +kernel
theorem dX5_rank_1 : decode cX5_rank 1 = .ok (.ifCond .lt 14, 3) := by decide +kernel
theorem dX5_rank_4 : decode cX5_rank 4 = .ok (.iload_n 1, 1) := by decide +kernel
theorem dX5_rank_5 : decode cX5_rank 5 = .ok (.aload_n 0, 1) := by decide +kernel
theorem dX5_rank_6 : decode cX5_rank 6 = .ok (.getfield 10, 3) := by decide +kernel
theorem dX5_rank_9 : decode cX5_rank 9 = .ok (.getfield 61, 3) := by decide +kernel
theorem dX5_rank_12 : decode cX5_rank 12 = .ok (.if_icmp .lt 13, 3) := by decide +kernel
theorem dX5_rank_15 : decode cX5_rank 15 = .ok (.new 148, 3) := by decide +kernel
theorem dX5_rank_18 : decode cX5_rank 18 = .ok (.dup, 1) := by decide +kernel
theorem dX5_rank_19 : decode cX5_rank 19 = .ok (.ldc 150, 2) := by decide +kernel
theorem dX5_rank_21 : decode cX5_rank 21 = .ok (.invokespecial 152, 3) := by decide +kernel
theorem dX5_rank_24 : decode cX5_rank 24 = .ok (.athrow, 1) := by decide +kernel
theorem dX5_rank_25 : decode cX5_rank 25 = .ok (.aload_n 0, 1) := by decide +kernel
theorem dX5_rank_26 : decode cX5_rank 26 = .ok (.getfield 10, 3) := by decide +kernel
theorem dX5_rank_29 : decode cX5_rank 29 = .ok (.iload_n 1, 1) := by decide +kernel
theorem dX5_rank_30 : decode cX5_rank 30 = .ok (.invokevirtual 153, 3) := by decide +kernel
theorem dX5_rank_33 : decode cX5_rank 33 = .ok (.ireturn, 1) := by decide +kernel
theorem dX5_count_0 : decode cX5_count 0 = .ok (.iload_n 1, 1) := by decide +kernel
theorem dX5_count_1 : decode cX5_count 1 = .ok (.bipush 7, 2) := by decide +kernel
theorem dX5_count_3 : decode cX5_count 3 = .ok (.invokestatic 133, 3) := by decide +kernel
theorem dX5_count_6 : decode cX5_count 6 = .ok (.aload_n 0, 1) := by decide +kernel
theorem dX5_count_7 : decode cX5_count 7 = .ok (.getfield 10, 3) := by decide +kernel
theorem dX5_count_10 : decode cX5_count 10 = .ok (.iload_n 1, 1) := by decide +kernel
theorem dX5_count_11 : decode cX5_count 11 = .ok (.invokevirtual 156, 3) := by decide +kernel
theorem dX5_count_14 : decode cX5_count 14 = .ok (.ireturn, 1) := by decide +kernel
theorem dX5_foresee_0 : decode cX5_foresee 0 = .ok (.aload_n 0, 1) := by decide +kernel
theorem dX5_foresee_1 : decode cX5_foresee 1 = .ok (.iload_n 1, 1) := by decide +kernel
theorem dX5_foresee_2 : decode cX5_foresee 2 = .ok (.invokevirtual 103, 3) := by decide +kernel
theorem dX5_foresee_5 : decode cX5_foresee 5 = .ok (.pop, 1) := by decide +kernel
theorem dX5_foresee_6 : decode cX5_foresee 6 = .ok (.iload_n 3, 1) := by decide +kernel
theorem dX5_foresee_7 : decode cX5_foresee 7 = .ok (.iconst 4, 1) := by decide +kernel
theorem dX5_foresee_8 : decode cX5_foresee 8 = .ok (.invokestatic 133, 3) := by decide +kernel
theorem dX5_foresee_11 : decode cX5_foresee 11 = .ok (.iload_n 2, 1) := by decide +kernel
theorem dX5_foresee_12 : decode cX5_foresee 12 = .ok (.iconst 1, 1) := by decide +kernel
theorem dX5_foresee_13 : decode cX5_foresee 13 = .ok (.if_icmp .lt 9, 3) := by decide +kernel
theorem dX5_foresee_16 : decode cX5_foresee 16 = .ok (.iload_n 2, 1) := by decide +kernel
theorem dX5_foresee_17 : decode cX5_foresee 17 = .ok (.bipush 20, 2) := by decide +kernel
theorem dX5_foresee_19 : decode cX5_foresee 19 = .ok (.if_icmp .le 13, 3) := by decide +kernel
theorem dX5_foresee_22 : decode cX5_foresee 22 = .ok (.new 35, 3) := by decide +kernel
theorem dX5_foresee_25 : decode cX5_foresee 25 = .ok (.dup, 1) := by decide +kernel
theorem dX5_foresee_26 : decode cX5_foresee 26 = .ok (.ldc 157, 2) := by decide +kernel
theorem dX5_foresee_28 : decode cX5_foresee 28 = .ok (.invokespecial 39, 3) := by decide +kernel
theorem dX5_foresee_31 : decode cX5_foresee 31 = .ok (.athrow, 1) := by decide +kernel
theorem dX5_foresee_32 : decode cX5_foresee 32 = .ok (.aload_n 0, 1) := by decide +kernel
theorem dX5_foresee_33 : decode cX5_foresee 33 = .ok (.getfield 25, 3) := by decide +kernel
theorem dX5_foresee_36 : decode cX5_foresee 36 = .ok (.aload_n 0, 1) := by decide +kernel
theorem dX5_foresee_37 : decode cX5_foresee 37 = .ok (.getfield 10, 3) := by decide +kernel
theorem dX5_foresee_40 : decode cX5_foresee 40 = .ok (.invokevirtual 159, 3) := by decide +kernel
theorem dX5_foresee_43 : decode cX5_foresee 43 = .ok (.iconst 0, 1) := by decide +kernel
theorem dX5_foresee_44 : decode cX5_foresee 44 = .ok (.istore 4, 2) := by decide +kernel
theorem dX5_foresee_46 : decode cX5_foresee 46 = .ok (.iload 4, 2) := by decide +kernel
theorem dX5_foresee_48 : decode cX5_foresee 48 = .ok (.iload_n 2, 1) := by decide +kernel
theorem dX5_foresee_49 : decode cX5_foresee 49 = .ok (.if_icmp .ge 17, 3) := by decide +kernel
theorem dX5_foresee_52 : decode cX5_foresee 52 = .ok (.aload_n 0, 1) := by decide +kernel
theorem dX5_foresee_53 : decode cX5_foresee 53 = .ok (.getfield 28, 3) := by decide +kernel
theorem dX5_foresee_56 : decode cX5_foresee 56 = .ok (.invokevirtual 144, 3) := by decide +kernel
theorem dX5_foresee_59 : decode cX5_foresee 59 = .ok (.pop, 1) := by decide +kernel
theorem dX5_foresee_60 : decode cX5_foresee 60 = .ok (.iinc 4 1, 3) := by decide +kernel
theorem dX5_foresee_63 : decode cX5_foresee 63 = .ok (.goto (-17), 3) := by decide +kernel
theorem dX5_foresee_66 : decode cX5_foresee 66 = .ok (.aload_n 0, 1) := by decide +kernel
theorem dX5_foresee_67 : decode cX5_foresee 67 = .ok (.getfield 25, 3) := by decide +kernel
theorem dX5_foresee_70 : decode cX5_foresee 70 = .ok (.iload_n 1, 1) := by decide +kernel
theorem dX5_foresee_71 : decode cX5_foresee 71 = .ok (.invokevirtual 162, 3) := by decide +kernel
theorem dX5_foresee_74 : decode cX5_foresee 74 = .ok (.astore 4, 2) := by decide +kernel
theorem dX5_foresee_76 : decode cX5_foresee 76 = .ok (.aload 4, 2) := by decide +kernel
theorem dX5_foresee_78 : decode cX5_foresee 78 = .ok (.ifnonnull 7, 3) := by decide +kernel
theorem dX5_foresee_81 : decode cX5_foresee 81 = .ok (.iconst (-1), 1) := by decide +kernel
theorem dX5_foresee_82 : decode cX5_foresee 82 = .ok (.goto 9, 3) := by decide +kernel
theorem dX5_foresee_85 : decode cX5_foresee 85 = .ok (.aload 4, 2) := by decide +kernel
theorem dX5_foresee_87 : decode cX5_foresee 87 = .ok (.iload_n 3, 1) := by decide +kernel
theorem dX5_foresee_88 : decode cX5_foresee 88 = .ok (.invokevirtual 165, 3) := by decide +kernel
theorem dX5_foresee_91 : decode cX5_foresee 91 = .ok (.ireturn, 1) := by decide +kernel
theorem dX5_advise_0 : decode cX5_advise 0 = .ok (.aload_n 0, 1) := by decide +kernel
theorem dX5_advise_1 : decode cX5_advise 1 = .ok (.iload_n 1, 1) := by decide +kernel
theorem dX5_advise_2 : decode cX5_advise 2 = .ok (.invokevirtual 103, 3) := by decide +kernel
theorem dX5_advise_5 : decode cX5_advise 5 = .ok (.pop, 1) := by decide +kernel
theorem dX5_advise_6 : decode cX5_advise 6 = .ok (.aload_n 0, 1) := by decide +kernel
theorem dX5_advise_7 : decode cX5_advise 7 = .ok (.getfield 25, 3) := by decide +kernel
theorem dX5_advise_10 : decode cX5_advise 10 = .ok (.aload_n 0, 1) := by decide +kernel
theorem dX5_advise_11 : decode cX5_advise 11 = .ok (.getfield 10, 3) := by decide +kernel
theorem dX5_advise_14 : decode cX5_advise 14 = .ok (.invokevirtual 159, 3) := by decide +kernel
theorem dX5_advise_17 : decode cX5_advise 17 = .ok (.aload_n 0, 1) := by decide +kernel
theorem dX5_advise_18 : decode cX5_advise 18 = .ok (.getfield 28, 3) := by decide +kernel
theorem dX5_advise_21 : decode cX5_advise 21 = .ok (.iload_n 1, 1) := by decide +kernel
theorem dX5_advise_22 : decode cX5_advise 22 = .ok (.invokevirtual 168, 3) := by decide +kernel
theorem dX5_advise_25 : decode cX5_advise 25 = .ok (.aload_n 0, 1) := by decide +kernel
theorem dX5_advise_26 : decode cX5_advise 26 = .ok (.getfield 28, 3) := by decide +kernel
theorem dX5_advise_29 : decode cX5_advise 29 = .ok (.iload_n 1, 1) := by decide +kernel
theorem dX5_advise_30 : decode cX5_advise 30 = .ok (.invokevirtual 171, 3) := by decide +kernel
theorem dX5_advise_33 : decode cX5_advise 33 = .ok (.ireturn, 1) := by decide +kernel
theorem dX5_free_0 : decode cX5_free 0 = .ok (.iload_n 1, 1) := by decide +kernel
theorem dX5_free_1 : decode cX5_free 1 = .ok (.invokestatic 119, 3) := by decide +kernel
theorem dX5_free_4 : decode cX5_free 4 = .ok (.aload_n 0, 1) := by decide +kernel
theorem dX5_free_5 : decode cX5_free 5 = .ok (.getfield 10, 3) := by decide +kernel
theorem dX5_free_8 : decode cX5_free 8 = .ok (.iload_n 1, 1) := by decide +kernel
theorem dX5_free_9 : decode cX5_free 9 = .ok (.invokevirtual 174, 3) := by decide +kernel
theorem dX5_free_12 : decode cX5_free 12 = .ok (.ireturn, 1) := by decide +kernel
theorem dX5_mean_0 : decode cX5_mean 0 = .ok (.aload_n 0, 1) := by decide +kernel
theorem dX5_mean_1 : decode cX5_mean 1 = .ok (.getfield 10, 3) := by decide +kernel
theorem dX5_mean_4 : decode cX5_mean 4 = .ok (.invokevirtual 177, 3) := by decide +kernel
theorem dX5_mean_7 : decode cX5_mean 7 = .ok (.dreturn, 1) := by decide +kernel
theorem dX5_digest_0 : decode cX5_digest 0 = .ok (.aload_n 0, 1) := by decide +kernel
theorem dX5_digest_1 : decode cX5_digest 1 = .ok (.getfield 10, 3) := by decide +kernel
theorem dX5_digest_4 : decode cX5_digest 4 = .ok (.invokevirtual 181, 3) := by decide +kernel
theorem dX5_digest_7 : decode cX5_digest 7 = .ok (.lreturn, 1) := by decide +kernel
theorem dX5_isSkill_0 : decode cX5_isSkill 0 = .ok (.iload_n 0, 1) := by decide +kernel
theorem dX5_isSkill_1 : decode cX5_isSkill 1 = .ok (.ifCond .lt 13, 3) := by decide +kernel
theorem dX5_isSkill_4 : decode cX5_isSkill 4 = .ok (.iload_n 0, 1) := by decide +kernel
theorem dX5_isSkill_5 : decode cX5_isSkill 5 = .ok (.bipush 9, 2) := by decide +kernel
theorem dX5_isSkill_7 : decode cX5_isSkill 7 = .ok (.if_icmp .gt 7, 3) := by decide +kernel
theorem dX5_isSkill_10 : decode cX5_isSkill 10 = .ok (.iconst 1, 1) := by decide +kernel
theorem dX5_isSkill_11 : decode cX5_isSkill 11 = .ok (.goto 4, 3) := by decide +kernel
theorem dX5_isSkill_14 : decode cX5_isSkill 14 = .ok (.iconst 0, 1) := by decide +kernel
theorem dX5_isSkill_15 : decode cX5_isSkill 15 = .ok (.ireturn, 1) := by decide +kernel
theorem dX5_seatsIn_0 : decode cX5_seatsIn 0 = .ok (.iconst 0, 1) := by decide +kernel
theorem dX5_seatsIn_1 : decode cX5_seatsIn 1 = .ok (.istore_n 1, 1) := by decide +kernel
theorem dX5_seatsIn_2 : decode cX5_seatsIn 2 = .ok (.iload_n 0, 1) := by decide +kernel
theorem dX5_seatsIn_3 : decode cX5_seatsIn 3 = .ok (.istore_n 2, 1) := by decide +kernel
theorem dX5_seatsIn_4 : decode cX5_seatsIn 4 = .ok (.iload_n 2, 1) := by decide +kernel
theorem dX5_seatsIn_5 : decode cX5_seatsIn 5 = .ok (.ifCond .le 37, 3) := by decide +kernel
theorem dX5_seatsIn_8 : decode cX5_seatsIn 8 = .ok (.iload_n 2, 1) := by decide +kernel
theorem dX5_seatsIn_9 : decode cX5_seatsIn 9 = .ok (.bipush 10, 2) := by decide +kernel
theorem dX5_seatsIn_11 : decode cX5_seatsIn 11 = .ok (.irem, 1) := by decide +kernel
theorem dX5_seatsIn_12 : decode cX5_seatsIn 12 = .ok (.istore_n 3, 1) := by decide +kernel
theorem dX5_seatsIn_13 : decode cX5_seatsIn 13 = .ok (.iload_n 3, 1) := by decide +kernel
theorem dX5_seatsIn_14 : decode cX5_seatsIn 14 = .ok (.iconst 1, 1) := by decide +kernel
theorem dX5_seatsIn_15 : decode cX5_seatsIn 15 = .ok (.if_icmp .lt 14, 3) := by decide +kernel
theorem dX5_seatsIn_18 : decode cX5_seatsIn 18 = .ok (.iload_n 3, 1) := by decide +kernel
theorem dX5_seatsIn_19 : decode cX5_seatsIn 19 = .ok (.iconst 4, 1) := by decide +kernel
theorem dX5_seatsIn_20 : decode cX5_seatsIn 20 = .ok (.if_icmp .gt 9, 3) := by decide +kernel
theorem dX5_seatsIn_23 : decode cX5_seatsIn 23 = .ok (.iload_n 1, 1) := by decide +kernel
theorem dX5_seatsIn_24 : decode cX5_seatsIn 24 = .ok (.bipush 8, 2) := by decide +kernel
theorem dX5_seatsIn_26 : decode cX5_seatsIn 26 = .ok (.if_icmp .ne 5, 3) := by decide +kernel
theorem dX5_seatsIn_29 : decode cX5_seatsIn 29 = .ok (.iconst 0, 1) := by decide +kernel
theorem dX5_seatsIn_30 : decode cX5_seatsIn 30 = .ok (.ireturn, 1) := by decide +kernel
theorem dX5_seatsIn_31 : decode cX5_seatsIn 31 = .ok (.iinc 1 1, 3) := by decide +kernel
theorem dX5_seatsIn_34 : decode cX5_seatsIn 34 = .ok (.iload_n 2, 1) := by decide +kernel
theorem dX5_seatsIn_35 : decode cX5_seatsIn 35 = .ok (.bipush 10, 2) := by decide +kernel
theorem dX5_seatsIn_37 : decode cX5_seatsIn 37 = .ok (.idiv, 1) := by decide +kernel
theorem dX5_seatsIn_38 : decode cX5_seatsIn 38 = .ok (.istore_n 2, 1) := by decide +kernel
theorem dX5_seatsIn_39 : decode cX5_seatsIn 39 = .ok (.goto (-35), 3) := by decide +kernel
theorem dX5_seatsIn_42 : decode cX5_seatsIn 42 = .ok (.iload_n 1, 1) := by decide +kernel
theorem dX5_seatsIn_43 : decode cX5_seatsIn 43 = .ok (.ireturn, 1) := by decide +kernel
theorem dX5_needInstrument_0 : decode cX5_needInstrument 0 = .ok (.iload_n 0, 1) := by decide +kernel
theorem dX5_needInstrument_1 : decode cX5_needInstrument 1 = .ok (.ifCond .lt 8, 3) := by decide +kernel
theorem dX5_needInstrument_4 : decode cX5_needInstrument 4 = .ok (.iload_n 0, 1) := by decide +kernel
theorem dX5_needInstrument_5 : decode cX5_needInstrument 5 = .ok (.iconst 4, 1) := by decide +kernel
theorem dX5_needInstrument_6 : decode cX5_needInstrument 6 = .ok (.if_icmp .lt 13, 3) := by decide +kernel
theorem dX5_needInstrument_9 : decode cX5_needInstrument 9 = .ok (.new 148, 3) := by decide +kernel
theorem dX5_needInstrument_12 : decode cX5_needInstrument 12 = .ok (.dup, 1) := by decide +kernel
theorem dX5_needInstrument_13 : decode cX5_needInstrument 13 = .ok (.ldc 185, 2) := by decide +kernel
theorem dX5_needInstrument_15 : decode cX5_needInstrument 15 = .ok (.invokespecial 152, 3) := by decide +kernel
theorem dX5_needInstrument_18 : decode cX5_needInstrument 18 = .ok (.athrow, 1) := by decide +kernel
theorem dX5_needInstrument_19 : decode cX5_needInstrument 19 = .ok (.return_, 1) := by decide +kernel
theorem dX5_needWhat_0 : decode cX5_needWhat 0 = .ok (.iload_n 0, 1) := by decide +kernel
theorem dX5_needWhat_1 : decode cX5_needWhat 1 = .ok (.ifCond .lt 8, 3) := by decide +kernel
theorem dX5_needWhat_4 : decode cX5_needWhat 4 = .ok (.iload_n 0, 1) := by decide +kernel
theorem dX5_needWhat_5 : decode cX5_needWhat 5 = .ok (.iload_n 1, 1) := by decide +kernel
theorem dX5_needWhat_6 : decode cX5_needWhat 6 = .ok (.if_icmp .lt 13, 3) := by decide +kernel
theorem dX5_needWhat_9 : decode cX5_needWhat 9 = .ok (.new 148, 3) := by decide +kernel
theorem dX5_needWhat_12 : decode cX5_needWhat 12 = .ok (.dup, 1) := by decide +kernel
theorem dX5_needWhat_13 : decode cX5_needWhat 13 = .ok (.ldc 187, 2) := by decide +kernel
theorem dX5_needWhat_15 : decode cX5_needWhat 15 = .ok (.invokespecial 152, 3) := by decide +kernel
theorem dX5_needWhat_18 : decode cX5_needWhat 18 = .ok (.athrow, 1) := by decide +kernel
theorem dX5_needWhat_19 : decode cX5_needWhat 19 = .ok (.return_, 1) := by decide +kernel
theorem dX5_needPlayer_0 : decode cX5_needPlayer 0 = .ok (.aload_n 0, 1) := by decide +kernel
theorem dX5_needPlayer_1 : decode cX5_needPlayer 1 = .ok (.getfield 10, 3) := by decide +kernel
theorem dX5_needPlayer_4 : decode cX5_needPlayer 4 = .ok (.iload_n 1, 1) := by decide +kernel
theorem dX5_needPlayer_5 : decode cX5_needPlayer 5 = .ok (.invokevirtual 189, 3) := by decide +kernel
theorem dX5_needPlayer_8 : decode cX5_needPlayer 8 = .ok (.astore_n 2, 1) := by decide +kernel
theorem dX5_needPlayer_9 : decode cX5_needPlayer 9 = .ok (.aload_n 2, 1) := by decide +kernel
theorem dX5_needPlayer_10 : decode cX5_needPlayer 10 = .ok (.ifnonnull 13, 3) := by decide +kernel
theorem dX5_needPlayer_13 : decode cX5_needPlayer 13 = .ok (.new 148, 3) := by decide +kernel
theorem dX5_needPlayer_16 : decode cX5_needPlayer 16 = .ok (.dup, 1) := by decide +kernel
theorem dX5_needPlayer_17 : decode cX5_needPlayer 17 = .ok (.ldc 192, 2) := by decide +kernel
theorem dX5_needPlayer_19 : decode cX5_needPlayer 19 = .ok (.invokespecial 152, 3) := by decide +kernel
theorem dX5_needPlayer_22 : decode cX5_needPlayer 22 = .ok (.athrow, 1) := by decide +kernel
theorem dX5_needPlayer_23 : decode cX5_needPlayer 23 = .ok (.aload_n 2, 1) := by decide +kernel
theorem dX5_needPlayer_24 : decode cX5_needPlayer 24 = .ok (.areturn, 1) := by decide +kernel
theorem dX5_needBand_0 : decode cX5_needBand 0 = .ok (.aload_n 0, 1) := by decide +kernel
theorem dX5_needBand_1 : decode cX5_needBand 1 = .ok (.getfield 10, 3) := by decide +kernel
theorem dX5_needBand_4 : decode cX5_needBand 4 = .ok (.iload_n 1, 1) := by decide +kernel
theorem dX5_needBand_5 : decode cX5_needBand 5 = .ok (.invokevirtual 162, 3) := by decide +kernel
theorem dX5_needBand_8 : decode cX5_needBand 8 = .ok (.astore_n 2, 1) := by decide +kernel
theorem dX5_needBand_9 : decode cX5_needBand 9 = .ok (.aload_n 2, 1) := by decide +kernel
theorem dX5_needBand_10 : decode cX5_needBand 10 = .ok (.ifnonnull 13, 3) := by decide +kernel
theorem dX5_needBand_13 : decode cX5_needBand 13 = .ok (.new 148, 3) := by decide +kernel
theorem dX5_needBand_16 : decode cX5_needBand 16 = .ok (.dup, 1) := by decide +kernel
theorem dX5_needBand_17 : decode cX5_needBand 17 = .ok (.ldc 194, 2) := by decide +kernel
theorem dX5_needBand_19 : decode cX5_needBand 19 = .ok (.invokespecial 152, 3) := by decide +kernel
theorem dX5_needBand_22 : decode cX5_needBand 22 = .ok (.athrow, 1) := by decide +kernel
theorem dX5_needBand_23 : decode cX5_needBand 23 = .ok (.aload_n 2, 1) := by decide +kernel
theorem dX5_needBand_24 : decode cX5_needBand 24 = .ok (.areturn, 1) := by decide +kernel
theorem dX5_needChair_0 : decode cX5_needChair 0 = .ok (.aload_n 0, 1) := by decide +kernel
theorem dX5_needChair_1 : decode cX5_needChair 1 = .ok (.iload_n 1, 1) := by decide +kernel
theorem dX5_needChair_2 : decode cX5_needChair 2 = .ok (.invokevirtual 103, 3) := by decide +kernel
theorem dX5_needChair_5 : decode cX5_needChair 5 = .ok (.iload_n 2, 1) := by decide +kernel
theorem dX5_needChair_6 : decode cX5_needChair 6 = .ok (.invokevirtual 196, 3) := by decide +kernel
theorem dX5_needChair_9 : decode cX5_needChair 9 = .ok (.astore_n 3, 1) := by decide +kernel
theorem dX5_needChair_10 : decode cX5_needChair 10 = .ok (.aload_n 3, 1) := by decide +kernel
theorem dX5_needChair_11 : decode cX5_needChair 11 = .ok (.ifnonnull 13, 3) := by decide +kernel
theorem dX5_needChair_14 : decode cX5_needChair 14 = .ok (.new 148, 3) := by decide +kernel
theorem dX5_needChair_17 : decode cX5_needChair 17 = .ok (.dup, 1) := by decide +kernel
theorem dX5_needChair_18 : decode cX5_needChair 18 = .ok (.ldc 200, 2) := by decide +kernel
theorem dX5_needChair_20 : decode cX5_needChair 20 = .ok (.invokespecial 152, 3) := by decide +kernel
theorem dX5_needChair_23 : decode cX5_needChair 23 = .ok (.athrow, 1) := by decide +kernel
theorem dX5_needChair_24 : decode cX5_needChair 24 = .ok (.aload_n 3, 1) := by decide +kernel
theorem dX5_needChair_25 : decode cX5_needChair 25 = .ok (.areturn, 1) := by decide +kernel
end
section
theorem dX6_init_0 : decode cX6_init 0 = .ok (.aload_n 0, 1) := by decide +kernel
theorem dX6_init_1 : decode cX6_init 1 = .ok (.aload_n 1, 1) := by decide +kernel
theorem dX6_init_2 : decode cX6_init 2 = .ok (.putfield 3, 3) := by decide +kernel
theorem dX6_init_5 : decode cX6_init 5 = .ok (.aload_n 0, 1) := by decide +kernel
theorem dX6_init_6 : decode cX6_init 6 = .ok (.invokespecial 9, 3) := by decide +kernel
theorem dX6_init_9 : decode cX6_init 9 = .ok (.aload_n 0, 1) := by decide +kernel
theorem dX6_init_10 : decode cX6_init 10 = .ok (.bipush 24, 2) := by decide +kernel
theorem dX6_init_12 : decode cX6_init 12 = .ok (.newarray .int, 2) := by decide +kernel
theorem dX6_init_14 : decode cX6_init 14 = .ok (.putfield 15, 3) := by decide +kernel
theorem dX6_init_17 : decode cX6_init 17 = .ok (.aload_n 0, 1) := by decide +kernel
theorem dX6_init_18 : decode cX6_init 18 = .ok (.bipush 24, 2) := by decide +kernel
theorem dX6_init_20 : decode cX6_init 20 = .ok (.newarray .int, 2) := by decide +kernel
theorem dX6_init_22 : decode cX6_init 22 = .ok (.putfield 19, 3) := by decide +kernel
theorem dX6_init_25 : decode cX6_init 25 = .ok (.aload_n 0, 1) := by decide +kernel
theorem dX6_init_26 : decode cX6_init 26 = .ok (.bipush 24, 2) := by decide +kernel
theorem dX6_init_28 : decode cX6_init 28 = .ok (.newarray .int, 2) := by decide +kernel
theorem dX6_init_30 : decode cX6_init 30 = .ok (.putfield 22, 3) := by decide +kernel
theorem dX6_init_33 : decode cX6_init 33 = .ok (.aload_n 0, 1) := by decide +kernel
theorem dX6_init_34 : decode cX6_init 34 = .ok (.bipush 24, 2) := by decide +kernel
theorem dX6_init_36 : decode cX6_init 36 = .ok (.newarray .int, 2) := by decide +kernel
theorem dX6_init_38 : decode cX6_init 38 = .ok (.putfield 25, 3) := by decide +kernel
theorem dX6_init_41 : decode cX6_init 41 = .ok (.aload_n 0, 1) := by decide +kernel
theorem dX6_init_42 : decode cX6_init 42 = .ok (.bipush 48, 2) := by decide +kernel
theorem dX6_init_44 : decode cX6_init 44 = .ok (.newarray .int, 2) := by decide +kernel
theorem dX6_init_46 : decode cX6_init 46 = .ok (.putfield 28, 3) := by decide +kernel
theorem dX6_init_49 : decode cX6_init 49 = .ok (.aload_n 0, 1) := by decide +kernel
theorem dX6_init_50 : decode cX6_init 50 = .ok (.bipush 48, 2) := by decide +kernel
theorem dX6_init_52 : decode cX6_init 52 = .ok (.newarray .int, 2) := by decide +kernel
theorem dX6_init_54 : decode cX6_init 54 = .ok (.putfield 31, 3) := by decide +kernel
theorem dX6_init_57 : decode cX6_init 57 = .ok (.aload_n 0, 1) := by decide +kernel
theorem dX6_init_58 : decode cX6_init 58 = .ok (.bipush 6, 2) := by decide +kernel
theorem dX6_init_60 : decode cX6_init 60 = .ok (.newarray .int, 2) := by decide +kernel
theorem dX6_init_62 : decode cX6_init 62 = .ok (.putfield 34, 3) := by decide +kernel
theorem dX6_init_65 : decode cX6_init 65 = .ok (.aload_n 0, 1) := by decide +kernel
theorem dX6_init_66 : decode cX6_init 66 = .ok (.bipush 6, 2) := by decide +kernel
theorem dX6_init_68 : decode cX6_init 68 = .ok (.newarray .int, 2) := by decide +kernel
theorem dX6_init_70 : decode cX6_init 70 = .ok (.putfield 37, 3) := by decide +kernel
theorem dX6_init_73 : decode cX6_init 73 = .ok (.aload_n 0, 1) := by decide +kernel
theorem dX6_init_74 : decode cX6_init 74 = .ok (.bipush 6, 2) := by decide +kernel
theorem dX6_init_76 : decode cX6_init 76 = .ok (.newarray .int, 2) := by decide +kernel
theorem dX6_init_78 : decode cX6_init 78 = .ok (.putfield 40, 3) := by decide +kernel
theorem dX6_init_81 : decode cX6_init 81 = .ok (.aload_n 0, 1) := by decide +kernel
theorem dX6_init_82 : decode cX6_init 82 = .ok (.bipush 24, 2) := by decide +kernel
theorem dX6_init_84 : decode cX6_init 84 = .ok (.newarray .int, 2) := by decide +kernel
theorem dX6_init_86 : decode cX6_init 86 = .ok (.putfield 43, 3) := by decide +kernel
theorem dX6_init_89 : decode cX6_init 89 = .ok (.aload_n 0, 1) := by decide +kernel
theorem dX6_init_90 : decode cX6_init 90 = .ok (.bipush 24, 2) := by decide +kernel
theorem dX6_init_92 : decode cX6_init 92 = .ok (.newarray .int, 2) := by decide +kernel
theorem dX6_init_94 : decode cX6_init 94 = .ok (.putfield 46, 3) := by decide +kernel
theorem dX6_init_97 : decode cX6_init 97 = .ok (.return_, 1) := by decide +kernel
theorem dX6_copy_0 : decode cX6_copy 0 = .ok (.aload_n 1, 1) := by decide +kernel
theorem dX6_copy_1 : decode cX6_copy 1 = .ok (.iconst 0, 1) := by decide +kernel
theorem dX6_copy_2 : decode cX6_copy 2 = .ok (.aload_n 2, 1) := by decide +kernel
theorem dX6_copy_3 : decode cX6_copy 3 = .ok (.iconst 0, 1) := by decide +kernel
theorem dX6_copy_4 : decode cX6_copy 4 = .ok (.aload_n 1, 1) := by decide +kernel
theorem dX6_copy_5 : decode cX6_copy 5 = .ok (.arraylength, 1) := by decide +kernel
theorem dX6_copy_6 : decode cX6_copy 6 = .ok (.invokestatic 49, 3) := by decide +kernel
theorem dX6_copy_9 : decode cX6_copy 9 = .ok (.return_, 1) := by decide +kernel
theorem dX6_become_0 : decode cX6_become 0 = .ok (.aload_n 0, 1) := by decide +kernel
theorem dX6_become_1 : decode cX6_become 1 = .ok (.aload_n 1, 1) := by decide +kernel
theorem dX6_become_2 : decode cX6_become 2 = .ok (.getfield 55, 3) := by decide +kernel
theorem dX6_become_5 : decode cX6_become 5 = .ok (.putfield 55, 3) := by decide +kernel
theorem dX6_become_8 : decode cX6_become 8 = .ok (.aload_n 0, 1) := by decide +kernel
theorem dX6_become_9 : decode cX6_become 9 = .ok (.aload_n 1, 1) := by decide +kernel
theorem dX6_become_10 : decode cX6_become 10 = .ok (.getfield 59, 3) := by decide +kernel
theorem dX6_become_13 : decode cX6_become 13 = .ok (.putfield 59, 3) := by decide +kernel
theorem dX6_become_16 : decode cX6_become 16 = .ok (.aload_n 0, 1) := by decide +kernel
theorem dX6_become_17 : decode cX6_become 17 = .ok (.aload_n 1, 1) := by decide +kernel
theorem dX6_become_18 : decode cX6_become 18 = .ok (.getfield 62, 3) := by decide +kernel
theorem dX6_become_21 : decode cX6_become 21 = .ok (.putfield 62, 3) := by decide +kernel
theorem dX6_become_24 : decode cX6_become 24 = .ok (.aload_n 0, 1) := by decide +kernel
theorem dX6_become_25 : decode cX6_become 25 = .ok (.aload_n 1, 1) := by decide +kernel
theorem dX6_become_26 : decode cX6_become 26 = .ok (.getfield 15, 3) := by decide +kernel
theorem dX6_become_29 : decode cX6_become 29 = .ok (.aload_n 0, 1) := by decide +kernel
theorem dX6_become_30 : decode cX6_become 30 = .ok (.getfield 15, 3) := by decide +kernel
theorem dX6_become_33 : decode cX6_become 33 = .ok (.invokevirtual 65, 3) := by decide +kernel
theorem dX6_become_36 : decode cX6_become 36 = .ok (.aload_n 0, 1) := by decide +kernel
theorem dX6_become_37 : decode cX6_become 37 = .ok (.aload_n 1, 1) := by decide +kernel
theorem dX6_become_38 : decode cX6_become 38 = .ok (.getfield 19, 3) := by decide +kernel
theorem dX6_become_41 : decode cX6_become 41 = .ok (.aload_n 0, 1) := by decide +kernel
theorem dX6_become_42 : decode cX6_become 42 = .ok (.getfield 19, 3) := by decide +kernel
theorem dX6_become_45 : decode cX6_become 45 = .ok (.invokevirtual 65, 3) := by decide +kernel
theorem dX6_become_48 : decode cX6_become 48 = .ok (.aload_n 0, 1) := by decide +kernel
theorem dX6_become_49 : decode cX6_become 49 = .ok (.aload_n 1, 1) := by decide +kernel
theorem dX6_become_50 : decode cX6_become 50 = .ok (.getfield 22, 3) := by decide +kernel
theorem dX6_become_53 : decode cX6_become 53 = .ok (.aload_n 0, 1) := by decide +kernel
theorem dX6_become_54 : decode cX6_become 54 = .ok (.getfield 22, 3) := by decide +kernel
theorem dX6_become_57 : decode cX6_become 57 = .ok (.invokevirtual 65, 3) := by decide +kernel
theorem dX6_become_60 : decode cX6_become 60 = .ok (.aload_n 0, 1) := by decide +kernel
theorem dX6_become_61 : decode cX6_become 61 = .ok (.aload_n 1, 1) := by decide +kernel
theorem dX6_become_62 : decode cX6_become 62 = .ok (.getfield 25, 3) := by decide +kernel
theorem dX6_become_65 : decode cX6_become 65 = .ok (.aload_n 0, 1) := by decide +kernel
theorem dX6_become_66 : decode cX6_become 66 = .ok (.getfield 25, 3) := by decide +kernel
theorem dX6_become_69 : decode cX6_become 69 = .ok (.invokevirtual 65, 3) := by decide +kernel
theorem dX6_become_72 : decode cX6_become 72 = .ok (.aload_n 0, 1) := by decide +kernel
theorem dX6_become_73 : decode cX6_become 73 = .ok (.aload_n 1, 1) := by decide +kernel
theorem dX6_become_74 : decode cX6_become 74 = .ok (.getfield 28, 3) := by decide +kernel
theorem dX6_become_77 : decode cX6_become 77 = .ok (.aload_n 0, 1) := by decide +kernel
theorem dX6_become_78 : decode cX6_become 78 = .ok (.getfield 28, 3) := by decide +kernel
theorem dX6_become_81 : decode cX6_become 81 = .ok (.invokevirtual 65, 3) := by decide +kernel
theorem dX6_become_84 : decode cX6_become 84 = .ok (.aload_n 0, 1) := by decide +kernel
theorem dX6_become_85 : decode cX6_become 85 = .ok (.aload_n 1, 1) := by decide +kernel
theorem dX6_become_86 : decode cX6_become 86 = .ok (.getfield 31, 3) := by decide +kernel
theorem dX6_become_89 : decode cX6_become 89 = .ok (.aload_n 0, 1) := by decide +kernel
theorem dX6_become_90 : decode cX6_become 90 = .ok (.getfield 31, 3) := by decide +kernel
theorem dX6_become_93 : decode cX6_become 93 = .ok (.invokevirtual 65, 3) := by decide +kernel
theorem dX6_become_96 : decode cX6_become 96 = .ok (.aload_n 0, 1) := by decide +kernel
theorem dX6_become_97 : decode cX6_become 97 = .ok (.aload_n 1, 1) := by decide +kernel
theorem dX6_become_98 : decode cX6_become 98 = .ok (.getfield 34, 3) := by decide +kernel
theorem dX6_become_101 : decode cX6_become 101 = .ok (.aload_n 0, 1) := by decide +kernel
theorem dX6_become_102 : decode cX6_become 102 = .ok (.getfield 34, 3) := by decide +kernel
theorem dX6_become_105 : decode cX6_become 105 = .ok (.invokevirtual 65, 3) := by decide +kernel
theorem dX6_become_108 : decode cX6_become 108 = .ok (.aload_n 0, 1) := by decide +kernel
theorem dX6_become_109 : decode cX6_become 109 = .ok (.aload_n 1, 1) := by decide +kernel
theorem dX6_become_110 : decode cX6_become 110 = .ok (.getfield 37, 3) := by decide +kernel
theorem dX6_become_113 : decode cX6_become 113 = .ok (.aload_n 0, 1) := by decide +kernel
theorem dX6_become_114 : decode cX6_become 114 = .ok (.getfield 37, 3) := by decide +kernel
theorem dX6_become_117 : decode cX6_become 117 = .ok (.invokevirtual 65, 3) := by decide +kernel
theorem dX6_become_120 : decode cX6_become 120 = .ok (.aload_n 0, 1) := by decide +kernel
theorem dX6_become_121 : decode cX6_become 121 = .ok (.aload_n 1, 1) := by decide +kernel
theorem dX6_become_122 : decode cX6_become 122 = .ok (.getfield 40, 3) := by decide +kernel
theorem dX6_become_125 : decode cX6_become 125 = .ok (.aload_n 0, 1) := by decide +kernel
theorem dX6_become_126 : decode cX6_become 126 = .ok (.getfield 40, 3) := by decide +kernel
theorem dX6_become_129 : decode cX6_become 129 = .ok (.invokevirtual 65, 3) := by decide +kernel
theorem dX6_become_132 : decode cX6_become 132 = .ok (.aload_n 0, 1) := by decide +kernel
theorem dX6_become_133 : decode cX6_become 133 = .ok (.aload_n 1, 1) := by decide +kernel
theorem dX6_become_134 : decode cX6_become 134 = .ok (.getfield 43, 3) := by decide +kernel
theorem dX6_become_137 : decode cX6_become 137 = .ok (.aload_n 0, 1) := by decide +kernel
theorem dX6_become_138 : decode cX6_become 138 = .ok (.getfield 43, 3) := by decide +kernel
theorem dX6_become_141 : decode cX6_become 141 = .ok (.invokevirtual 65, 3) := by decide +kernel
theorem dX6_become_144 : decode cX6_become 144 = .ok (.return_, 1) := by decide +kernel
theorem dX6_sits_0 : decode cX6_sits 0 = .ok (.iconst 0, 1) := by decide +kernel
theorem dX6_sits_1 : decode cX6_sits 1 = .ok (.istore_n 3, 1) := by decide +kernel
theorem dX6_sits_2 : decode cX6_sits 2 = .ok (.bipush 8, 2) := by decide +kernel
theorem dX6_sits_4 : decode cX6_sits 4 = .ok (.iload_n 1, 1) := by decide +kernel
theorem dX6_sits_5 : decode cX6_sits 5 = .ok (.imul, 1) := by decide +kernel
theorem dX6_sits_6 : decode cX6_sits 6 = .ok (.istore 4, 2) := by decide +kernel
theorem dX6_sits_8 : decode cX6_sits 8 = .ok (.iload 4, 2) := by decide +kernel
theorem dX6_sits_10 : decode cX6_sits 10 = .ok (.bipush 8, 2) := by decide +kernel
theorem dX6_sits_12 : decode cX6_sits 12 = .ok (.iload_n 1, 1) := by decide +kernel
theorem dX6_sits_13 : decode cX6_sits 13 = .ok (.imul, 1) := by decide +kernel
theorem dX6_sits_14 : decode cX6_sits 14 = .ok (.aload_n 0, 1) := by decide +kernel
theorem dX6_sits_15 : decode cX6_sits 15 = .ok (.getfield 3, 3) := by decide +kernel
theorem dX6_sits_18 : decode cX6_sits 18 = .ok (.getfield 69, 3) := by decide +kernel
theorem dX6_sits_21 : decode cX6_sits 21 = .ok (.iload_n 1, 1) := by decide +kernel
theorem dX6_sits_22 : decode cX6_sits 22 = .ok (.iaload, 1) := by decide +kernel
theorem dX6_sits_23 : decode cX6_sits 23 = .ok (.iadd, 1) := by decide +kernel
theorem dX6_sits_24 : decode cX6_sits 24 = .ok (.if_icmp .ge 28, 3) := by decide +kernel
theorem dX6_sits_27 : decode cX6_sits 27 = .ok (.iload_n 3, 1) := by decide +kernel
theorem dX6_sits_28 : decode cX6_sits 28 = .ok (.aload_n 0, 1) := by decide +kernel
theorem dX6_sits_29 : decode cX6_sits 29 = .ok (.getfield 31, 3) := by decide +kernel
theorem dX6_sits_32 : decode cX6_sits 32 = .ok (.iload 4, 2) := by decide +kernel
theorem dX6_sits_34 : decode cX6_sits 34 = .ok (.iaload, 1) := by decide +kernel
theorem dX6_sits_35 : decode cX6_sits 35 = .ok (.iload_n 2, 1) := by decide +kernel
theorem dX6_sits_36 : decode cX6_sits 36 = .ok (.if_icmp .ne 7, 3) := by decide +kernel
theorem dX6_sits_39 : decode cX6_sits 39 = .ok (.iconst 1, 1) := by decide +kernel
theorem dX6_sits_40 : decode cX6_sits 40 = .ok (.goto 4, 3) := by decide +kernel
theorem dX6_sits_43 : decode cX6_sits 43 = .ok (.iconst 0, 1) := by decide +kernel
theorem dX6_sits_44 : decode cX6_sits 44 = .ok (.ior, 1) := by decide +kernel
theorem dX6_sits_45 : decode cX6_sits 45 = .ok (.istore_n 3, 1) := by decide +kernel
theorem dX6_sits_46 : decode cX6_sits 46 = .ok (.iinc 4 1, 3) := by decide +kernel
theorem dX6_sits_49 : decode cX6_sits 49 = .ok (.goto (-41), 3) := by decide +kernel
theorem dX6_sits_52 : decode cX6_sits 52 = .ok (.iload_n 3, 1) := by decide +kernel
theorem dX6_sits_53 : decode cX6_sits 53 = .ok (.ireturn, 1) := by decide +kernel
theorem dX6_find_0 : decode cX6_find 0 = .ok (.aload_n 0, 1) := by decide +kernel
theorem dX6_find_1 : decode cX6_find 1 = .ok (.getfield 3, 3) := by decide +kernel
theorem dX6_find_4 : decode cX6_find 4 = .ok (.getfield 72, 3) := by decide +kernel
theorem dX6_find_7 : decode cX6_find 7 = .ok (.iload_n 2, 1) := by decide +kernel
theorem dX6_find_8 : decode cX6_find 8 = .ok (.iaload, 1) := by decide +kernel
theorem dX6_find_9 : decode cX6_find 9 = .ok (.istore_n 3, 1) := by decide +kernel
theorem dX6_find_10 : decode cX6_find 10 = .ok (.aload_n 0, 1) := by decide +kernel
theorem dX6_find_11 : decode cX6_find 11 = .ok (.getfield 28, 3) := by decide +kernel
theorem dX6_find_14 : decode cX6_find 14 = .ok (.iload_n 2, 1) := by decide +kernel
theorem dX6_find_15 : decode cX6_find 15 = .ok (.iaload, 1) := by decide +kernel
theorem dX6_find_16 : decode cX6_find 16 = .ok (.iconst (-1), 1) := by decide +kernel
theorem dX6_find_17 : decode cX6_find 17 = .ok (.if_icmp .ne 7, 3) := by decide +kernel
theorem dX6_find_20 : decode cX6_find 20 = .ok (.iconst 5, 1) := by decide +kernel
theorem dX6_find_21 : decode cX6_find 21 = .ok (.goto 23, 3) := by decide +kernel
theorem dX6_find_24 : decode cX6_find 24 = .ok (.aload_n 0, 1) := by decide +kernel
theorem dX6_find_25 : decode cX6_find 25 = .ok (.getfield 3, 3) := by decide +kernel
theorem dX6_find_28 : decode cX6_find 28 = .ok (.getfield 75, 3) := by decide +kernel
theorem dX6_find_31 : decode cX6_find 31 = .ok (.iconst 4, 1) := by decide +kernel
theorem dX6_find_32 : decode cX6_find 32 = .ok (.aload_n 0, 1) := by decide +kernel
theorem dX6_find_33 : decode cX6_find 33 = .ok (.getfield 28, 3) := by decide +kernel
theorem dX6_find_36 : decode cX6_find 36 = .ok (.iload_n 2, 1) := by decide +kernel
theorem dX6_find_37 : decode cX6_find 37 = .ok (.iaload, 1) := by decide +kernel
theorem dX6_find_38 : decode cX6_find 38 = .ok (.imul, 1) := by decide +kernel
theorem dX6_find_39 : decode cX6_find 39 = .ok (.iload_n 3, 1) := by decide +kernel
theorem dX6_find_40 : decode cX6_find 40 = .ok (.iadd, 1) := by decide +kernel
theorem dX6_find_41 : decode cX6_find 41 = .ok (.iaload, 1) := by decide +kernel
theorem dX6_find_42 : decode cX6_find 42 = .ok (.iconst 1, 1) := by decide +kernel
theorem dX6_find_43 : decode cX6_find 43 = .ok (.iadd, 1) := by decide +kernel
theorem dX6_find_44 : decode cX6_find 44 = .ok (.istore 4, 2) := by decide +kernel
theorem dX6_find_46 : decode cX6_find 46 = .ok (.iconst (-1), 1) := by decide +kernel
theorem dX6_find_47 : decode cX6_find 47 = .ok (.istore 5, 2) := by decide +kernel
theorem dX6_find_49 : decode cX6_find 49 = .ok (.iconst 0, 1) := by decide +kernel
theorem dX6_find_50 : decode cX6_find 50 = .ok (.istore 6, 2) := by decide +kernel
theorem dX6_find_52 : decode cX6_find 52 = .ok (.iload 6, 2) := by decide +kernel
theorem dX6_find_54 : decode cX6_find 54 = .ok (.aload_n 0, 1) := by decide +kernel
theorem dX6_find_55 : decode cX6_find 55 = .ok (.getfield 3, 3) := by decide +kernel
theorem dX6_find_58 : decode cX6_find 58 = .ok (.getfield 78, 3) := by decide +kernel
theorem dX6_find_61 : decode cX6_find 61 = .ok (.if_icmp .ge 127, 3) := by decide +kernel
theorem dX6_find_64 : decode cX6_find 64 = .ok (.aload_n 0, 1) := by decide +kernel
theorem dX6_find_65 : decode cX6_find 65 = .ok (.getfield 3, 3) := by decide +kernel
theorem dX6_find_68 : decode cX6_find 68 = .ok (.getfield 75, 3) := by decide +kernel
theorem dX6_find_71 : decode cX6_find 71 = .ok (.iconst 4, 1) := by decide +kernel
theorem dX6_find_72 : decode cX6_find 72 = .ok (.iload 6, 2) := by decide +kernel
theorem dX6_find_74 : decode cX6_find 74 = .ok (.imul, 1) := by decide +kernel
theorem dX6_find_75 : decode cX6_find 75 = .ok (.iload_n 3, 1) := by decide +kernel
theorem dX6_find_76 : decode cX6_find 76 = .ok (.iadd, 1) := by decide +kernel
theorem dX6_find_77 : decode cX6_find 77 = .ok (.iaload, 1) := by decide +kernel
theorem dX6_find_78 : decode cX6_find 78 = .ok (.istore 7, 2) := by decide +kernel
theorem dX6_find_80 : decode cX6_find 80 = .ok (.aload_n 0, 1) := by decide +kernel
theorem dX6_find_81 : decode cX6_find 81 = .ok (.getfield 19, 3) := by decide +kernel
theorem dX6_find_84 : decode cX6_find 84 = .ok (.iload 6, 2) := by decide +kernel
theorem dX6_find_86 : decode cX6_find 86 = .ok (.iaload, 1) := by decide +kernel
theorem dX6_find_87 : decode cX6_find 87 = .ok (.ifCond .gt 95, 3) := by decide +kernel
theorem dX6_find_90 : decode cX6_find 90 = .ok (.aload_n 0, 1) := by decide +kernel
theorem dX6_find_91 : decode cX6_find 91 = .ok (.getfield 46, 3) := by decide +kernel
theorem dX6_find_94 : decode cX6_find 94 = .ok (.iload 6, 2) := by decide +kernel
theorem dX6_find_96 : decode cX6_find 96 = .ok (.iaload, 1) := by decide +kernel
theorem dX6_find_97 : decode cX6_find 97 = .ok (.iconst 1, 1) := by decide +kernel
theorem dX6_find_98 : decode cX6_find 98 = .ok (.if_icmp .gt 84, 3) := by decide +kernel
theorem dX6_find_101 : decode cX6_find 101 = .ok (.iload 7, 2) := by decide +kernel
theorem dX6_find_103 : decode cX6_find 103 = .ok (.iload 4, 2) := by decide +kernel
theorem dX6_find_105 : decode cX6_find 105 = .ok (.if_icmp .gt 77, 3) := by decide +kernel
theorem dX6_find_108 : decode cX6_find 108 = .ok (.aload_n 0, 1) := by decide +kernel
theorem dX6_find_109 : decode cX6_find 109 = .ok (.iload_n 1, 1) := by decide +kernel
theorem dX6_find_110 : decode cX6_find 110 = .ok (.iload 6, 2) := by decide +kernel
theorem dX6_find_112 : decode cX6_find 112 = .ok (.invokevirtual 81, 3) := by decide +kernel
theorem dX6_find_115 : decode cX6_find 115 = .ok (.ifCond .eq 6, 3) := by decide +kernel
theorem dX6_find_118 : decode cX6_find 118 = .ok (.goto 64, 3) := by decide +kernel
theorem dX6_find_121 : decode cX6_find 121 = .ok (.iload 5, 2) := by decide +kernel
theorem dX6_find_123 : decode cX6_find 123 = .ok (.iconst (-1), 1) := by decide +kernel
theorem dX6_find_124 : decode cX6_find 124 = .ok (.if_icmp .ne 7, 3) := by decide +kernel
theorem dX6_find_127 : decode cX6_find 127 = .ok (.iconst (-1), 1) := by decide +kernel
theorem dX6_find_128 : decode cX6_find 128 = .ok (.goto 17, 3) := by decide +kernel
theorem dX6_find_131 : decode cX6_find 131 = .ok (.aload_n 0, 1) := by decide +kernel
theorem dX6_find_132 : decode cX6_find 132 = .ok (.getfield 3, 3) := by decide +kernel
theorem dX6_find_135 : decode cX6_find 135 = .ok (.getfield 75, 3) := by decide +kernel
theorem dX6_find_138 : decode cX6_find 138 = .ok (.iconst 4, 1) := by decide +kernel
theorem dX6_find_139 : decode cX6_find 139 = .ok (.iload 5, 2) := by decide +kernel
theorem dX6_find_141 : decode cX6_find 141 = .ok (.imul, 1) := by decide +kernel
theorem dX6_find_142 : decode cX6_find 142 = .ok (.iload_n 3, 1) := by decide +kernel
theorem dX6_find_143 : decode cX6_find 143 = .ok (.iadd, 1) := by decide +kernel
theorem dX6_find_144 : decode cX6_find 144 = .ok (.iaload, 1) := by decide +kernel
theorem dX6_find_145 : decode cX6_find 145 = .ok (.istore 8, 2) := by decide +kernel
theorem dX6_find_147 : decode cX6_find 147 = .ok (.iload 7, 2) := by decide +kernel
theorem dX6_find_149 : decode cX6_find 149 = .ok (.iload 8, 2) := by decide +kernel
theorem dX6_find_151 : decode cX6_find 151 = .ok (.if_icmp .gt 27, 3) := by decide +kernel
theorem dX6_find_154 : decode cX6_find 154 = .ok (.iload 7, 2) := by decide +kernel
theorem dX6_find_156 : decode cX6_find 156 = .ok (.iload 8, 2) := by decide +kernel
theorem dX6_find_158 : decode cX6_find 158 = .ok (.if_icmp .ne 24, 3) := by decide +kernel
theorem dX6_find_161 : decode cX6_find 161 = .ok (.aload_n 0, 1) := by decide +kernel
theorem dX6_find_162 : decode cX6_find 162 = .ok (.getfield 15, 3) := by decide +kernel
theorem dX6_find_165 : decode cX6_find 165 = .ok (.iload 6, 2) := by decide +kernel
theorem dX6_find_167 : decode cX6_find 167 = .ok (.iaload, 1) := by decide +kernel
theorem dX6_find_168 : decode cX6_find 168 = .ok (.aload_n 0, 1) := by decide +kernel
theorem dX6_find_169 : decode cX6_find 169 = .ok (.getfield 15, 3) := by decide +kernel
theorem dX6_find_172 : decode cX6_find 172 = .ok (.iload 5, 2) := by decide +kernel
theorem dX6_find_174 : decode cX6_find 174 = .ok (.iaload, 1) := by decide +kernel
theorem dX6_find_175 : decode cX6_find 175 = .ok (.if_icmp .ge 7, 3) := by decide +kernel
theorem dX6_find_178 : decode cX6_find 178 = .ok (.iload 6, 2) := by decide +kernel
theorem dX6_find_180 : decode cX6_find 180 = .ok (.istore 5, 2) := by decide +kernel
theorem dX6_find_182 : decode cX6_find 182 = .ok (.iinc 6 1, 3) := by decide +kernel
theorem dX6_find_185 : decode cX6_find 185 = .ok (.goto (-133), 3) := by decide +kernel
theorem dX6_find_188 : decode cX6_find 188 = .ok (.iload 5, 2) := by decide +kernel
theorem dX6_find_190 : decode cX6_find 190 = .ok (.ireturn, 1) := by decide +kernel
theorem dX6_play_0 : decode cX6_play 0 = .ok (.bipush 8, 2) := by decide +kernel
theorem dX6_play_2 : decode cX6_play 2 = .ok (.iload_n 1, 1) := by decide +kernel
theorem dX6_play_3 : decode cX6_play 3 = .ok (.imul, 1) := by decide +kernel
theorem dX6_play_4 : decode cX6_play 4 = .ok (.istore_n 2, 1) := by decide +kernel
theorem dX6_play_5 : decode cX6_play 5 = .ok (.iload_n 2, 1) := by decide +kernel
theorem dX6_play_6 : decode cX6_play 6 = .ok (.aload_n 0, 1) := by decide +kernel
theorem dX6_play_7 : decode cX6_play 7 = .ok (.getfield 3, 3) := by decide +kernel
theorem dX6_play_10 : decode cX6_play 10 = .ok (.getfield 69, 3) := by decide +kernel
theorem dX6_play_13 : decode cX6_play 13 = .ok (.iload_n 1, 1) := by decide +kernel
theorem dX6_play_14 : decode cX6_play 14 = .ok (.iaload, 1) := by decide +kernel
theorem dX6_play_15 : decode cX6_play 15 = .ok (.iadd, 1) := by decide +kernel
theorem dX6_play_16 : decode cX6_play 16 = .ok (.istore_n 3, 1) := by decide +kernel
theorem dX6_play_17 : decode cX6_play 17 = .ok (.iconst 0, 1) := by decide +kernel
theorem dX6_play_18 : decode cX6_play 18 = .ok (.istore 4, 2) := by decide +kernel
theorem dX6_play_20 : decode cX6_play 20 = .ok (.iconst 0, 1) := by decide +kernel
theorem dX6_play_21 : decode cX6_play 21 = .ok (.istore 5, 2) := by decide +kernel
theorem dX6_play_23 : decode cX6_play 23 = .ok (.iload_n 2, 1) := by decide +kernel
theorem dX6_play_24 : decode cX6_play 24 = .ok (.istore 6, 2) := by decide +kernel
theorem dX6_play_26 : decode cX6_play 26 = .ok (.iload 6, 2) := by decide +kernel
theorem dX6_play_28 : decode cX6_play 28 = .ok (.iload_n 3, 1) := by decide +kernel
theorem dX6_play_29 : decode cX6_play 29 = .ok (.if_icmp .ge 53, 3) := by decide +kernel
theorem dX6_play_32 : decode cX6_play 32 = .ok (.aload_n 0, 1) := by decide +kernel
theorem dX6_play_33 : decode cX6_play 33 = .ok (.getfield 31, 3) := by decide +kernel
theorem dX6_play_36 : decode cX6_play 36 = .ok (.iload 6, 2) := by decide +kernel
theorem dX6_play_38 : decode cX6_play 38 = .ok (.aload_n 0, 1) := by decide +kernel
theorem dX6_play_39 : decode cX6_play 39 = .ok (.getfield 28, 3) := by decide +kernel
theorem dX6_play_42 : decode cX6_play 42 = .ok (.iload 6, 2) := by decide +kernel
theorem dX6_play_44 : decode cX6_play 44 = .ok (.iaload, 1) := by decide +kernel
theorem dX6_play_45 : decode cX6_play 45 = .ok (.iconst (-1), 1) := by decide +kernel
theorem dX6_play_46 : decode cX6_play 46 = .ok (.if_icmp .eq 28, 3) := by decide +kernel
theorem dX6_play_49 : decode cX6_play 49 = .ok (.aload_n 0, 1) := by decide +kernel
theorem dX6_play_50 : decode cX6_play 50 = .ok (.getfield 19, 3) := by decide +kernel
theorem dX6_play_53 : decode cX6_play 53 = .ok (.aload_n 0, 1) := by decide +kernel
theorem dX6_play_54 : decode cX6_play 54 = .ok (.getfield 28, 3) := by decide +kernel
theorem dX6_play_57 : decode cX6_play 57 = .ok (.iload 6, 2) := by decide +kernel
theorem dX6_play_59 : decode cX6_play 59 = .ok (.iaload, 1) := by decide +kernel
theorem dX6_play_60 : decode cX6_play 60 = .ok (.iaload, 1) := by decide +kernel
theorem dX6_play_61 : decode cX6_play 61 = .ok (.ifCond .ne 13, 3) := by decide +kernel
theorem dX6_play_64 : decode cX6_play 64 = .ok (.aload_n 0, 1) := by decide +kernel
theorem dX6_play_65 : decode cX6_play 65 = .ok (.getfield 28, 3) := by decide +kernel
theorem dX6_play_68 : decode cX6_play 68 = .ok (.iload 6, 2) := by decide +kernel
theorem dX6_play_70 : decode cX6_play 70 = .ok (.iaload, 1) := by decide +kernel
theorem dX6_play_71 : decode cX6_play 71 = .ok (.goto 4, 3) := by decide +kernel
theorem dX6_play_74 : decode cX6_play 74 = .ok (.iconst (-1), 1) := by decide +kernel
theorem dX6_play_75 : decode cX6_play 75 = .ok (.iastore, 1) := by decide +kernel
theorem dX6_play_76 : decode cX6_play 76 = .ok (.iinc 6 1, 3) := by decide +kernel
theorem dX6_play_79 : decode cX6_play 79 = .ok (.goto (-53), 3) := by decide +kernel
theorem dX6_play_82 : decode cX6_play 82 = .ok (.iconst 0, 1) := by decide +kernel
theorem dX6_play_83 : decode cX6_play 83 = .ok (.istore 6, 2) := by decide +kernel
theorem dX6_play_85 : decode cX6_play 85 = .ok (.iload_n 2, 1) := by decide +kernel
theorem dX6_play_86 : decode cX6_play 86 = .ok (.istore 7, 2) := by decide +kernel
theorem dX6_play_88 : decode cX6_play 88 = .ok (.iload 7, 2) := by decide +kernel
theorem dX6_play_90 : decode cX6_play 90 = .ok (.iload_n 3, 1) := by decide +kernel
theorem dX6_play_91 : decode cX6_play 91 = .ok (.if_icmp .ge 30, 3) := by decide +kernel
theorem dX6_play_94 : decode cX6_play 94 = .ok (.iload 6, 2) := by decide +kernel
theorem dX6_play_96 : decode cX6_play 96 = .ok (.aload_n 0, 1) := by decide +kernel
theorem dX6_play_97 : decode cX6_play 97 = .ok (.getfield 31, 3) := by decide +kernel
theorem dX6_play_100 : decode cX6_play 100 = .ok (.iload 7, 2) := by decide +kernel
theorem dX6_play_102 : decode cX6_play 102 = .ok (.iaload, 1) := by decide +kernel
theorem dX6_play_103 : decode cX6_play 103 = .ok (.iconst (-1), 1) := by decide +kernel
theorem dX6_play_104 : decode cX6_play 104 = .ok (.if_icmp .ne 7, 3) := by decide +kernel
theorem dX6_play_107 : decode cX6_play 107 = .ok (.iconst 0, 1) := by decide +kernel
theorem dX6_play_108 : decode cX6_play 108 = .ok (.goto 4, 3) := by decide +kernel
theorem dX6_play_111 : decode cX6_play 111 = .ok (.iconst 1, 1) := by decide +kernel
theorem dX6_play_112 : decode cX6_play 112 = .ok (.iadd, 1) := by decide +kernel
theorem dX6_play_113 : decode cX6_play 113 = .ok (.istore 6, 2) := by decide +kernel
theorem dX6_play_115 : decode cX6_play 115 = .ok (.iinc 7 1, 3) := by decide +kernel
theorem dX6_play_118 : decode cX6_play 118 = .ok (.goto (-30), 3) := by decide +kernel
theorem dX6_play_121 : decode cX6_play 121 = .ok (.iload_n 2, 1) := by decide +kernel
theorem dX6_play_122 : decode cX6_play 122 = .ok (.istore 7, 2) := by decide +kernel
theorem dX6_play_124 : decode cX6_play 124 = .ok (.iload 7, 2) := by decide +kernel
theorem dX6_play_126 : decode cX6_play 126 = .ok (.iload_n 3, 1) := by decide +kernel
theorem dX6_play_127 : decode cX6_play 127 = .ok (.if_icmp .ge 89, 3) := by decide +kernel
theorem dX6_play_130 : decode cX6_play 130 = .ok (.aload_n 0, 1) := by decide +kernel
theorem dX6_play_131 : decode cX6_play 131 = .ok (.getfield 31, 3) := by decide +kernel
theorem dX6_play_134 : decode cX6_play 134 = .ok (.iload 7, 2) := by decide +kernel
theorem dX6_play_136 : decode cX6_play 136 = .ok (.iaload, 1) := by decide +kernel
theorem dX6_play_137 : decode cX6_play 137 = .ok (.iconst (-1), 1) := by decide +kernel
theorem dX6_play_138 : decode cX6_play 138 = .ok (.if_icmp .eq 6, 3) := by decide +kernel
theorem dX6_play_141 : decode cX6_play 141 = .ok (.goto 69, 3) := by decide +kernel
theorem dX6_play_144 : decode cX6_play 144 = .ok (.aload_n 0, 1) := by decide +kernel
theorem dX6_play_145 : decode cX6_play 145 = .ok (.getfield 31, 3) := by decide +kernel
theorem dX6_play_148 : decode cX6_play 148 = .ok (.iload 7, 2) := by decide +kernel
theorem dX6_play_150 : decode cX6_play 150 = .ok (.aload_n 0, 1) := by decide +kernel
theorem dX6_play_151 : decode cX6_play 151 = .ok (.iload_n 1, 1) := by decide +kernel
theorem dX6_play_152 : decode cX6_play 152 = .ok (.iload 7, 2) := by decide +kernel
theorem dX6_play_154 : decode cX6_play 154 = .ok (.invokevirtual 85, 3) := by decide +kernel
theorem dX6_play_157 : decode cX6_play 157 = .ok (.iastore, 1) := by decide +kernel
theorem dX6_play_158 : decode cX6_play 158 = .ok (.aload_n 0, 1) := by decide +kernel
theorem dX6_play_159 : decode cX6_play 159 = .ok (.getfield 31, 3) := by decide +kernel
theorem dX6_play_162 : decode cX6_play 162 = .ok (.iload 7, 2) := by decide +kernel
theorem dX6_play_164 : decode cX6_play 164 = .ok (.iaload, 1) := by decide +kernel
theorem dX6_play_165 : decode cX6_play 165 = .ok (.iconst (-1), 1) := by decide +kernel
theorem dX6_play_166 : decode cX6_play 166 = .ok (.if_icmp .ne 9, 3) := by decide +kernel
theorem dX6_play_169 : decode cX6_play 169 = .ok (.iinc 5 1, 3) := by decide +kernel
theorem dX6_play_172 : decode cX6_play 172 = .ok (.goto 38, 3) := by decide +kernel
theorem dX6_play_175 : decode cX6_play 175 = .ok (.iinc 4 1, 3) := by decide +kernel
theorem dX6_play_178 : decode cX6_play 178 = .ok (.aload_n 0, 1) := by decide +kernel
theorem dX6_play_179 : decode cX6_play 179 = .ok (.getfield 46, 3) := by decide +kernel
theorem dX6_play_182 : decode cX6_play 182 = .ok (.aload_n 0, 1) := by decide +kernel
theorem dX6_play_183 : decode cX6_play 183 = .ok (.getfield 31, 3) := by decide +kernel
theorem dX6_play_186 : decode cX6_play 186 = .ok (.iload 7, 2) := by decide +kernel
theorem dX6_play_188 : decode cX6_play 188 = .ok (.iaload, 1) := by decide +kernel
theorem dX6_play_189 : decode cX6_play 189 = .ok (.dup2, 1) := by decide +kernel
theorem dX6_play_190 : decode cX6_play 190 = .ok (.iaload, 1) := by decide +kernel
theorem dX6_play_191 : decode cX6_play 191 = .ok (.iconst 1, 1) := by decide +kernel
theorem dX6_play_192 : decode cX6_play 192 = .ok (.iadd, 1) := by decide +kernel
theorem dX6_play_193 : decode cX6_play 193 = .ok (.iastore, 1) := by decide +kernel
theorem dX6_play_194 : decode cX6_play 194 = .ok (.aload_n 0, 1) := by decide +kernel
theorem dX6_play_195 : decode cX6_play 195 = .ok (.getfield 25, 3) := by decide +kernel
theorem dX6_play_198 : decode cX6_play 198 = .ok (.aload_n 0, 1) := by decide +kernel
theorem dX6_play_199 : decode cX6_play 199 = .ok (.getfield 31, 3) := by decide +kernel
theorem dX6_play_202 : decode cX6_play 202 = .ok (.iload 7, 2) := by decide +kernel
theorem dX6_play_204 : decode cX6_play 204 = .ok (.iaload, 1) := by decide +kernel
theorem dX6_play_205 : decode cX6_play 205 = .ok (.dup2, 1) := by decide +kernel
theorem dX6_play_206 : decode cX6_play 206 = .ok (.iaload, 1) := by decide +kernel
theorem dX6_play_207 : decode cX6_play 207 = .ok (.iconst 1, 1) := by decide +kernel
theorem dX6_play_208 : decode cX6_play 208 = .ok (.iadd, 1) := by decide +kernel
theorem dX6_play_209 : decode cX6_play 209 = .ok (.iastore, 1) := by decide +kernel
theorem dX6_play_210 : decode cX6_play 210 = .ok (.iinc 7 1, 3) := by decide +kernel
theorem dX6_play_213 : decode cX6_play 213 = .ok (.goto (-89), 3) := by decide +kernel
theorem dX6_play_216 : decode cX6_play 216 = .ok (.iload 6, 2) := by decide +kernel
theorem dX6_play_218 : decode cX6_play 218 = .ok (.aload_n 0, 1) := by decide +kernel
theorem dX6_play_219 : decode cX6_play 219 = .ok (.getfield 34, 3) := by decide +kernel
theorem dX6_play_222 : decode cX6_play 222 = .ok (.iload_n 1, 1) := by decide +kernel
theorem dX6_play_223 : decode cX6_play 223 = .ok (.iaload, 1) := by decide +kernel
theorem dX6_play_224 : decode cX6_play 224 = .ok (.iconst 5, 1) := by decide +kernel
theorem dX6_play_225 : decode cX6_play 225 = .ok (.idiv, 1) := by decide +kernel
theorem dX6_play_226 : decode cX6_play 226 = .ok (.iadd, 1) := by decide +kernel
theorem dX6_play_227 : decode cX6_play 227 = .ok (.iconst 5, 1) := by decide +kernel
theorem dX6_play_228 : decode cX6_play 228 = .ok (.iload 5, 2) := by decide +kernel
theorem dX6_play_230 : decode cX6_play 230 = .ok (.imul, 1) := by decide +kernel
theorem dX6_play_231 : decode cX6_play 231 = .ok (.isub, 1) := by decide +kernel
theorem dX6_play_232 : decode cX6_play 232 = .ok (.istore 7, 2) := by decide +kernel
theorem dX6_play_234 : decode cX6_play 234 = .ok (.iload_n 2, 1) := by decide +kernel
theorem dX6_play_235 : decode cX6_play 235 = .ok (.istore 8, 2) := by decide +kernel
theorem dX6_play_237 : decode cX6_play 237 = .ok (.iload 8, 2) := by decide +kernel
theorem dX6_play_239 : decode cX6_play 239 = .ok (.iload_n 3, 1) := by decide +kernel
theorem dX6_play_240 : decode cX6_play 240 = .ok (.if_icmp .ge 114, 3) := by decide +kernel
theorem dX6_play_243 : decode cX6_play 243 = .ok (.aload_n 0, 1) := by decide +kernel
theorem dX6_play_244 : decode cX6_play 244 = .ok (.getfield 31, 3) := by decide +kernel
theorem dX6_play_247 : decode cX6_play 247 = .ok (.iload 8, 2) := by decide +kernel
theorem dX6_play_249 : decode cX6_play 249 = .ok (.iaload, 1) := by decide +kernel
theorem dX6_play_250 : decode cX6_play 250 = .ok (.iconst (-1), 1) := by decide +kernel
theorem dX6_play_251 : decode cX6_play 251 = .ok (.if_icmp .eq 97, 3) := by decide +kernel
theorem dX6_play_254 : decode cX6_play 254 = .ok (.iload 7, 2) := by decide +kernel
theorem dX6_play_256 : decode cX6_play 256 = .ok (.aload_n 0, 1) := by decide +kernel
theorem dX6_play_257 : decode cX6_play 257 = .ok (.getfield 3, 3) := by decide +kernel
theorem dX6_play_260 : decode cX6_play 260 = .ok (.getfield 89, 3) := by decide +kernel
theorem dX6_play_263 : decode cX6_play 263 = .ok (.aload_n 0, 1) := by decide +kernel
theorem dX6_play_264 : decode cX6_play 264 = .ok (.getfield 3, 3) := by decide +kernel
theorem dX6_play_267 : decode cX6_play 267 = .ok (.getfield 72, 3) := by decide +kernel
theorem dX6_play_270 : decode cX6_play 270 = .ok (.iload 8, 2) := by decide +kernel
theorem dX6_play_272 : decode cX6_play 272 = .ok (.iaload, 1) := by decide +kernel
theorem dX6_play_273 : decode cX6_play 273 = .ok (.iaload, 1) := by decide +kernel
theorem dX6_play_274 : decode cX6_play 274 = .ok (.iconst 0, 1) := by decide +kernel
theorem dX6_play_275 : decode cX6_play 275 = .ok (.bipush 10, 2) := by decide +kernel
theorem dX6_play_277 : decode cX6_play 277 = .ok (.aload_n 0, 1) := by decide +kernel
theorem dX6_play_278 : decode cX6_play 278 = .ok (.getfield 3, 3) := by decide +kernel
theorem dX6_play_281 : decode cX6_play 281 = .ok (.getfield 75, 3) := by decide +kernel
theorem dX6_play_284 : decode cX6_play 284 = .ok (.iconst 4, 1) := by decide +kernel
theorem dX6_play_285 : decode cX6_play 285 = .ok (.aload_n 0, 1) := by decide +kernel
theorem dX6_play_286 : decode cX6_play 286 = .ok (.getfield 31, 3) := by decide +kernel
theorem dX6_play_289 : decode cX6_play 289 = .ok (.iload 8, 2) := by decide +kernel
theorem dX6_play_291 : decode cX6_play 291 = .ok (.iaload, 1) := by decide +kernel
theorem dX6_play_292 : decode cX6_play 292 = .ok (.imul, 1) := by decide +kernel
theorem dX6_play_293 : decode cX6_play 293 = .ok (.aload_n 0, 1) := by decide +kernel
theorem dX6_play_294 : decode cX6_play 294 = .ok (.getfield 3, 3) := by decide +kernel
theorem dX6_play_297 : decode cX6_play 297 = .ok (.getfield 72, 3) := by decide +kernel
theorem dX6_play_300 : decode cX6_play 300 = .ok (.iload 8, 2) := by decide +kernel
theorem dX6_play_302 : decode cX6_play 302 = .ok (.iaload, 1) := by decide +kernel
theorem dX6_play_303 : decode cX6_play 303 = .ok (.iadd, 1) := by decide +kernel
theorem dX6_play_304 : decode cX6_play 304 = .ok (.iaload, 1) := by decide +kernel
theorem dX6_play_305 : decode cX6_play 305 = .ok (.iadd, 1) := by decide +kernel
theorem dX6_play_306 : decode cX6_play 306 = .ok (.aload_n 0, 1) := by decide +kernel
theorem dX6_play_307 : decode cX6_play 307 = .ok (.getfield 3, 3) := by decide +kernel
theorem dX6_play_310 : decode cX6_play 310 = .ok (.getfield 92, 3) := by decide +kernel
theorem dX6_play_313 : decode cX6_play 313 = .ok (.aload_n 0, 1) := by decide +kernel
theorem dX6_play_314 : decode cX6_play 314 = .ok (.getfield 3, 3) := by decide +kernel
theorem dX6_play_317 : decode cX6_play 317 = .ok (.getfield 72, 3) := by decide +kernel
theorem dX6_play_320 : decode cX6_play 320 = .ok (.iload 8, 2) := by decide +kernel
theorem dX6_play_322 : decode cX6_play 322 = .ok (.iaload, 1) := by decide +kernel
theorem dX6_play_323 : decode cX6_play 323 = .ok (.iaload, 1) := by decide +kernel
theorem dX6_play_324 : decode cX6_play 324 = .ok (.isub, 1) := by decide +kernel
theorem dX6_play_325 : decode cX6_play 325 = .ok (.aload_n 0, 1) := by decide +kernel
theorem dX6_play_326 : decode cX6_play 326 = .ok (.getfield 15, 3) := by decide +kernel
theorem dX6_play_329 : decode cX6_play 329 = .ok (.aload_n 0, 1) := by decide +kernel
theorem dX6_play_330 : decode cX6_play 330 = .ok (.getfield 31, 3) := by decide +kernel
theorem dX6_play_333 : decode cX6_play 333 = .ok (.iload 8, 2) := by decide +kernel
theorem dX6_play_335 : decode cX6_play 335 = .ok (.iaload, 1) := by decide +kernel
theorem dX6_play_336 : decode cX6_play 336 = .ok (.iaload, 1) := by decide +kernel
theorem dX6_play_337 : decode cX6_play 337 = .ok (.bipush 20, 2) := by decide +kernel
theorem dX6_play_339 : decode cX6_play 339 = .ok (.idiv, 1) := by decide +kernel
theorem dX6_play_340 : decode cX6_play 340 = .ok (.isub, 1) := by decide +kernel
theorem dX6_play_341 : decode cX6_play 341 = .ok (.invokestatic 95, 3) := by decide +kernel
theorem dX6_play_344 : decode cX6_play 344 = .ok (.imul, 1) := by decide +kernel
theorem dX6_play_345 : decode cX6_play 345 = .ok (.iadd, 1) := by decide +kernel
theorem dX6_play_346 : decode cX6_play 346 = .ok (.istore 7, 2) := by decide +kernel
theorem dX6_play_348 : decode cX6_play 348 = .ok (.iinc 8 1, 3) := by decide +kernel
theorem dX6_play_351 : decode cX6_play 351 = .ok (.goto (-114), 3) := by decide +kernel
theorem dX6_play_354 : decode cX6_play 354 = .ok (.iload 4, 2) := by decide +kernel
theorem dX6_play_356 : decode cX6_play 356 = .ok (.iconst 3, 1) := by decide +kernel
theorem dX6_play_357 : decode cX6_play 357 = .ok (.if_icmp .le 7, 3) := by decide +kernel
theorem dX6_play_360 : decode cX6_play 360 = .ok (.iconst 1, 1) := by decide +kernel
theorem dX6_play_361 : decode cX6_play 361 = .ok (.goto 4, 3) := by decide +kernel
theorem dX6_play_364 : decode cX6_play 364 = .ok (.iconst 0, 1) := by decide +kernel
theorem dX6_play_365 : decode cX6_play 365 = .ok (.istore 8, 2) := by decide +kernel
theorem dX6_play_367 : decode cX6_play 367 = .ok (.iconst 4, 1) := by decide +kernel
theorem dX6_play_368 : decode cX6_play 368 = .ok (.newarray .int, 2) := by decide +kernel
theorem dX6_play_370 : decode cX6_play 370 = .ok (.dup, 1) := by decide +kernel
theorem dX6_play_371 : decode cX6_play 371 = .ok (.iconst 0, 1) := by decide +kernel
theorem dX6_play_372 : decode cX6_play 372 = .ok (.iload 8, 2) := by decide +kernel
theorem dX6_play_374 : decode cX6_play 374 = .ok (.ifCond .eq 7, 3) := by decide +kernel
theorem dX6_play_377 : decode cX6_play 377 = .ok (.iconst 0, 1) := by decide +kernel
theorem dX6_play_378 : decode cX6_play 378 = .ok (.goto 9, 3) := by decide +kernel
theorem dX6_play_381 : decode cX6_play 381 = .ok (.iconst 0, 1) := by decide +kernel
theorem dX6_play_382 : decode cX6_play 382 = .ok (.iload 7, 2) := by decide +kernel
theorem dX6_play_384 : decode cX6_play 384 = .ok (.invokestatic 95, 3) := by decide +kernel
theorem dX6_play_387 : decode cX6_play 387 = .ok (.iastore, 1) := by decide +kernel
theorem dX6_play_388 : decode cX6_play 388 = .ok (.dup, 1) := by decide +kernel
theorem dX6_play_389 : decode cX6_play 389 = .ok (.iconst 1, 1) := by decide +kernel
theorem dX6_play_390 : decode cX6_play 390 = .ok (.iconst (-1), 1) := by decide +kernel
theorem dX6_play_391 : decode cX6_play 391 = .ok (.iastore, 1) := by decide +kernel
theorem dX6_play_392 : decode cX6_play 392 = .ok (.dup, 1) := by decide +kernel
theorem dX6_play_393 : decode cX6_play 393 = .ok (.iconst 2, 1) := by decide +kernel
theorem dX6_play_394 : decode cX6_play 394 = .ok (.iload 4, 2) := by decide +kernel
theorem dX6_play_396 : decode cX6_play 396 = .ok (.iastore, 1) := by decide +kernel
theorem dX6_play_397 : decode cX6_play 397 = .ok (.dup, 1) := by decide +kernel
theorem dX6_play_398 : decode cX6_play 398 = .ok (.iconst 3, 1) := by decide +kernel
theorem dX6_play_399 : decode cX6_play 399 = .ok (.iload 5, 2) := by decide +kernel
theorem dX6_play_401 : decode cX6_play 401 = .ok (.iastore, 1) := by decide +kernel
theorem dX6_play_402 : decode cX6_play 402 = .ok (.astore 9, 2) := by decide +kernel
theorem dX6_play_404 : decode cX6_play 404 = .ok (.aload 9, 2) := by decide +kernel
theorem dX6_play_406 : decode cX6_play 406 = .ok (.iconst 0, 1) := by decide +kernel
theorem dX6_play_407 : decode cX6_play 407 = .ok (.aload_n 0, 1) := by decide +kernel
theorem dX6_play_408 : decode cX6_play 408 = .ok (.getfield 43, 3) := by decide +kernel
theorem dX6_play_411 : decode cX6_play 411 = .ok (.iconst 4, 1) := by decide +kernel
theorem dX6_play_412 : decode cX6_play 412 = .ok (.iload_n 1, 1) := by decide +kernel
theorem dX6_play_413 : decode cX6_play 413 = .ok (.imul, 1) := by decide +kernel
theorem dX6_play_414 : decode cX6_play 414 = .ok (.iconst 4, 1) := by decide +kernel
theorem dX6_play_415 : decode cX6_play 415 = .ok (.invokestatic 49, 3) := by decide +kernel
theorem dX6_play_418 : decode cX6_play 418 = .ok (.aload_n 0, 1) := by decide +kernel
theorem dX6_play_419 : decode cX6_play 419 = .ok (.getfield 40, 3) := by decide +kernel
theorem dX6_play_422 : decode cX6_play 422 = .ok (.iload_n 1, 1) := by decide +kernel
theorem dX6_play_423 : decode cX6_play 423 = .ok (.dup2, 1) := by decide +kernel
theorem dX6_play_424 : decode cX6_play 424 = .ok (.iaload, 1) := by decide +kernel
theorem dX6_play_425 : decode cX6_play 425 = .ok (.iload 8, 2) := by decide +kernel
theorem dX6_play_427 : decode cX6_play 427 = .ok (.ifCond .eq 7, 3) := by decide +kernel
theorem dX6_play_430 : decode cX6_play 430 = .ok (.iconst 1, 1) := by decide +kernel
theorem dX6_play_431 : decode cX6_play 431 = .ok (.goto 4, 3) := by decide +kernel
theorem dX6_play_434 : decode cX6_play 434 = .ok (.iconst 0, 1) := by decide +kernel
theorem dX6_play_435 : decode cX6_play 435 = .ok (.iadd, 1) := by decide +kernel
theorem dX6_play_436 : decode cX6_play 436 = .ok (.iastore, 1) := by decide +kernel
theorem dX6_play_437 : decode cX6_play 437 = .ok (.aload_n 0, 1) := by decide +kernel
theorem dX6_play_438 : decode cX6_play 438 = .ok (.dup, 1) := by decide +kernel
theorem dX6_play_439 : decode cX6_play 439 = .ok (.getfield 59, 3) := by decide +kernel
theorem dX6_play_442 : decode cX6_play 442 = .ok (.iload 4, 2) := by decide +kernel
theorem dX6_play_444 : decode cX6_play 444 = .ok (.iadd, 1) := by decide +kernel
theorem dX6_play_445 : decode cX6_play 445 = .ok (.putfield 59, 3) := by decide +kernel
theorem dX6_play_448 : decode cX6_play 448 = .ok (.aload_n 0, 1) := by decide +kernel
theorem dX6_play_449 : decode cX6_play 449 = .ok (.dup, 1) := by decide +kernel
theorem dX6_play_450 : decode cX6_play 450 = .ok (.getfield 62, 3) := by decide +kernel
theorem dX6_play_453 : decode cX6_play 453 = .ok (.iload 5, 2) := by decide +kernel
theorem dX6_play_455 : decode cX6_play 455 = .ok (.iadd, 1) := by decide +kernel
theorem dX6_play_456 : decode cX6_play 456 = .ok (.putfield 62, 3) := by decide +kernel
theorem dX6_play_459 : decode cX6_play 459 = .ok (.iconst 0, 1) := by decide +kernel
theorem dX6_play_460 : decode cX6_play 460 = .ok (.istore 10, 2) := by decide +kernel
theorem dX6_play_462 : decode cX6_play 462 = .ok (.iload 10, 2) := by decide +kernel
theorem dX6_play_464 : decode cX6_play 464 = .ok (.aload_n 0, 1) := by decide +kernel
theorem dX6_play_465 : decode cX6_play 465 = .ok (.getfield 3, 3) := by decide +kernel
theorem dX6_play_468 : decode cX6_play 468 = .ok (.getfield 78, 3) := by decide +kernel
theorem dX6_play_471 : decode cX6_play 471 = .ok (.if_icmp .ge 82, 3) := by decide +kernel
theorem dX6_play_474 : decode cX6_play 474 = .ok (.aload_n 0, 1) := by decide +kernel
theorem dX6_play_475 : decode cX6_play 475 = .ok (.iload_n 1, 1) := by decide +kernel
theorem dX6_play_476 : decode cX6_play 476 = .ok (.iload 10, 2) := by decide +kernel
theorem dX6_play_478 : decode cX6_play 478 = .ok (.invokevirtual 81, 3) := by decide +kernel
theorem dX6_play_481 : decode cX6_play 481 = .ok (.istore 11, 2) := by decide +kernel
theorem dX6_play_483 : decode cX6_play 483 = .ok (.aload_n 0, 1) := by decide +kernel
theorem dX6_play_484 : decode cX6_play 484 = .ok (.getfield 15, 3) := by decide +kernel
theorem dX6_play_487 : decode cX6_play 487 = .ok (.iload 10, 2) := by decide +kernel
theorem dX6_play_489 : decode cX6_play 489 = .ok (.iload 11, 2) := by decide +kernel
theorem dX6_play_491 : decode cX6_play 491 = .ok (.ifCond .eq 21, 3) := by decide +kernel
theorem dX6_play_494 : decode cX6_play 494 = .ok (.bipush 100, 2) := by decide +kernel
theorem dX6_play_496 : decode cX6_play 496 = .ok (.aload_n 0, 1) := by decide +kernel
theorem dX6_play_497 : decode cX6_play 497 = .ok (.getfield 15, 3) := by decide +kernel
theorem dX6_play_500 : decode cX6_play 500 = .ok (.iload 10, 2) := by decide +kernel
theorem dX6_play_502 : decode cX6_play 502 = .ok (.iaload, 1) := by decide +kernel
theorem dX6_play_503 : decode cX6_play 503 = .ok (.bipush 15, 2) := by decide +kernel
theorem dX6_play_505 : decode cX6_play 505 = .ok (.iadd, 1) := by decide +kernel
theorem dX6_play_506 : decode cX6_play 506 = .ok (.invokestatic 100, 3) := by decide +kernel
theorem dX6_play_509 : decode cX6_play 509 = .ok (.goto 17, 3) := by decide +kernel
theorem dX6_play_512 : decode cX6_play 512 = .ok (.iconst 0, 1) := by decide +kernel
theorem dX6_play_513 : decode cX6_play 513 = .ok (.aload_n 0, 1) := by decide +kernel
theorem dX6_play_514 : decode cX6_play 514 = .ok (.getfield 15, 3) := by decide +kernel
theorem dX6_play_517 : decode cX6_play 517 = .ok (.iload 10, 2) := by decide +kernel
theorem dX6_play_519 : decode cX6_play 519 = .ok (.iaload, 1) := by decide +kernel
theorem dX6_play_520 : decode cX6_play 520 = .ok (.bipush 10, 2) := by decide +kernel
theorem dX6_play_522 : decode cX6_play 522 = .ok (.isub, 1) := by decide +kernel
theorem dX6_play_523 : decode cX6_play 523 = .ok (.invokestatic 95, 3) := by decide +kernel
theorem dX6_play_526 : decode cX6_play 526 = .ok (.iastore, 1) := by decide +kernel
theorem dX6_play_527 : decode cX6_play 527 = .ok (.aload_n 0, 1) := by decide +kernel
theorem dX6_play_528 : decode cX6_play 528 = .ok (.getfield 22, 3) := by decide +kernel
theorem dX6_play_531 : decode cX6_play 531 = .ok (.iload 10, 2) := by decide +kernel
theorem dX6_play_533 : decode cX6_play 533 = .ok (.dup2, 1) := by decide +kernel
theorem dX6_play_534 : decode cX6_play 534 = .ok (.iaload, 1) := by decide +kernel
theorem dX6_play_535 : decode cX6_play 535 = .ok (.iload 11, 2) := by decide +kernel
theorem dX6_play_537 : decode cX6_play 537 = .ok (.ifCond .eq 7, 3) := by decide +kernel
theorem dX6_play_540 : decode cX6_play 540 = .ok (.iconst 1, 1) := by decide +kernel
theorem dX6_play_541 : decode cX6_play 541 = .ok (.goto 4, 3) := by decide +kernel
theorem dX6_play_544 : decode cX6_play 544 = .ok (.iconst 0, 1) := by decide +kernel
theorem dX6_play_545 : decode cX6_play 545 = .ok (.iadd, 1) := by decide +kernel
theorem dX6_play_546 : decode cX6_play 546 = .ok (.iastore, 1) := by decide +kernel
theorem dX6_play_547 : decode cX6_play 547 = .ok (.iinc 10 1, 3) := by decide +kernel
theorem dX6_play_550 : decode cX6_play 550 = .ok (.goto (-88), 3) := by decide +kernel
theorem dX6_play_553 : decode cX6_play 553 = .ok (.return_, 1) := by decide +kernel
theorem dX6_isAhead_0 : decode cX6_isAhead 0 = .ok (.aload_n 0, 1) := by decide +kernel
theorem dX6_isAhead_1 : decode cX6_isAhead 1 = .ok (.getfield 43, 3) := by decide +kernel
theorem dX6_isAhead_4 : decode cX6_isAhead 4 = .ok (.iconst 4, 1) := by decide +kernel
theorem dX6_isAhead_5 : decode cX6_isAhead 5 = .ok (.iload_n 1, 1) := by decide +kernel
theorem dX6_isAhead_6 : decode cX6_isAhead 6 = .ok (.imul, 1) := by decide +kernel
theorem dX6_isAhead_7 : decode cX6_isAhead 7 = .ok (.iaload, 1) := by decide +kernel
theorem dX6_isAhead_8 : decode cX6_isAhead 8 = .ok (.aload_n 0, 1) := by decide +kernel
theorem dX6_isAhead_9 : decode cX6_isAhead 9 = .ok (.getfield 43, 3) := by decide +kernel
theorem dX6_isAhead_12 : decode cX6_isAhead 12 = .ok (.iconst 4, 1) := by decide +kernel
theorem dX6_isAhead_13 : decode cX6_isAhead 13 = .ok (.iload_n 2, 1) := by decide +kernel
theorem dX6_isAhead_14 : decode cX6_isAhead 14 = .ok (.imul, 1) := by decide +kernel
theorem dX6_isAhead_15 : decode cX6_isAhead 15 = .ok (.iaload, 1) := by decide +kernel
theorem dX6_isAhead_16 : decode cX6_isAhead 16 = .ok (.if_icmp .eq 28, 3) := by decide +kernel
theorem dX6_isAhead_19 : decode cX6_isAhead 19 = .ok (.aload_n 0, 1) := by decide +kernel
theorem dX6_isAhead_20 : decode cX6_isAhead 20 = .ok (.getfield 43, 3) := by decide +kernel
theorem dX6_isAhead_23 : decode cX6_isAhead 23 = .ok (.iconst 4, 1) := by decide +kernel
theorem dX6_isAhead_24 : decode cX6_isAhead 24 = .ok (.iload_n 1, 1) := by decide +kernel
theorem dX6_isAhead_25 : decode cX6_isAhead 25 = .ok (.imul, 1) := by decide +kernel
theorem dX6_isAhead_26 : decode cX6_isAhead 26 = .ok (.iaload, 1) := by decide +kernel
theorem dX6_isAhead_27 : decode cX6_isAhead 27 = .ok (.aload_n 0, 1) := by decide +kernel
theorem dX6_isAhead_28 : decode cX6_isAhead 28 = .ok (.getfield 43, 3) := by decide +kernel
theorem dX6_isAhead_31 : decode cX6_isAhead 31 = .ok (.iconst 4, 1) := by decide +kernel
theorem dX6_isAhead_32 : decode cX6_isAhead 32 = .ok (.iload_n 2, 1) := by decide +kernel
theorem dX6_isAhead_33 : decode cX6_isAhead 33 = .ok (.imul, 1) := by decide +kernel
theorem dX6_isAhead_34 : decode cX6_isAhead 34 = .ok (.iaload, 1) := by decide +kernel
theorem dX6_isAhead_35 : decode cX6_isAhead 35 = .ok (.if_icmp .le 7, 3) := by decide +kernel
theorem dX6_isAhead_38 : decode cX6_isAhead 38 = .ok (.iconst 1, 1) := by decide +kernel
theorem dX6_isAhead_39 : decode cX6_isAhead 39 = .ok (.goto 4, 3) := by decide +kernel
theorem dX6_isAhead_42 : decode cX6_isAhead 42 = .ok (.iconst 0, 1) := by decide +kernel
theorem dX6_isAhead_43 : decode cX6_isAhead 43 = .ok (.ireturn, 1) := by decide +kernel
theorem dX6_isAhead_44 : decode cX6_isAhead 44 = .ok (.aload_n 0, 1) := by decide +kernel
theorem dX6_isAhead_45 : decode cX6_isAhead 45 = .ok (.getfield 43, 3) := by decide +kernel
theorem dX6_isAhead_48 : decode cX6_isAhead 48 = .ok (.iconst 4, 1) := by decide +kernel
theorem dX6_isAhead_49 : decode cX6_isAhead 49 = .ok (.iload_n 1, 1) := by decide +kernel
theorem dX6_isAhead_50 : decode cX6_isAhead 50 = .ok (.imul, 1) := by decide +kernel
theorem dX6_isAhead_51 : decode cX6_isAhead 51 = .ok (.iconst 2, 1) := by decide +kernel
theorem dX6_isAhead_52 : decode cX6_isAhead 52 = .ok (.iadd, 1) := by decide +kernel
theorem dX6_isAhead_53 : decode cX6_isAhead 53 = .ok (.iaload, 1) := by decide +kernel
theorem dX6_isAhead_54 : decode cX6_isAhead 54 = .ok (.aload_n 0, 1) := by decide +kernel
theorem dX6_isAhead_55 : decode cX6_isAhead 55 = .ok (.getfield 43, 3) := by decide +kernel
theorem dX6_isAhead_58 : decode cX6_isAhead 58 = .ok (.iconst 4, 1) := by decide +kernel
theorem dX6_isAhead_59 : decode cX6_isAhead 59 = .ok (.iload_n 2, 1) := by decide +kernel
theorem dX6_isAhead_60 : decode cX6_isAhead 60 = .ok (.imul, 1) := by decide +kernel
theorem dX6_isAhead_61 : decode cX6_isAhead 61 = .ok (.iconst 2, 1) := by decide +kernel
theorem dX6_isAhead_62 : decode cX6_isAhead 62 = .ok (.iadd, 1) := by decide +kernel
theorem dX6_isAhead_63 : decode cX6_isAhead 63 = .ok (.iaload, 1) := by decide +kernel
theorem dX6_isAhead_64 : decode cX6_isAhead 64 = .ok (.if_icmp .eq 34, 3) := by decide +kernel
theorem dX6_isAhead_67 : decode cX6_isAhead 67 = .ok (.aload_n 0, 1) := by decide +kernel
theorem dX6_isAhead_68 : decode cX6_isAhead 68 = .ok (.getfield 43, 3) := by decide +kernel
theorem dX6_isAhead_71 : decode cX6_isAhead 71 = .ok (.iconst 4, 1) := by decide +kernel
theorem dX6_isAhead_72 : decode cX6_isAhead 72 = .ok (.iload_n 1, 1) := by decide +kernel
theorem dX6_isAhead_73 : decode cX6_isAhead 73 = .ok (.imul, 1) := by decide +kernel
theorem dX6_isAhead_74 : decode cX6_isAhead 74 = .ok (.iconst 2, 1) := by decide +kernel
theorem dX6_isAhead_75 : decode cX6_isAhead 75 = .ok (.iadd, 1) := by decide +kernel
theorem dX6_isAhead_76 : decode cX6_isAhead 76 = .ok (.iaload, 1) := by decide +kernel
theorem dX6_isAhead_77 : decode cX6_isAhead 77 = .ok (.aload_n 0, 1) := by decide +kernel
theorem dX6_isAhead_78 : decode cX6_isAhead 78 = .ok (.getfield 43, 3) := by decide +kernel
theorem dX6_isAhead_81 : decode cX6_isAhead 81 = .ok (.iconst 4, 1) := by decide +kernel
theorem dX6_isAhead_82 : decode cX6_isAhead 82 = .ok (.iload_n 2, 1) := by decide +kernel
theorem dX6_isAhead_83 : decode cX6_isAhead 83 = .ok (.imul, 1) := by decide +kernel
theorem dX6_isAhead_84 : decode cX6_isAhead 84 = .ok (.iconst 2, 1) := by decide +kernel
theorem dX6_isAhead_85 : decode cX6_isAhead 85 = .ok (.iadd, 1) := by decide +kernel
theorem dX6_isAhead_86 : decode cX6_isAhead 86 = .ok (.iaload, 1) := by decide +kernel
theorem dX6_isAhead_87 : decode cX6_isAhead 87 = .ok (.if_icmp .ge 7, 3) := by decide +kernel
theorem dX6_isAhead_90 : decode cX6_isAhead 90 = .ok (.iconst 1, 1) := by decide +kernel
theorem dX6_isAhead_91 : decode cX6_isAhead 91 = .ok (.goto 17, 3) := by decide +kernel
theorem dX6_isAhead_94 : decode cX6_isAhead 94 = .ok (.iconst 0, 1) := by decide +kernel
theorem dX6_isAhead_95 : decode cX6_isAhead 95 = .ok (.goto 13, 3) := by decide +kernel
theorem dX6_isAhead_98 : decode cX6_isAhead 98 = .ok (.iload_n 1, 1) := by decide +kernel
theorem dX6_isAhead_99 : decode cX6_isAhead 99 = .ok (.iload_n 2, 1) := by decide +kernel
theorem dX6_isAhead_100 : decode cX6_isAhead 100 = .ok (.if_icmp .ge 7, 3) := by decide +kernel
theorem dX6_isAhead_103 : decode cX6_isAhead 103 = .ok (.iconst 1, 1) := by decide +kernel
theorem dX6_isAhead_104 : decode cX6_isAhead 104 = .ok (.goto 4, 3) := by decide +kernel
theorem dX6_isAhead_107 : decode cX6_isAhead 107 = .ok (.iconst 0, 1) := by decide +kernel
theorem dX6_isAhead_108 : decode cX6_isAhead 108 = .ok (.ireturn, 1) := by decide +kernel
theorem dX6_contest_0 : decode cX6_contest 0 = .ok (.iconst 0, 1) := by decide +kernel
theorem dX6_contest_1 : decode cX6_contest 1 = .ok (.istore_n 1, 1) := by decide +kernel
theorem dX6_contest_2 : decode cX6_contest 2 = .ok (.iload_n 1, 1) := by decide +kernel
theorem dX6_contest_3 : decode cX6_contest 3 = .ok (.aload_n 0, 1) := by decide +kernel
theorem dX6_contest_4 : decode cX6_contest 4 = .ok (.getfield 3, 3) := by decide +kernel
theorem dX6_contest_7 : decode cX6_contest 7 = .ok (.getfield 78, 3) := by decide +kernel
theorem dX6_contest_10 : decode cX6_contest 10 = .ok (.if_icmp .ge 16, 3) := by decide +kernel
theorem dX6_contest_13 : decode cX6_contest 13 = .ok (.aload_n 0, 1) := by decide +kernel
theorem dX6_contest_14 : decode cX6_contest 14 = .ok (.getfield 46, 3) := by decide +kernel
theorem dX6_contest_17 : decode cX6_contest 17 = .ok (.iload_n 1, 1) := by decide +kernel
theorem dX6_contest_18 : decode cX6_contest 18 = .ok (.iconst 0, 1) := by decide +kernel
theorem dX6_contest_19 : decode cX6_contest 19 = .ok (.iastore, 1) := by decide +kernel
theorem dX6_contest_20 : decode cX6_contest 20 = .ok (.iinc 1 1, 3) := by decide +kernel
theorem dX6_contest_23 : decode cX6_contest 23 = .ok (.goto (-21), 3) := by decide +kernel
theorem dX6_contest_26 : decode cX6_contest 26 = .ok (.iconst 0, 1) := by decide +kernel
theorem dX6_contest_27 : decode cX6_contest 27 = .ok (.istore_n 1, 1) := by decide +kernel
theorem dX6_contest_28 : decode cX6_contest 28 = .ok (.iload_n 1, 1) := by decide +kernel
theorem dX6_contest_29 : decode cX6_contest 29 = .ok (.aload_n 0, 1) := by decide +kernel
theorem dX6_contest_30 : decode cX6_contest 30 = .ok (.getfield 3, 3) := by decide +kernel
theorem dX6_contest_33 : decode cX6_contest 33 = .ok (.getfield 103, 3) := by decide +kernel
theorem dX6_contest_36 : decode cX6_contest 36 = .ok (.if_icmp .ge 27, 3) := by decide +kernel
theorem dX6_contest_39 : decode cX6_contest 39 = .ok (.aload_n 0, 1) := by decide +kernel
theorem dX6_contest_40 : decode cX6_contest 40 = .ok (.aload_n 0, 1) := by decide +kernel
theorem dX6_contest_41 : decode cX6_contest 41 = .ok (.getfield 55, 3) := by decide +kernel
theorem dX6_contest_44 : decode cX6_contest 44 = .ok (.iload_n 1, 1) := by decide +kernel
theorem dX6_contest_45 : decode cX6_contest 45 = .ok (.iadd, 1) := by decide +kernel
theorem dX6_contest_46 : decode cX6_contest 46 = .ok (.aload_n 0, 1) := by decide +kernel
theorem dX6_contest_47 : decode cX6_contest 47 = .ok (.getfield 3, 3) := by decide +kernel
theorem dX6_contest_50 : decode cX6_contest 50 = .ok (.getfield 103, 3) := by decide +kernel
theorem dX6_contest_53 : decode cX6_contest 53 = .ok (.irem, 1) := by decide +kernel
theorem dX6_contest_54 : decode cX6_contest 54 = .ok (.invokevirtual 106, 3) := by decide +kernel
theorem dX6_contest_57 : decode cX6_contest 57 = .ok (.iinc 1 1, 3) := by decide +kernel
theorem dX6_contest_60 : decode cX6_contest 60 = .ok (.goto (-32), 3) := by decide +kernel
theorem dX6_contest_63 : decode cX6_contest 63 = .ok (.iconst (-1), 1) := by decide +kernel
theorem dX6_contest_64 : decode cX6_contest 64 = .ok (.istore_n 1, 1) := by decide +kernel
theorem dX6_contest_65 : decode cX6_contest 65 = .ok (.iconst 0, 1) := by decide +kernel
theorem dX6_contest_66 : decode cX6_contest 66 = .ok (.istore_n 2, 1) := by decide +kernel
theorem dX6_contest_67 : decode cX6_contest 67 = .ok (.iload_n 2, 1) := by decide +kernel
theorem dX6_contest_68 : decode cX6_contest 68 = .ok (.aload_n 0, 1) := by decide +kernel
theorem dX6_contest_69 : decode cX6_contest 69 = .ok (.getfield 3, 3) := by decide +kernel
theorem dX6_contest_72 : decode cX6_contest 72 = .ok (.getfield 103, 3) := by decide +kernel
theorem dX6_contest_75 : decode cX6_contest 75 = .ok (.if_icmp .ge 216, 3) := by decide +kernel
theorem dX6_contest_78 : decode cX6_contest 78 = .ok (.iconst 0, 1) := by decide +kernel
theorem dX6_contest_79 : decode cX6_contest 79 = .ok (.istore_n 3, 1) := by decide +kernel
theorem dX6_contest_80 : decode cX6_contest 80 = .ok (.iconst 0, 1) := by decide +kernel
theorem dX6_contest_81 : decode cX6_contest 81 = .ok (.istore 4, 2) := by decide +kernel
theorem dX6_contest_83 : decode cX6_contest 83 = .ok (.iload 4, 2) := by decide +kernel
theorem dX6_contest_85 : decode cX6_contest 85 = .ok (.aload_n 0, 1) := by decide +kernel
theorem dX6_contest_86 : decode cX6_contest 86 = .ok (.getfield 3, 3) := by decide +kernel
theorem dX6_contest_89 : decode cX6_contest 89 = .ok (.getfield 103, 3) := by decide +kernel
theorem dX6_contest_92 : decode cX6_contest 92 = .ok (.if_icmp .ge 33, 3) := by decide +kernel
theorem dX6_contest_95 : decode cX6_contest 95 = .ok (.iload_n 3, 1) := by decide +kernel
theorem dX6_contest_96 : decode cX6_contest 96 = .ok (.iload 4, 2) := by decide +kernel
theorem dX6_contest_98 : decode cX6_contest 98 = .ok (.iload_n 2, 1) := by decide +kernel
theorem dX6_contest_99 : decode cX6_contest 99 = .ok (.if_icmp .eq 17, 3) := by decide +kernel
theorem dX6_contest_102 : decode cX6_contest 102 = .ok (.aload_n 0, 1) := by decide +kernel
theorem dX6_contest_103 : decode cX6_contest 103 = .ok (.iload 4, 2) := by decide +kernel
theorem dX6_contest_105 : decode cX6_contest 105 = .ok (.iload_n 2, 1) := by decide +kernel
theorem dX6_contest_106 : decode cX6_contest 106 = .ok (.invokevirtual 110, 3) := by decide +kernel
theorem dX6_contest_109 : decode cX6_contest 109 = .ok (.ifCond .eq 7, 3) := by decide +kernel
theorem dX6_contest_112 : decode cX6_contest 112 = .ok (.iconst 1, 1) := by decide +kernel
theorem dX6_contest_113 : decode cX6_contest 113 = .ok (.goto 4, 3) := by decide +kernel
theorem dX6_contest_116 : decode cX6_contest 116 = .ok (.iconst 0, 1) := by decide +kernel
theorem dX6_contest_117 : decode cX6_contest 117 = .ok (.iadd, 1) := by decide +kernel
theorem dX6_contest_118 : decode cX6_contest 118 = .ok (.istore_n 3, 1) := by decide +kernel
theorem dX6_contest_119 : decode cX6_contest 119 = .ok (.iinc 4 1, 3) := by decide +kernel
theorem dX6_contest_122 : decode cX6_contest 122 = .ok (.goto (-39), 3) := by decide +kernel
theorem dX6_contest_125 : decode cX6_contest 125 = .ok (.aload_n 0, 1) := by decide +kernel
theorem dX6_contest_126 : decode cX6_contest 126 = .ok (.getfield 43, 3) := by decide +kernel
theorem dX6_contest_129 : decode cX6_contest 129 = .ok (.iconst 4, 1) := by decide +kernel
theorem dX6_contest_130 : decode cX6_contest 130 = .ok (.iload_n 2, 1) := by decide +kernel
theorem dX6_contest_131 : decode cX6_contest 131 = .ok (.imul, 1) := by decide +kernel
theorem dX6_contest_132 : decode cX6_contest 132 = .ok (.iconst 1, 1) := by decide +kernel
theorem dX6_contest_133 : decode cX6_contest 133 = .ok (.iadd, 1) := by decide +kernel
theorem dX6_contest_134 : decode cX6_contest 134 = .ok (.iload_n 3, 1) := by decide +kernel
theorem dX6_contest_135 : decode cX6_contest 135 = .ok (.iastore, 1) := by decide +kernel
theorem dX6_contest_136 : decode cX6_contest 136 = .ok (.iload_n 3, 1) := by decide +kernel
theorem dX6_contest_137 : decode cX6_contest 137 = .ok (.ifCond .ne 5, 3) := by decide +kernel
theorem dX6_contest_140 : decode cX6_contest 140 = .ok (.iload_n 2, 1) := by decide +kernel
theorem dX6_contest_141 : decode cX6_contest 141 = .ok (.istore_n 1, 1) := by decide +kernel
theorem dX6_contest_142 : decode cX6_contest 142 = .ok (.aload_n 0, 1) := by decide +kernel
theorem dX6_contest_143 : decode cX6_contest 143 = .ok (.getfield 37, 3) := by decide +kernel
theorem dX6_contest_146 : decode cX6_contest 146 = .ok (.iload_n 2, 1) := by decide +kernel
theorem dX6_contest_147 : decode cX6_contest 147 = .ok (.dup2, 1) := by decide +kernel
theorem dX6_contest_148 : decode cX6_contest 148 = .ok (.iaload, 1) := by decide +kernel
theorem dX6_contest_149 : decode cX6_contest 149 = .ok (.aload_n 0, 1) := by decide +kernel
theorem dX6_contest_150 : decode cX6_contest 150 = .ok (.getfield 43, 3) := by decide +kernel
theorem dX6_contest_153 : decode cX6_contest 153 = .ok (.iconst 4, 1) := by decide +kernel
theorem dX6_contest_154 : decode cX6_contest 154 = .ok (.iload_n 2, 1) := by decide +kernel
theorem dX6_contest_155 : decode cX6_contest 155 = .ok (.imul, 1) := by decide +kernel
theorem dX6_contest_156 : decode cX6_contest 156 = .ok (.iaload, 1) := by decide +kernel
theorem dX6_contest_157 : decode cX6_contest 157 = .ok (.ifCond .eq 8, 3) := by decide +kernel
theorem dX6_contest_160 : decode cX6_contest 160 = .ok (.iload_n 3, 1) := by decide +kernel
theorem dX6_contest_161 : decode cX6_contest 161 = .ok (.iconst 2, 1) := by decide +kernel
theorem dX6_contest_162 : decode cX6_contest 162 = .ok (.if_icmp .le 7, 3) := by decide +kernel
theorem dX6_contest_165 : decode cX6_contest 165 = .ok (.iconst 0, 1) := by decide +kernel
theorem dX6_contest_166 : decode cX6_contest 166 = .ok (.goto 8, 3) := by decide +kernel
theorem dX6_contest_169 : decode cX6_contest 169 = .ok (.iconst 5, 1) := by decide +kernel
theorem dX6_contest_170 : decode cX6_contest 170 = .ok (.iconst 2, 1) := by decide +kernel
theorem dX6_contest_171 : decode cX6_contest 171 = .ok (.iload_n 3, 1) := by decide +kernel
theorem dX6_contest_172 : decode cX6_contest 172 = .ok (.imul, 1) := by decide +kernel
theorem dX6_contest_173 : decode cX6_contest 173 = .ok (.isub, 1) := by decide +kernel
theorem dX6_contest_174 : decode cX6_contest 174 = .ok (.iadd, 1) := by decide +kernel
theorem dX6_contest_175 : decode cX6_contest 175 = .ok (.iastore, 1) := by decide +kernel
theorem dX6_contest_176 : decode cX6_contest 176 = .ok (.iconst 0, 1) := by decide +kernel
theorem dX6_contest_177 : decode cX6_contest 177 = .ok (.istore 4, 2) := by decide +kernel
theorem dX6_contest_179 : decode cX6_contest 179 = .ok (.bipush 8, 2) := by decide +kernel
theorem dX6_contest_181 : decode cX6_contest 181 = .ok (.iload_n 2, 1) := by decide +kernel
theorem dX6_contest_182 : decode cX6_contest 182 = .ok (.imul, 1) := by decide +kernel
theorem dX6_contest_183 : decode cX6_contest 183 = .ok (.istore 5, 2) := by decide +kernel
theorem dX6_contest_185 : decode cX6_contest 185 = .ok (.iload 5, 2) := by decide +kernel
theorem dX6_contest_187 : decode cX6_contest 187 = .ok (.bipush 8, 2) := by decide +kernel
theorem dX6_contest_189 : decode cX6_contest 189 = .ok (.iload_n 2, 1) := by decide +kernel
theorem dX6_contest_190 : decode cX6_contest 190 = .ok (.imul, 1) := by decide +kernel
theorem dX6_contest_191 : decode cX6_contest 191 = .ok (.aload_n 0, 1) := by decide +kernel
theorem dX6_contest_192 : decode cX6_contest 192 = .ok (.getfield 3, 3) := by decide +kernel
theorem dX6_contest_195 : decode cX6_contest 195 = .ok (.getfield 69, 3) := by decide +kernel
theorem dX6_contest_198 : decode cX6_contest 198 = .ok (.iload_n 2, 1) := by decide +kernel
theorem dX6_contest_199 : decode cX6_contest 199 = .ok (.iaload, 1) := by decide +kernel
theorem dX6_contest_200 : decode cX6_contest 200 = .ok (.iadd, 1) := by decide +kernel
theorem dX6_contest_201 : decode cX6_contest 201 = .ok (.if_icmp .ge 47, 3) := by decide +kernel
theorem dX6_contest_204 : decode cX6_contest 204 = .ok (.iload 4, 2) := by decide +kernel
theorem dX6_contest_206 : decode cX6_contest 206 = .ok (.aload_n 0, 1) := by decide +kernel
theorem dX6_contest_207 : decode cX6_contest 207 = .ok (.getfield 31, 3) := by decide +kernel
theorem dX6_contest_210 : decode cX6_contest 210 = .ok (.iload 5, 2) := by decide +kernel
theorem dX6_contest_212 : decode cX6_contest 212 = .ok (.iaload, 1) := by decide +kernel
theorem dX6_contest_213 : decode cX6_contest 213 = .ok (.iconst (-1), 1) := by decide +kernel
theorem dX6_contest_214 : decode cX6_contest 214 = .ok (.if_icmp .eq 24, 3) := by decide +kernel
theorem dX6_contest_217 : decode cX6_contest 217 = .ok (.aload_n 0, 1) := by decide +kernel
theorem dX6_contest_218 : decode cX6_contest 218 = .ok (.getfield 31, 3) := by decide +kernel
theorem dX6_contest_221 : decode cX6_contest 221 = .ok (.iload 5, 2) := by decide +kernel
theorem dX6_contest_223 : decode cX6_contest 223 = .ok (.iaload, 1) := by decide +kernel
theorem dX6_contest_224 : decode cX6_contest 224 = .ok (.aload_n 0, 1) := by decide +kernel
theorem dX6_contest_225 : decode cX6_contest 225 = .ok (.getfield 28, 3) := by decide +kernel
theorem dX6_contest_228 : decode cX6_contest 228 = .ok (.iload 5, 2) := by decide +kernel
theorem dX6_contest_230 : decode cX6_contest 230 = .ok (.iaload, 1) := by decide +kernel
theorem dX6_contest_231 : decode cX6_contest 231 = .ok (.if_icmp .ne 7, 3) := by decide +kernel
theorem dX6_contest_234 : decode cX6_contest 234 = .ok (.iconst 1, 1) := by decide +kernel
theorem dX6_contest_235 : decode cX6_contest 235 = .ok (.goto 4, 3) := by decide +kernel
theorem dX6_contest_238 : decode cX6_contest 238 = .ok (.iconst 0, 1) := by decide +kernel
theorem dX6_contest_239 : decode cX6_contest 239 = .ok (.iadd, 1) := by decide +kernel
theorem dX6_contest_240 : decode cX6_contest 240 = .ok (.istore 4, 2) := by decide +kernel
theorem dX6_contest_242 : decode cX6_contest 242 = .ok (.iinc 5 1, 3) := by decide +kernel
theorem dX6_contest_245 : decode cX6_contest 245 = .ok (.goto (-60), 3) := by decide +kernel
theorem dX6_contest_248 : decode cX6_contest 248 = .ok (.aload_n 0, 1) := by decide +kernel
theorem dX6_contest_249 : decode cX6_contest 249 = .ok (.getfield 34, 3) := by decide +kernel
theorem dX6_contest_252 : decode cX6_contest 252 = .ok (.iload_n 2, 1) := by decide +kernel
theorem dX6_contest_253 : decode cX6_contest 253 = .ok (.iconst 0, 1) := by decide +kernel
theorem dX6_contest_254 : decode cX6_contest 254 = .ok (.bipush 50, 2) := by decide +kernel
theorem dX6_contest_256 : decode cX6_contest 256 = .ok (.aload_n 0, 1) := by decide +kernel
theorem dX6_contest_257 : decode cX6_contest 257 = .ok (.getfield 34, 3) := by decide +kernel
theorem dX6_contest_260 : decode cX6_contest 260 = .ok (.iload_n 2, 1) := by decide +kernel
theorem dX6_contest_261 : decode cX6_contest 261 = .ok (.iaload, 1) := by decide +kernel
theorem dX6_contest_262 : decode cX6_contest 262 = .ok (.iload 4, 2) := by decide +kernel
theorem dX6_contest_264 : decode cX6_contest 264 = .ok (.iadd, 1) := by decide +kernel
theorem dX6_contest_265 : decode cX6_contest 265 = .ok (.iconst 2, 1) := by decide +kernel
theorem dX6_contest_266 : decode cX6_contest 266 = .ok (.aload_n 0, 1) := by decide +kernel
theorem dX6_contest_267 : decode cX6_contest 267 = .ok (.getfield 43, 3) := by decide +kernel
theorem dX6_contest_270 : decode cX6_contest 270 = .ok (.iconst 4, 1) := by decide +kernel
theorem dX6_contest_271 : decode cX6_contest 271 = .ok (.iload_n 2, 1) := by decide +kernel
theorem dX6_contest_272 : decode cX6_contest 272 = .ok (.imul, 1) := by decide +kernel
theorem dX6_contest_273 : decode cX6_contest 273 = .ok (.iconst 2, 1) := by decide +kernel
theorem dX6_contest_274 : decode cX6_contest 274 = .ok (.iadd, 1) := by decide +kernel
theorem dX6_contest_275 : decode cX6_contest 275 = .ok (.iaload, 1) := by decide +kernel
theorem dX6_contest_276 : decode cX6_contest 276 = .ok (.imul, 1) := by decide +kernel
theorem dX6_contest_277 : decode cX6_contest 277 = .ok (.isub, 1) := by decide +kernel
theorem dX6_contest_278 : decode cX6_contest 278 = .ok (.invokestatic 100, 3) := by decide +kernel
theorem dX6_contest_281 : decode cX6_contest 281 = .ok (.invokestatic 95, 3) := by decide +kernel
theorem dX6_contest_284 : decode cX6_contest 284 = .ok (.iastore, 1) := by decide +kernel
theorem dX6_contest_285 : decode cX6_contest 285 = .ok (.iinc 2 1, 3) := by decide +kernel
theorem dX6_contest_288 : decode cX6_contest 288 = .ok (.goto (-221), 3) := by decide +kernel
theorem dX6_contest_291 : decode cX6_contest 291 = .ok (.iconst 0, 1) := by decide +kernel
theorem dX6_contest_292 : decode cX6_contest 292 = .ok (.istore_n 2, 1) := by decide +kernel
theorem dX6_contest_293 : decode cX6_contest 293 = .ok (.iload_n 2, 1) := by decide +kernel
theorem dX6_contest_294 : decode cX6_contest 294 = .ok (.aload_n 0, 1) := by decide +kernel
theorem dX6_contest_295 : decode cX6_contest 295 = .ok (.getfield 3, 3) := by decide +kernel
theorem dX6_contest_298 : decode cX6_contest 298 = .ok (.getfield 78, 3) := by decide +kernel
theorem dX6_contest_301 : decode cX6_contest 301 = .ok (.if_icmp .ge 27, 3) := by decide +kernel
theorem dX6_contest_304 : decode cX6_contest 304 = .ok (.aload_n 0, 1) := by decide +kernel
theorem dX6_contest_305 : decode cX6_contest 305 = .ok (.getfield 19, 3) := by decide +kernel
theorem dX6_contest_308 : decode cX6_contest 308 = .ok (.iload_n 2, 1) := by decide +kernel
theorem dX6_contest_309 : decode cX6_contest 309 = .ok (.iconst 0, 1) := by decide +kernel
theorem dX6_contest_310 : decode cX6_contest 310 = .ok (.aload_n 0, 1) := by decide +kernel
theorem dX6_contest_311 : decode cX6_contest 311 = .ok (.getfield 19, 3) := by decide +kernel
theorem dX6_contest_314 : decode cX6_contest 314 = .ok (.iload_n 2, 1) := by decide +kernel
theorem dX6_contest_315 : decode cX6_contest 315 = .ok (.iaload, 1) := by decide +kernel
theorem dX6_contest_316 : decode cX6_contest 316 = .ok (.iconst 1, 1) := by decide +kernel
theorem dX6_contest_317 : decode cX6_contest 317 = .ok (.isub, 1) := by decide +kernel
theorem dX6_contest_318 : decode cX6_contest 318 = .ok (.invokestatic 95, 3) := by decide +kernel
theorem dX6_contest_321 : decode cX6_contest 321 = .ok (.iastore, 1) := by decide +kernel
theorem dX6_contest_322 : decode cX6_contest 322 = .ok (.iinc 2 1, 3) := by decide +kernel
theorem dX6_contest_325 : decode cX6_contest 325 = .ok (.goto (-32), 3) := by decide +kernel
theorem dX6_contest_328 : decode cX6_contest 328 = .ok (.aload_n 0, 1) := by decide +kernel
theorem dX6_contest_329 : decode cX6_contest 329 = .ok (.dup, 1) := by decide +kernel
theorem dX6_contest_330 : decode cX6_contest 330 = .ok (.getfield 55, 3) := by decide +kernel
theorem dX6_contest_333 : decode cX6_contest 333 = .ok (.iconst 1, 1) := by decide +kernel
theorem dX6_contest_334 : decode cX6_contest 334 = .ok (.iadd, 1) := by decide +kernel
theorem dX6_contest_335 : decode cX6_contest 335 = .ok (.putfield 55, 3) := by decide +kernel
theorem dX6_contest_338 : decode cX6_contest 338 = .ok (.iload_n 1, 1) := by decide +kernel
theorem dX6_contest_339 : decode cX6_contest 339 = .ok (.ireturn, 1) := by decide +kernel
theorem dX6_seatOf_0 : decode cX6_seatOf 0 = .ok (.iconst 0, 1) := by decide +kernel
theorem dX6_seatOf_1 : decode cX6_seatOf 1 = .ok (.istore_n 2, 1) := by decide +kernel
theorem dX6_seatOf_2 : decode cX6_seatOf 2 = .ok (.iload_n 2, 1) := by decide +kernel
theorem dX6_seatOf_3 : decode cX6_seatOf 3 = .ok (.bipush 48, 2) := by decide +kernel
theorem dX6_seatOf_5 : decode cX6_seatOf 5 = .ok (.if_icmp .ge 54, 3) := by decide +kernel
theorem dX6_seatOf_8 : decode cX6_seatOf 8 = .ok (.iload_n 2, 1) := by decide +kernel
theorem dX6_seatOf_9 : decode cX6_seatOf 9 = .ok (.bipush 8, 2) := by decide +kernel
theorem dX6_seatOf_11 : decode cX6_seatOf 11 = .ok (.idiv, 1) := by decide +kernel
theorem dX6_seatOf_12 : decode cX6_seatOf 12 = .ok (.aload_n 0, 1) := by decide +kernel
theorem dX6_seatOf_13 : decode cX6_seatOf 13 = .ok (.getfield 3, 3) := by decide +kernel
theorem dX6_seatOf_16 : decode cX6_seatOf 16 = .ok (.getfield 103, 3) := by decide +kernel
theorem dX6_seatOf_19 : decode cX6_seatOf 19 = .ok (.if_icmp .ge 34, 3) := by decide +kernel
theorem dX6_seatOf_22 : decode cX6_seatOf 22 = .ok (.iload_n 2, 1) := by decide +kernel
theorem dX6_seatOf_23 : decode cX6_seatOf 23 = .ok (.bipush 8, 2) := by decide +kernel
theorem dX6_seatOf_25 : decode cX6_seatOf 25 = .ok (.irem, 1) := by decide +kernel
theorem dX6_seatOf_26 : decode cX6_seatOf 26 = .ok (.aload_n 0, 1) := by decide +kernel
theorem dX6_seatOf_27 : decode cX6_seatOf 27 = .ok (.getfield 3, 3) := by decide +kernel
theorem dX6_seatOf_30 : decode cX6_seatOf 30 = .ok (.getfield 69, 3) := by decide +kernel
theorem dX6_seatOf_33 : decode cX6_seatOf 33 = .ok (.iload_n 2, 1) := by decide +kernel
theorem dX6_seatOf_34 : decode cX6_seatOf 34 = .ok (.bipush 8, 2) := by decide +kernel
theorem dX6_seatOf_36 : decode cX6_seatOf 36 = .ok (.idiv, 1) := by decide +kernel
theorem dX6_seatOf_37 : decode cX6_seatOf 37 = .ok (.iaload, 1) := by decide +kernel
theorem dX6_seatOf_38 : decode cX6_seatOf 38 = .ok (.if_icmp .ge 15, 3) := by decide +kernel
theorem dX6_seatOf_41 : decode cX6_seatOf 41 = .ok (.aload_n 0, 1) := by decide +kernel
theorem dX6_seatOf_42 : decode cX6_seatOf 42 = .ok (.getfield 28, 3) := by decide +kernel
theorem dX6_seatOf_45 : decode cX6_seatOf 45 = .ok (.iload_n 2, 1) := by decide +kernel
theorem dX6_seatOf_46 : decode cX6_seatOf 46 = .ok (.iaload, 1) := by decide +kernel
theorem dX6_seatOf_47 : decode cX6_seatOf 47 = .ok (.iload_n 1, 1) := by decide +kernel
theorem dX6_seatOf_48 : decode cX6_seatOf 48 = .ok (.if_icmp .ne 5, 3) := by decide +kernel
theorem dX6_seatOf_51 : decode cX6_seatOf 51 = .ok (.iload_n 2, 1) := by decide +kernel
theorem dX6_seatOf_52 : decode cX6_seatOf 52 = .ok (.ireturn, 1) := by decide +kernel
theorem dX6_seatOf_53 : decode cX6_seatOf 53 = .ok (.iinc 2 1, 3) := by decide +kernel
theorem dX6_seatOf_56 : decode cX6_seatOf 56 = .ok (.goto (-54), 3) := by decide +kernel
theorem dX6_seatOf_59 : decode cX6_seatOf 59 = .ok (.iconst (-1), 1) := by decide +kernel
theorem dX6_seatOf_60 : decode cX6_seatOf 60 = .ok (.ireturn, 1) := by decide +kernel
theorem dX6_members_0 : decode cX6_members 0 = .ok (.iconst 0, 1) := by decide +kernel
theorem dX6_members_1 : decode cX6_members 1 = .ok (.istore_n 2, 1) := by decide +kernel
theorem dX6_members_2 : decode cX6_members 2 = .ok (.bipush 8, 2) := by decide +kernel
theorem dX6_members_4 : decode cX6_members 4 = .ok (.iload_n 1, 1) := by decide +kernel
theorem dX6_members_5 : decode cX6_members 5 = .ok (.imul, 1) := by decide +kernel
theorem dX6_members_6 : decode cX6_members 6 = .ok (.istore_n 3, 1) := by decide +kernel
theorem dX6_members_7 : decode cX6_members 7 = .ok (.iload_n 3, 1) := by decide +kernel
theorem dX6_members_8 : decode cX6_members 8 = .ok (.bipush 8, 2) := by decide +kernel
theorem dX6_members_10 : decode cX6_members 10 = .ok (.iload_n 1, 1) := by decide +kernel
theorem dX6_members_11 : decode cX6_members 11 = .ok (.imul, 1) := by decide +kernel
theorem dX6_members_12 : decode cX6_members 12 = .ok (.aload_n 0, 1) := by decide +kernel
theorem dX6_members_13 : decode cX6_members 13 = .ok (.getfield 3, 3) := by decide +kernel
theorem dX6_members_16 : decode cX6_members 16 = .ok (.getfield 69, 3) := by decide +kernel
theorem dX6_members_19 : decode cX6_members 19 = .ok (.iload_n 1, 1) := by decide +kernel
theorem dX6_members_20 : decode cX6_members 20 = .ok (.iaload, 1) := by decide +kernel
theorem dX6_members_21 : decode cX6_members 21 = .ok (.iadd, 1) := by decide +kernel
theorem dX6_members_22 : decode cX6_members 22 = .ok (.if_icmp .ge 27, 3) := by decide +kernel
theorem dX6_members_25 : decode cX6_members 25 = .ok (.iload_n 2, 1) := by decide +kernel
theorem dX6_members_26 : decode cX6_members 26 = .ok (.aload_n 0, 1) := by decide +kernel
theorem dX6_members_27 : decode cX6_members 27 = .ok (.getfield 28, 3) := by decide +kernel
theorem dX6_members_30 : decode cX6_members 30 = .ok (.iload_n 3, 1) := by decide +kernel
theorem dX6_members_31 : decode cX6_members 31 = .ok (.iaload, 1) := by decide +kernel
theorem dX6_members_32 : decode cX6_members 32 = .ok (.iconst (-1), 1) := by decide +kernel
theorem dX6_members_33 : decode cX6_members 33 = .ok (.if_icmp .ne 7, 3) := by decide +kernel
theorem dX6_members_36 : decode cX6_members 36 = .ok (.iconst 0, 1) := by decide +kernel
theorem dX6_members_37 : decode cX6_members 37 = .ok (.goto 4, 3) := by decide +kernel
theorem dX6_members_40 : decode cX6_members 40 = .ok (.iconst 1, 1) := by decide +kernel
theorem dX6_members_41 : decode cX6_members 41 = .ok (.iadd, 1) := by decide +kernel
theorem dX6_members_42 : decode cX6_members 42 = .ok (.istore_n 2, 1) := by decide +kernel
theorem dX6_members_43 : decode cX6_members 43 = .ok (.iinc 3 1, 3) := by decide +kernel
theorem dX6_members_46 : decode cX6_members 46 = .ok (.goto (-39), 3) := by decide +kernel
theorem dX6_members_49 : decode cX6_members 49 = .ok (.iload_n 2, 1) := by decide +kernel
theorem dX6_members_50 : decode cX6_members 50 = .ok (.ireturn, 1) := by decide +kernel
theorem dX7_init_0 : decode cX7_init 0 = .ok (.aload_n 0, 1) := by decide +kernel
theorem dX7_init_1 : decode cX7_init 1 = .ok (.invokespecial 1, 3) := by decide +kernel
theorem dX7_init_4 : decode cX7_init 4 = .ok (.aload_n 0, 1) := by decide +kernel
theorem dX7_init_5 : decode cX7_init 5 = .ok (.bipush 96, 2) := by decide +kernel
theorem dX7_init_7 : decode cX7_init 7 = .ok (.newarray .int, 2) := by decide +kernel
theorem dX7_init_9 : decode cX7_init 9 = .ok (.putfield 9, 3) := by decide +kernel
theorem dX7_init_12 : decode cX7_init 12 = .ok (.aload_n 0, 1) := by decide +kernel
theorem dX7_init_13 : decode cX7_init 13 = .ok (.bipush 6, 2) := by decide +kernel
theorem dX7_init_15 : decode cX7_init 15 = .ok (.newarray .int, 2) := by decide +kernel
theorem dX7_init_17 : decode cX7_init 17 = .ok (.putfield 13, 3) := by decide +kernel
theorem dX7_init_20 : decode cX7_init 20 = .ok (.aload_n 0, 1) := by decide +kernel
theorem dX7_init_21 : decode cX7_init 21 = .ok (.bipush 48, 2) := by decide +kernel
theorem dX7_init_23 : decode cX7_init 23 = .ok (.newarray .int, 2) := by decide +kernel
theorem dX7_init_25 : decode cX7_init 25 = .ok (.putfield 16, 3) := by decide +kernel
theorem dX7_init_28 : decode cX7_init 28 = .ok (.aload_n 0, 1) := by decide +kernel
theorem dX7_init_29 : decode cX7_init 29 = .ok (.iconst 4, 1) := by decide +kernel
theorem dX7_init_30 : decode cX7_init 30 = .ok (.newarray .int, 2) := by decide +kernel
theorem dX7_init_32 : decode cX7_init 32 = .ok (.dup, 1) := by decide +kernel
theorem dX7_init_33 : decode cX7_init 33 = .ok (.iconst 0, 1) := by decide +kernel
theorem dX7_init_34 : decode cX7_init 34 = .ok (.iconst 3, 1) := by decide +kernel
theorem dX7_init_35 : decode cX7_init 35 = .ok (.iastore, 1) := by decide +kernel
theorem dX7_init_36 : decode cX7_init 36 = .ok (.dup, 1) := by decide +kernel
theorem dX7_init_37 : decode cX7_init 37 = .ok (.iconst 1, 1) := by decide +kernel
theorem dX7_init_38 : decode cX7_init 38 = .ok (.iconst 3, 1) := by decide +kernel
theorem dX7_init_39 : decode cX7_init 39 = .ok (.iastore, 1) := by decide +kernel
theorem dX7_init_40 : decode cX7_init 40 = .ok (.dup, 1) := by decide +kernel
theorem dX7_init_41 : decode cX7_init 41 = .ok (.iconst 2, 1) := by decide +kernel
theorem dX7_init_42 : decode cX7_init 42 = .ok (.iconst 3, 1) := by decide +kernel
theorem dX7_init_43 : decode cX7_init 43 = .ok (.iastore, 1) := by decide +kernel
theorem dX7_init_44 : decode cX7_init 44 = .ok (.dup, 1) := by decide +kernel
theorem dX7_init_45 : decode cX7_init 45 = .ok (.iconst 3, 1) := by decide +kernel
theorem dX7_init_46 : decode cX7_init 46 = .ok (.iconst 3, 1) := by decide +kernel
theorem dX7_init_47 : decode cX7_init 47 = .ok (.iastore, 1) := by decide +kernel
theorem dX7_init_48 : decode cX7_init 48 = .ok (.putfield 19, 3) := by decide +kernel
theorem dX7_init_51 : decode cX7_init 51 = .ok (.aload_n 0, 1) := by decide +kernel
theorem dX7_init_52 : decode cX7_init 52 = .ok (.iconst 4, 1) := by decide +kernel
theorem dX7_init_53 : decode cX7_init 53 = .ok (.newarray .int, 2) := by decide +kernel
theorem dX7_init_55 : decode cX7_init 55 = .ok (.dup, 1) := by decide +kernel
theorem dX7_init_56 : decode cX7_init 56 = .ok (.iconst 0, 1) := by decide +kernel
theorem dX7_init_57 : decode cX7_init 57 = .ok (.iconst 1, 1) := by decide +kernel
theorem dX7_init_58 : decode cX7_init 58 = .ok (.iastore, 1) := by decide +kernel
theorem dX7_init_59 : decode cX7_init 59 = .ok (.dup, 1) := by decide +kernel
theorem dX7_init_60 : decode cX7_init 60 = .ok (.iconst 1, 1) := by decide +kernel
theorem dX7_init_61 : decode cX7_init 61 = .ok (.iconst 1, 1) := by decide +kernel
theorem dX7_init_62 : decode cX7_init 62 = .ok (.iastore, 1) := by decide +kernel
theorem dX7_init_63 : decode cX7_init 63 = .ok (.dup, 1) := by decide +kernel
theorem dX7_init_64 : decode cX7_init 64 = .ok (.iconst 2, 1) := by decide +kernel
theorem dX7_init_65 : decode cX7_init 65 = .ok (.iconst 1, 1) := by decide +kernel
theorem dX7_init_66 : decode cX7_init 66 = .ok (.iastore, 1) := by decide +kernel
theorem dX7_init_67 : decode cX7_init 67 = .ok (.dup, 1) := by decide +kernel
theorem dX7_init_68 : decode cX7_init 68 = .ok (.iconst 3, 1) := by decide +kernel
theorem dX7_init_69 : decode cX7_init 69 = .ok (.iconst 1, 1) := by decide +kernel
theorem dX7_init_70 : decode cX7_init 70 = .ok (.iastore, 1) := by decide +kernel
theorem dX7_init_71 : decode cX7_init 71 = .ok (.putfield 22, 3) := by decide +kernel
theorem dX7_init_74 : decode cX7_init 74 = .ok (.aload_n 0, 1) := by decide +kernel
theorem dX7_init_75 : decode cX7_init 75 = .ok (.new 25, 3) := by decide +kernel
theorem dX7_init_78 : decode cX7_init 78 = .ok (.dup, 1) := by decide +kernel
theorem dX7_init_79 : decode cX7_init 79 = .ok (.aload_n 0, 1) := by decide +kernel
theorem dX7_init_80 : decode cX7_init 80 = .ok (.invokespecial 27, 3) := by decide +kernel
theorem dX7_init_83 : decode cX7_init 83 = .ok (.putfield 30, 3) := by decide +kernel
theorem dX7_init_86 : decode cX7_init 86 = .ok (.aload_n 0, 1) := by decide +kernel
theorem dX7_init_87 : decode cX7_init 87 = .ok (.new 25, 3) := by decide +kernel
theorem dX7_init_90 : decode cX7_init 90 = .ok (.dup, 1) := by decide +kernel
theorem dX7_init_91 : decode cX7_init 91 = .ok (.aload_n 0, 1) := by decide +kernel
theorem dX7_init_92 : decode cX7_init 92 = .ok (.invokespecial 27, 3) := by decide +kernel
theorem dX7_init_95 : decode cX7_init 95 = .ok (.putfield 34, 3) := by decide +kernel
theorem dX7_init_98 : decode cX7_init 98 = .ok (.return_, 1) := by decide +kernel
theorem dX7_thrown_0 : decode cX7_thrown 0 = .ok (.aload_n 0, 1) := by decide +kernel
theorem dX7_thrown_1 : decode cX7_thrown 1 = .ok (.getfield 37, 3) := by decide +kernel
theorem dX7_thrown_4 : decode cX7_thrown 4 = .ok (.ireturn, 1) := by decide +kernel
theorem dX7_no_0 : decode cX7_no 0 = .ok (.aload_n 0, 1) := by decide +kernel
theorem dX7_no_1 : decode cX7_no 1 = .ok (.iload_n 1, 1) := by decide +kernel
theorem dX7_no_2 : decode cX7_no 2 = .ok (.putfield 37, 3) := by decide +kernel
theorem dX7_no_5 : decode cX7_no 5 = .ok (.iconst 0, 1) := by decide +kernel
theorem dX7_no_6 : decode cX7_no 6 = .ok (.ireturn, 1) := by decide +kernel
theorem dX7_isIn_0 : decode cX7_isIn 0 = .ok (.iload_n 0, 1) := by decide +kernel
theorem dX7_isIn_1 : decode cX7_isIn 1 = .ok (.iload_n 1, 1) := by decide +kernel
theorem dX7_isIn_2 : decode cX7_isIn 2 = .ok (.if_icmp .lt 12, 3) := by decide +kernel
theorem dX7_isIn_5 : decode cX7_isIn 5 = .ok (.iload_n 0, 1) := by decide +kernel
theorem dX7_isIn_6 : decode cX7_isIn 6 = .ok (.iload_n 2, 1) := by decide +kernel
theorem dX7_isIn_7 : decode cX7_isIn 7 = .ok (.if_icmp .gt 7, 3) := by decide +kernel
theorem dX7_isIn_10 : decode cX7_isIn 10 = .ok (.iconst 1, 1) := by decide +kernel
theorem dX7_isIn_11 : decode cX7_isIn 11 = .ok (.goto 4, 3) := by decide +kernel
theorem dX7_isIn_14 : decode cX7_isIn 14 = .ok (.iconst 0, 1) := by decide +kernel
theorem dX7_isIn_15 : decode cX7_isIn 15 = .ok (.ireturn, 1) := by decide +kernel
theorem dX7_isPlayer_0 : decode cX7_isPlayer 0 = .ok (.iload_n 1, 1) := by decide +kernel
theorem dX7_isPlayer_1 : decode cX7_isPlayer 1 = .ok (.iconst 0, 1) := by decide +kernel
theorem dX7_isPlayer_2 : decode cX7_isPlayer 2 = .ok (.aload_n 0, 1) := by decide +kernel
theorem dX7_isPlayer_3 : decode cX7_isPlayer 3 = .ok (.getfield 41, 3) := by decide +kernel
theorem dX7_isPlayer_6 : decode cX7_isPlayer 6 = .ok (.iconst 1, 1) := by decide +kernel
theorem dX7_isPlayer_7 : decode cX7_isPlayer 7 = .ok (.isub, 1) := by decide +kernel
theorem dX7_isPlayer_8 : decode cX7_isPlayer 8 = .ok (.invokestatic 44, 3) := by decide +kernel
theorem dX7_isPlayer_11 : decode cX7_isPlayer 11 = .ok (.ireturn, 1) := by decide +kernel
theorem dX7_isBand_0 : decode cX7_isBand 0 = .ok (.iload_n 1, 1) := by decide +kernel
theorem dX7_isBand_1 : decode cX7_isBand 1 = .ok (.iconst 0, 1) := by decide +kernel
theorem dX7_isBand_2 : decode cX7_isBand 2 = .ok (.aload_n 0, 1) := by decide +kernel
theorem dX7_isBand_3 : decode cX7_isBand 3 = .ok (.getfield 48, 3) := by decide +kernel
theorem dX7_isBand_6 : decode cX7_isBand 6 = .ok (.iconst 1, 1) := by decide +kernel
theorem dX7_isBand_7 : decode cX7_isBand 7 = .ok (.isub, 1) := by decide +kernel
theorem dX7_isBand_8 : decode cX7_isBand 8 = .ok (.invokestatic 44, 3) := by decide +kernel
theorem dX7_isBand_11 : decode cX7_isBand 11 = .ok (.ireturn, 1) := by decide +kernel
theorem dX7_isSeat_0 : decode cX7_isSeat 0 = .ok (.aload_n 0, 1) := by decide +kernel
theorem dX7_isSeat_1 : decode cX7_isSeat 1 = .ok (.iload_n 1, 1) := by decide +kernel
theorem dX7_isSeat_2 : decode cX7_isSeat 2 = .ok (.invokevirtual 51, 3) := by decide +kernel
theorem dX7_isSeat_5 : decode cX7_isSeat 5 = .ok (.ifCond .eq 23, 3) := by decide +kernel
theorem dX7_isSeat_8 : decode cX7_isSeat 8 = .ok (.iload_n 2, 1) := by decide +kernel
theorem dX7_isSeat_9 : decode cX7_isSeat 9 = .ok (.iconst 0, 1) := by decide +kernel
theorem dX7_isSeat_10 : decode cX7_isSeat 10 = .ok (.aload_n 0, 1) := by decide +kernel
theorem dX7_isSeat_11 : decode cX7_isSeat 11 = .ok (.getfield 13, 3) := by decide +kernel
theorem dX7_isSeat_14 : decode cX7_isSeat 14 = .ok (.iload_n 1, 1) := by decide +kernel
theorem dX7_isSeat_15 : decode cX7_isSeat 15 = .ok (.iaload, 1) := by decide +kernel
theorem dX7_isSeat_16 : decode cX7_isSeat 16 = .ok (.iconst 1, 1) := by decide +kernel
theorem dX7_isSeat_17 : decode cX7_isSeat 17 = .ok (.isub, 1) := by decide +kernel
theorem dX7_isSeat_18 : decode cX7_isSeat 18 = .ok (.invokestatic 44, 3) := by decide +kernel
theorem dX7_isSeat_21 : decode cX7_isSeat 21 = .ok (.ifCond .eq 7, 3) := by decide +kernel
theorem dX7_isSeat_24 : decode cX7_isSeat 24 = .ok (.iconst 1, 1) := by decide +kernel
theorem dX7_isSeat_25 : decode cX7_isSeat 25 = .ok (.goto 4, 3) := by decide +kernel
theorem dX7_isSeat_28 : decode cX7_isSeat 28 = .ok (.iconst 0, 1) := by decide +kernel
theorem dX7_isSeat_29 : decode cX7_isSeat 29 = .ok (.ireturn, 1) := by decide +kernel
theorem dX7_addPlayer_0 : decode cX7_addPlayer 0 = .ok (.aload_n 0, 1) := by decide +kernel
theorem dX7_addPlayer_1 : decode cX7_addPlayer 1 = .ok (.iconst 0, 1) := by decide +kernel
theorem dX7_addPlayer_2 : decode cX7_addPlayer 2 = .ok (.putfield 37, 3) := by decide +kernel
theorem dX7_addPlayer_5 : decode cX7_addPlayer 5 = .ok (.iload_n 1, 1) := by decide +kernel
theorem dX7_addPlayer_6 : decode cX7_addPlayer 6 = .ok (.iconst 0, 1) := by decide +kernel
theorem dX7_addPlayer_7 : decode cX7_addPlayer 7 = .ok (.bipush 9, 2) := by decide +kernel
theorem dX7_addPlayer_9 : decode cX7_addPlayer 9 = .ok (.invokestatic 44, 3) := by decide +kernel
theorem dX7_addPlayer_12 : decode cX7_addPlayer 12 = .ok (.ifCond .eq 34, 3) := by decide +kernel
theorem dX7_addPlayer_15 : decode cX7_addPlayer 15 = .ok (.iload_n 2, 1) := by decide +kernel
theorem dX7_addPlayer_16 : decode cX7_addPlayer 16 = .ok (.iconst 0, 1) := by decide +kernel
theorem dX7_addPlayer_17 : decode cX7_addPlayer 17 = .ok (.bipush 9, 2) := by decide +kernel
theorem dX7_addPlayer_19 : decode cX7_addPlayer 19 = .ok (.invokestatic 44, 3) := by decide +kernel
theorem dX7_addPlayer_22 : decode cX7_addPlayer 22 = .ok (.ifCond .eq 24, 3) := by decide +kernel
theorem dX7_addPlayer_25 : decode cX7_addPlayer 25 = .ok (.iload_n 3, 1) := by decide +kernel
theorem dX7_addPlayer_26 : decode cX7_addPlayer 26 = .ok (.iconst 0, 1) := by decide +kernel
theorem dX7_addPlayer_27 : decode cX7_addPlayer 27 = .ok (.bipush 9, 2) := by decide +kernel
theorem dX7_addPlayer_29 : decode cX7_addPlayer 29 = .ok (.invokestatic 44, 3) := by decide +kernel
theorem dX7_addPlayer_32 : decode cX7_addPlayer 32 = .ok (.ifCond .eq 14, 3) := by decide +kernel
theorem dX7_addPlayer_35 : decode cX7_addPlayer 35 = .ok (.iload 4, 2) := by decide +kernel
theorem dX7_addPlayer_37 : decode cX7_addPlayer 37 = .ok (.iconst 0, 1) := by decide +kernel
theorem dX7_addPlayer_38 : decode cX7_addPlayer 38 = .ok (.bipush 9, 2) := by decide +kernel
theorem dX7_addPlayer_40 : decode cX7_addPlayer 40 = .ok (.invokestatic 44, 3) := by decide +kernel
theorem dX7_addPlayer_43 : decode cX7_addPlayer 43 = .ok (.ifCond .ne 9, 3) := by decide +kernel
theorem dX7_addPlayer_46 : decode cX7_addPlayer 46 = .ok (.aload_n 0, 1) := by decide +kernel
theorem dX7_addPlayer_47 : decode cX7_addPlayer 47 = .ok (.iconst 1, 1) := by decide +kernel
theorem dX7_addPlayer_48 : decode cX7_addPlayer 48 = .ok (.invokevirtual 55, 3) := by decide +kernel
theorem dX7_addPlayer_51 : decode cX7_addPlayer 51 = .ok (.ireturn, 1) := by decide +kernel
theorem dX7_addPlayer_52 : decode cX7_addPlayer 52 = .ok (.aload_n 0, 1) := by decide +kernel
theorem dX7_addPlayer_53 : decode cX7_addPlayer 53 = .ok (.getfield 41, 3) := by decide +kernel
theorem dX7_addPlayer_56 : decode cX7_addPlayer 56 = .ok (.bipush 24, 2) := by decide +kernel
theorem dX7_addPlayer_58 : decode cX7_addPlayer 58 = .ok (.if_icmp .ne 9, 3) := by decide +kernel
theorem dX7_addPlayer_61 : decode cX7_addPlayer 61 = .ok (.aload_n 0, 1) := by decide +kernel
theorem dX7_addPlayer_62 : decode cX7_addPlayer 62 = .ok (.iconst 2, 1) := by decide +kernel
theorem dX7_addPlayer_63 : decode cX7_addPlayer 63 = .ok (.invokevirtual 55, 3) := by decide +kernel
theorem dX7_addPlayer_66 : decode cX7_addPlayer 66 = .ok (.ireturn, 1) := by decide +kernel
theorem dX7_addPlayer_67 : decode cX7_addPlayer 67 = .ok (.iconst 4, 1) := by decide +kernel
theorem dX7_addPlayer_68 : decode cX7_addPlayer 68 = .ok (.newarray .int, 2) := by decide +kernel
theorem dX7_addPlayer_70 : decode cX7_addPlayer 70 = .ok (.dup, 1) := by decide +kernel
theorem dX7_addPlayer_71 : decode cX7_addPlayer 71 = .ok (.iconst 0, 1) := by decide +kernel
theorem dX7_addPlayer_72 : decode cX7_addPlayer 72 = .ok (.iload_n 1, 1) := by decide +kernel
theorem dX7_addPlayer_73 : decode cX7_addPlayer 73 = .ok (.iastore, 1) := by decide +kernel
theorem dX7_addPlayer_74 : decode cX7_addPlayer 74 = .ok (.dup, 1) := by decide +kernel
theorem dX7_addPlayer_75 : decode cX7_addPlayer 75 = .ok (.iconst 1, 1) := by decide +kernel
theorem dX7_addPlayer_76 : decode cX7_addPlayer 76 = .ok (.iload_n 2, 1) := by decide +kernel
theorem dX7_addPlayer_77 : decode cX7_addPlayer 77 = .ok (.iastore, 1) := by decide +kernel
theorem dX7_addPlayer_78 : decode cX7_addPlayer 78 = .ok (.dup, 1) := by decide +kernel
theorem dX7_addPlayer_79 : decode cX7_addPlayer 79 = .ok (.iconst 2, 1) := by decide +kernel
theorem dX7_addPlayer_80 : decode cX7_addPlayer 80 = .ok (.iload_n 3, 1) := by decide +kernel
theorem dX7_addPlayer_81 : decode cX7_addPlayer 81 = .ok (.iastore, 1) := by decide +kernel
theorem dX7_addPlayer_82 : decode cX7_addPlayer 82 = .ok (.dup, 1) := by decide +kernel
theorem dX7_addPlayer_83 : decode cX7_addPlayer 83 = .ok (.iconst 3, 1) := by decide +kernel
theorem dX7_addPlayer_84 : decode cX7_addPlayer 84 = .ok (.iload 4, 2) := by decide +kernel
theorem dX7_addPlayer_86 : decode cX7_addPlayer 86 = .ok (.iastore, 1) := by decide +kernel
theorem dX7_addPlayer_87 : decode cX7_addPlayer 87 = .ok (.astore 5, 2) := by decide +kernel
theorem dX7_addPlayer_89 : decode cX7_addPlayer 89 = .ok (.aload 5, 2) := by decide +kernel
theorem dX7_addPlayer_91 : decode cX7_addPlayer 91 = .ok (.iconst 0, 1) := by decide +kernel
theorem dX7_addPlayer_92 : decode cX7_addPlayer 92 = .ok (.aload_n 0, 1) := by decide +kernel
theorem dX7_addPlayer_93 : decode cX7_addPlayer 93 = .ok (.getfield 9, 3) := by decide +kernel
theorem dX7_addPlayer_96 : decode cX7_addPlayer 96 = .ok (.iconst 4, 1) := by decide +kernel
theorem dX7_addPlayer_97 : decode cX7_addPlayer 97 = .ok (.aload_n 0, 1) := by decide +kernel
theorem dX7_addPlayer_98 : decode cX7_addPlayer 98 = .ok (.getfield 41, 3) := by decide +kernel
theorem dX7_addPlayer_101 : decode cX7_addPlayer 101 = .ok (.imul, 1) := by decide +kernel
theorem dX7_addPlayer_102 : decode cX7_addPlayer 102 = .ok (.iconst 4, 1) := by decide +kernel
theorem dX7_addPlayer_103 : decode cX7_addPlayer 103 = .ok (.invokestatic 59, 3) := by decide +kernel
theorem dX7_addPlayer_106 : decode cX7_addPlayer 106 = .ok (.aload_n 0, 1) := by decide +kernel
theorem dX7_addPlayer_107 : decode cX7_addPlayer 107 = .ok (.dup, 1) := by decide +kernel
theorem dX7_addPlayer_108 : decode cX7_addPlayer 108 = .ok (.getfield 41, 3) := by decide +kernel
theorem dX7_addPlayer_111 : decode cX7_addPlayer 111 = .ok (.iconst 1, 1) := by decide +kernel
theorem dX7_addPlayer_112 : decode cX7_addPlayer 112 = .ok (.iadd, 1) := by decide +kernel
theorem dX7_addPlayer_113 : decode cX7_addPlayer 113 = .ok (.putfield 41, 3) := by decide +kernel
theorem dX7_addPlayer_116 : decode cX7_addPlayer 116 = .ok (.aload_n 0, 1) := by decide +kernel
theorem dX7_addPlayer_117 : decode cX7_addPlayer 117 = .ok (.getfield 41, 3) := by decide +kernel
theorem dX7_addPlayer_120 : decode cX7_addPlayer 120 = .ok (.iconst 1, 1) := by decide +kernel
theorem dX7_addPlayer_121 : decode cX7_addPlayer 121 = .ok (.isub, 1) := by decide +kernel
theorem dX7_addPlayer_122 : decode cX7_addPlayer 122 = .ok (.ireturn, 1) := by decide +kernel
theorem dX7_found_0 : decode cX7_found 0 = .ok (.aload_n 0, 1) := by decide +kernel
theorem dX7_found_1 : decode cX7_found 1 = .ok (.iconst 0, 1) := by decide +kernel
theorem dX7_found_2 : decode cX7_found 2 = .ok (.putfield 37, 3) := by decide +kernel
theorem dX7_found_5 : decode cX7_found 5 = .ok (.iload_n 1, 1) := by decide +kernel
theorem dX7_found_6 : decode cX7_found 6 = .ok (.ifCond .le 13, 3) := by decide +kernel
theorem dX7_found_9 : decode cX7_found 9 = .ok (.iload_n 1, 1) := by decide +kernel
theorem dX7_found_10 : decode cX7_found 10 = .ok (.ldc 65, 2) := by decide +kernel
theorem dX7_found_12 : decode cX7_found 12 = .ok (.if_icmp .ge 7, 3) := by decide +kernel
theorem dX7_found_15 : decode cX7_found 15 = .ok (.iconst 1, 1) := by decide +kernel
theorem dX7_found_16 : decode cX7_found 16 = .ok (.goto 4, 3) := by decide +kernel
theorem dX7_found_19 : decode cX7_found 19 = .ok (.iconst 0, 1) := by decide +kernel
theorem dX7_found_20 : decode cX7_found 20 = .ok (.istore_n 2, 1) := by decide +kernel
theorem dX7_found_21 : decode cX7_found 21 = .ok (.iconst 0, 1) := by decide +kernel
theorem dX7_found_22 : decode cX7_found 22 = .ok (.istore_n 3, 1) := by decide +kernel
theorem dX7_found_23 : decode cX7_found 23 = .ok (.iload_n 1, 1) := by decide +kernel
theorem dX7_found_24 : decode cX7_found 24 = .ok (.istore 4, 2) := by decide +kernel
theorem dX7_found_26 : decode cX7_found 26 = .ok (.iload 4, 2) := by decide +kernel
theorem dX7_found_28 : decode cX7_found 28 = .ok (.ifCond .le 31, 3) := by decide +kernel
theorem dX7_found_31 : decode cX7_found 31 = .ok (.iload_n 2, 1) := by decide +kernel
theorem dX7_found_32 : decode cX7_found 32 = .ok (.ifCond .eq 27, 3) := by decide +kernel
theorem dX7_found_35 : decode cX7_found 35 = .ok (.iload 4, 2) := by decide +kernel
theorem dX7_found_37 : decode cX7_found 37 = .ok (.bipush 10, 2) := by decide +kernel
theorem dX7_found_39 : decode cX7_found 39 = .ok (.irem, 1) := by decide +kernel
theorem dX7_found_40 : decode cX7_found 40 = .ok (.iconst 1, 1) := by decide +kernel
theorem dX7_found_41 : decode cX7_found 41 = .ok (.iconst 4, 1) := by decide +kernel
theorem dX7_found_42 : decode cX7_found 42 = .ok (.invokestatic 44, 3) := by decide +kernel
theorem dX7_found_45 : decode cX7_found 45 = .ok (.istore_n 2, 1) := by decide +kernel
theorem dX7_found_46 : decode cX7_found 46 = .ok (.iinc 3 1, 3) := by decide +kernel
theorem dX7_found_49 : decode cX7_found 49 = .ok (.iload 4, 2) := by decide +kernel
theorem dX7_found_51 : decode cX7_found 51 = .ok (.bipush 10, 2) := by decide +kernel
theorem dX7_found_53 : decode cX7_found 53 = .ok (.idiv, 1) := by decide +kernel
theorem dX7_found_54 : decode cX7_found 54 = .ok (.istore 4, 2) := by decide +kernel
theorem dX7_found_56 : decode cX7_found 56 = .ok (.goto (-30), 3) := by decide +kernel
theorem dX7_found_59 : decode cX7_found 59 = .ok (.iload_n 2, 1) := by decide +kernel
theorem dX7_found_60 : decode cX7_found 60 = .ok (.ifCond .ne 9, 3) := by decide +kernel
theorem dX7_found_63 : decode cX7_found 63 = .ok (.aload_n 0, 1) := by decide +kernel
theorem dX7_found_64 : decode cX7_found 64 = .ok (.iconst 1, 1) := by decide +kernel
theorem dX7_found_65 : decode cX7_found 65 = .ok (.invokevirtual 55, 3) := by decide +kernel
theorem dX7_found_68 : decode cX7_found 68 = .ok (.ireturn, 1) := by decide +kernel
theorem dX7_found_69 : decode cX7_found 69 = .ok (.aload_n 0, 1) := by decide +kernel
theorem dX7_found_70 : decode cX7_found 70 = .ok (.getfield 48, 3) := by decide +kernel
theorem dX7_found_73 : decode cX7_found 73 = .ok (.bipush 6, 2) := by decide +kernel
theorem dX7_found_75 : decode cX7_found 75 = .ok (.if_icmp .ne 9, 3) := by decide +kernel
theorem dX7_found_78 : decode cX7_found 78 = .ok (.aload_n 0, 1) := by decide +kernel
theorem dX7_found_79 : decode cX7_found 79 = .ok (.iconst 2, 1) := by decide +kernel
theorem dX7_found_80 : decode cX7_found 80 = .ok (.invokevirtual 55, 3) := by decide +kernel
theorem dX7_found_83 : decode cX7_found 83 = .ok (.ireturn, 1) := by decide +kernel
theorem dX7_found_84 : decode cX7_found 84 = .ok (.aload_n 0, 1) := by decide +kernel
theorem dX7_found_85 : decode cX7_found 85 = .ok (.getfield 13, 3) := by decide +kernel
theorem dX7_found_88 : decode cX7_found 88 = .ok (.aload_n 0, 1) := by decide +kernel
theorem dX7_found_89 : decode cX7_found 89 = .ok (.getfield 48, 3) := by decide +kernel
theorem dX7_found_92 : decode cX7_found 92 = .ok (.iload_n 3, 1) := by decide +kernel
theorem dX7_found_93 : decode cX7_found 93 = .ok (.iastore, 1) := by decide +kernel
theorem dX7_found_94 : decode cX7_found 94 = .ok (.bipush 8, 2) := by decide +kernel
theorem dX7_found_96 : decode cX7_found 96 = .ok (.aload_n 0, 1) := by decide +kernel
theorem dX7_found_97 : decode cX7_found 97 = .ok (.getfield 48, 3) := by decide +kernel
theorem dX7_found_100 : decode cX7_found 100 = .ok (.imul, 1) := by decide +kernel
theorem dX7_found_101 : decode cX7_found 101 = .ok (.iload_n 3, 1) := by decide +kernel
theorem dX7_found_102 : decode cX7_found 102 = .ok (.iadd, 1) := by decide +kernel
theorem dX7_found_103 : decode cX7_found 103 = .ok (.istore 4, 2) := by decide +kernel
theorem dX7_found_105 : decode cX7_found 105 = .ok (.iload_n 1, 1) := by decide +kernel
theorem dX7_found_106 : decode cX7_found 106 = .ok (.istore 5, 2) := by decide +kernel
theorem dX7_found_108 : decode cX7_found 108 = .ok (.iload 5, 2) := by decide +kernel
theorem dX7_found_110 : decode cX7_found 110 = .ok (.ifCond .le 52, 3) := by decide +kernel
theorem dX7_found_113 : decode cX7_found 113 = .ok (.iinc 4 (-1), 3) := by decide +kernel
theorem dX7_found_116 : decode cX7_found 116 = .ok (.aload_n 0, 1) := by decide +kernel
theorem dX7_found_117 : decode cX7_found 117 = .ok (.getfield 16, 3) := by decide +kernel
theorem dX7_found_120 : decode cX7_found 120 = .ok (.iload 4, 2) := by decide +kernel
theorem dX7_found_122 : decode cX7_found 122 = .ok (.iload 5, 2) := by decide +kernel
theorem dX7_found_124 : decode cX7_found 124 = .ok (.bipush 10, 2) := by decide +kernel
theorem dX7_found_126 : decode cX7_found 126 = .ok (.irem, 1) := by decide +kernel
theorem dX7_found_127 : decode cX7_found 127 = .ok (.iconst 1, 1) := by decide +kernel
theorem dX7_found_128 : decode cX7_found 128 = .ok (.isub, 1) := by decide +kernel
theorem dX7_found_129 : decode cX7_found 129 = .ok (.iastore, 1) := by decide +kernel
theorem dX7_found_130 : decode cX7_found 130 = .ok (.aload_n 0, 1) := by decide +kernel
theorem dX7_found_131 : decode cX7_found 131 = .ok (.getfield 30, 3) := by decide +kernel
theorem dX7_found_134 : decode cX7_found 134 = .ok (.getfield 66, 3) := by decide +kernel
theorem dX7_found_137 : decode cX7_found 137 = .ok (.iload 4, 2) := by decide +kernel
theorem dX7_found_139 : decode cX7_found 139 = .ok (.iconst (-1), 1) := by decide +kernel
theorem dX7_found_140 : decode cX7_found 140 = .ok (.iastore, 1) := by decide +kernel
theorem dX7_found_141 : decode cX7_found 141 = .ok (.aload_n 0, 1) := by decide +kernel
theorem dX7_found_142 : decode cX7_found 142 = .ok (.getfield 30, 3) := by decide +kernel
theorem dX7_found_145 : decode cX7_found 145 = .ok (.getfield 69, 3) := by decide +kernel
theorem dX7_found_148 : decode cX7_found 148 = .ok (.iload 4, 2) := by decide +kernel
theorem dX7_found_150 : decode cX7_found 150 = .ok (.iconst (-1), 1) := by decide +kernel
theorem dX7_found_151 : decode cX7_found 151 = .ok (.iastore, 1) := by decide +kernel
theorem dX7_found_152 : decode cX7_found 152 = .ok (.iload 5, 2) := by decide +kernel
theorem dX7_found_154 : decode cX7_found 154 = .ok (.bipush 10, 2) := by decide +kernel
theorem dX7_found_156 : decode cX7_found 156 = .ok (.idiv, 1) := by decide +kernel
theorem dX7_found_157 : decode cX7_found 157 = .ok (.istore 5, 2) := by decide +kernel
theorem dX7_found_159 : decode cX7_found 159 = .ok (.goto (-51), 3) := by decide +kernel
theorem dX7_found_162 : decode cX7_found 162 = .ok (.iconst 0, 1) := by decide +kernel
theorem dX7_found_163 : decode cX7_found 163 = .ok (.istore 5, 2) := by decide +kernel
theorem dX7_found_165 : decode cX7_found 165 = .ok (.iload 5, 2) := by decide +kernel
theorem dX7_found_167 : decode cX7_found 167 = .ok (.iconst 4, 1) := by decide +kernel
theorem dX7_found_168 : decode cX7_found 168 = .ok (.if_icmp .ge 27, 3) := by decide +kernel
theorem dX7_found_171 : decode cX7_found 171 = .ok (.aload_n 0, 1) := by decide +kernel
theorem dX7_found_172 : decode cX7_found 172 = .ok (.getfield 30, 3) := by decide +kernel
theorem dX7_found_175 : decode cX7_found 175 = .ok (.getfield 72, 3) := by decide +kernel
theorem dX7_found_178 : decode cX7_found 178 = .ok (.iconst 4, 1) := by decide +kernel
theorem dX7_found_179 : decode cX7_found 179 = .ok (.aload_n 0, 1) := by decide +kernel
theorem dX7_found_180 : decode cX7_found 180 = .ok (.getfield 48, 3) := by decide +kernel
theorem dX7_found_183 : decode cX7_found 183 = .ok (.imul, 1) := by decide +kernel
theorem dX7_found_184 : decode cX7_found 184 = .ok (.iload 5, 2) := by decide +kernel
theorem dX7_found_186 : decode cX7_found 186 = .ok (.iadd, 1) := by decide +kernel
theorem dX7_found_187 : decode cX7_found 187 = .ok (.iconst (-1), 1) := by decide +kernel
theorem dX7_found_188 : decode cX7_found 188 = .ok (.iastore, 1) := by decide +kernel
theorem dX7_found_189 : decode cX7_found 189 = .ok (.iinc 5 1, 3) := by decide +kernel
theorem dX7_found_192 : decode cX7_found 192 = .ok (.goto (-27), 3) := by decide +kernel
theorem dX7_found_195 : decode cX7_found 195 = .ok (.aload_n 0, 1) := by decide +kernel
theorem dX7_found_196 : decode cX7_found 196 = .ok (.dup, 1) := by decide +kernel
theorem dX7_found_197 : decode cX7_found 197 = .ok (.getfield 48, 3) := by decide +kernel
theorem dX7_found_200 : decode cX7_found 200 = .ok (.iconst 1, 1) := by decide +kernel
theorem dX7_found_201 : decode cX7_found 201 = .ok (.iadd, 1) := by decide +kernel
theorem dX7_found_202 : decode cX7_found 202 = .ok (.putfield 48, 3) := by decide +kernel
theorem dX7_found_205 : decode cX7_found 205 = .ok (.aload_n 0, 1) := by decide +kernel
theorem dX7_found_206 : decode cX7_found 206 = .ok (.getfield 48, 3) := by decide +kernel
theorem dX7_found_209 : decode cX7_found 209 = .ok (.iconst 1, 1) := by decide +kernel
theorem dX7_found_210 : decode cX7_found 210 = .ok (.isub, 1) := by decide +kernel
theorem dX7_found_211 : decode cX7_found 211 = .ok (.ireturn, 1) := by decide +kernel
theorem dX7_seat_0 : decode cX7_seat 0 = .ok (.aload_n 0, 1) := by decide +kernel
theorem dX7_seat_1 : decode cX7_seat 1 = .ok (.iconst 0, 1) := by decide +kernel
theorem dX7_seat_2 : decode cX7_seat 2 = .ok (.putfield 37, 3) := by decide +kernel
theorem dX7_seat_5 : decode cX7_seat 5 = .ok (.aload_n 0, 1) := by decide +kernel
theorem dX7_seat_6 : decode cX7_seat 6 = .ok (.iload_n 1, 1) := by decide +kernel
theorem dX7_seat_7 : decode cX7_seat 7 = .ok (.iload_n 2, 1) := by decide +kernel
theorem dX7_seat_8 : decode cX7_seat 8 = .ok (.invokevirtual 75, 3) := by decide +kernel
theorem dX7_seat_11 : decode cX7_seat 11 = .ok (.ifCond .eq 16, 3) := by decide +kernel
theorem dX7_seat_14 : decode cX7_seat 14 = .ok (.iload_n 3, 1) := by decide +kernel
theorem dX7_seat_15 : decode cX7_seat 15 = .ok (.iconst (-1), 1) := by decide +kernel
theorem dX7_seat_16 : decode cX7_seat 16 = .ok (.if_icmp .eq 17, 3) := by decide +kernel
theorem dX7_seat_19 : decode cX7_seat 19 = .ok (.aload_n 0, 1) := by decide +kernel
theorem dX7_seat_20 : decode cX7_seat 20 = .ok (.iload_n 3, 1) := by decide +kernel
theorem dX7_seat_21 : decode cX7_seat 21 = .ok (.invokevirtual 79, 3) := by decide +kernel
theorem dX7_seat_24 : decode cX7_seat 24 = .ok (.ifCond .ne 9, 3) := by decide +kernel
theorem dX7_seat_27 : decode cX7_seat 27 = .ok (.aload_n 0, 1) := by decide +kernel
theorem dX7_seat_28 : decode cX7_seat 28 = .ok (.iconst 1, 1) := by decide +kernel
theorem dX7_seat_29 : decode cX7_seat 29 = .ok (.invokevirtual 55, 3) := by decide +kernel
theorem dX7_seat_32 : decode cX7_seat 32 = .ok (.ireturn, 1) := by decide +kernel
theorem dX7_seat_33 : decode cX7_seat 33 = .ok (.bipush 8, 2) := by decide +kernel
theorem dX7_seat_35 : decode cX7_seat 35 = .ok (.iload_n 1, 1) := by decide +kernel
theorem dX7_seat_36 : decode cX7_seat 36 = .ok (.imul, 1) := by decide +kernel
theorem dX7_seat_37 : decode cX7_seat 37 = .ok (.iload_n 2, 1) := by decide +kernel
theorem dX7_seat_38 : decode cX7_seat 38 = .ok (.iadd, 1) := by decide +kernel
theorem dX7_seat_39 : decode cX7_seat 39 = .ok (.istore 4, 2) := by decide +kernel
theorem dX7_seat_41 : decode cX7_seat 41 = .ok (.aload_n 0, 1) := by decide +kernel
theorem dX7_seat_42 : decode cX7_seat 42 = .ok (.getfield 30, 3) := by decide +kernel
theorem dX7_seat_45 : decode cX7_seat 45 = .ok (.getfield 66, 3) := by decide +kernel
theorem dX7_seat_48 : decode cX7_seat 48 = .ok (.iload 4, 2) := by decide +kernel
theorem dX7_seat_50 : decode cX7_seat 50 = .ok (.iaload, 1) := by decide +kernel
theorem dX7_seat_51 : decode cX7_seat 51 = .ok (.istore 5, 2) := by decide +kernel
theorem dX7_seat_53 : decode cX7_seat 53 = .ok (.iload_n 3, 1) := by decide +kernel
theorem dX7_seat_54 : decode cX7_seat 54 = .ok (.iconst (-1), 1) := by decide +kernel
theorem dX7_seat_55 : decode cX7_seat 55 = .ok (.if_icmp .eq 21, 3) := by decide +kernel
theorem dX7_seat_58 : decode cX7_seat 58 = .ok (.iload 5, 2) := by decide +kernel
theorem dX7_seat_60 : decode cX7_seat 60 = .ok (.iconst (-1), 1) := by decide +kernel
theorem dX7_seat_61 : decode cX7_seat 61 = .ok (.if_icmp .eq 15, 3) := by decide +kernel
theorem dX7_seat_64 : decode cX7_seat 64 = .ok (.iload 5, 2) := by decide +kernel
theorem dX7_seat_66 : decode cX7_seat 66 = .ok (.iload_n 3, 1) := by decide +kernel
theorem dX7_seat_67 : decode cX7_seat 67 = .ok (.if_icmp .eq 9, 3) := by decide +kernel
theorem dX7_seat_70 : decode cX7_seat 70 = .ok (.aload_n 0, 1) := by decide +kernel
theorem dX7_seat_71 : decode cX7_seat 71 = .ok (.iconst 2, 1) := by decide +kernel
theorem dX7_seat_72 : decode cX7_seat 72 = .ok (.invokevirtual 55, 3) := by decide +kernel
theorem dX7_seat_75 : decode cX7_seat 75 = .ok (.ireturn, 1) := by decide +kernel
theorem dX7_seat_76 : decode cX7_seat 76 = .ok (.iload_n 3, 1) := by decide +kernel
theorem dX7_seat_77 : decode cX7_seat 77 = .ok (.iconst (-1), 1) := by decide +kernel
theorem dX7_seat_78 : decode cX7_seat 78 = .ok (.if_icmp .ne 7, 3) := by decide +kernel
theorem dX7_seat_81 : decode cX7_seat 81 = .ok (.iconst (-1), 1) := by decide +kernel
theorem dX7_seat_82 : decode cX7_seat 82 = .ok (.goto 11, 3) := by decide +kernel
theorem dX7_seat_85 : decode cX7_seat 85 = .ok (.aload_n 0, 1) := by decide +kernel
theorem dX7_seat_86 : decode cX7_seat 86 = .ok (.getfield 30, 3) := by decide +kernel
theorem dX7_seat_89 : decode cX7_seat 89 = .ok (.iload_n 3, 1) := by decide +kernel
theorem dX7_seat_90 : decode cX7_seat 90 = .ok (.invokevirtual 82, 3) := by decide +kernel
theorem dX7_seat_93 : decode cX7_seat 93 = .ok (.istore 6, 2) := by decide +kernel
theorem dX7_seat_95 : decode cX7_seat 95 = .ok (.iload 6, 2) := by decide +kernel
theorem dX7_seat_97 : decode cX7_seat 97 = .ok (.iconst (-1), 1) := by decide +kernel
theorem dX7_seat_98 : decode cX7_seat 98 = .ok (.if_icmp .eq 14, 3) := by decide +kernel
theorem dX7_seat_101 : decode cX7_seat 101 = .ok (.aload_n 0, 1) := by decide +kernel
theorem dX7_seat_102 : decode cX7_seat 102 = .ok (.getfield 30, 3) := by decide +kernel
theorem dX7_seat_105 : decode cX7_seat 105 = .ok (.getfield 66, 3) := by decide +kernel
theorem dX7_seat_108 : decode cX7_seat 108 = .ok (.iload 6, 2) := by decide +kernel
theorem dX7_seat_110 : decode cX7_seat 110 = .ok (.iconst (-1), 1) := by decide +kernel
theorem dX7_seat_111 : decode cX7_seat 111 = .ok (.iastore, 1) := by decide +kernel
theorem dX7_seat_112 : decode cX7_seat 112 = .ok (.aload_n 0, 1) := by decide +kernel
theorem dX7_seat_113 : decode cX7_seat 113 = .ok (.getfield 30, 3) := by decide +kernel
theorem dX7_seat_116 : decode cX7_seat 116 = .ok (.getfield 66, 3) := by decide +kernel
theorem dX7_seat_119 : decode cX7_seat 119 = .ok (.iload 4, 2) := by decide +kernel
theorem dX7_seat_121 : decode cX7_seat 121 = .ok (.iload_n 3, 1) := by decide +kernel
theorem dX7_seat_122 : decode cX7_seat 122 = .ok (.iastore, 1) := by decide +kernel
theorem dX7_seat_123 : decode cX7_seat 123 = .ok (.iload 5, 2) := by decide +kernel
theorem dX7_seat_125 : decode cX7_seat 125 = .ok (.ireturn, 1) := by decide +kernel
theorem dX7_swap_0 : decode cX7_swap 0 = .ok (.aload_n 0, 1) := by decide +kernel
theorem dX7_swap_1 : decode cX7_swap 1 = .ok (.getfield 66, 3) := by decide +kernel
theorem dX7_swap_4 : decode cX7_swap 4 = .ok (.iload_n 1, 1) := by decide +kernel
theorem dX7_swap_5 : decode cX7_swap 5 = .ok (.iaload, 1) := by decide +kernel
theorem dX7_swap_6 : decode cX7_swap 6 = .ok (.istore_n 3, 1) := by decide +kernel
theorem dX7_swap_7 : decode cX7_swap 7 = .ok (.aload_n 0, 1) := by decide +kernel
theorem dX7_swap_8 : decode cX7_swap 8 = .ok (.getfield 66, 3) := by decide +kernel
theorem dX7_swap_11 : decode cX7_swap 11 = .ok (.iload_n 1, 1) := by decide +kernel
theorem dX7_swap_12 : decode cX7_swap 12 = .ok (.aload_n 0, 1) := by decide +kernel
theorem dX7_swap_13 : decode cX7_swap 13 = .ok (.getfield 66, 3) := by decide +kernel
theorem dX7_swap_16 : decode cX7_swap 16 = .ok (.iload_n 2, 1) := by decide +kernel
theorem dX7_swap_17 : decode cX7_swap 17 = .ok (.iaload, 1) := by decide +kernel
theorem dX7_swap_18 : decode cX7_swap 18 = .ok (.iastore, 1) := by decide +kernel
theorem dX7_swap_19 : decode cX7_swap 19 = .ok (.aload_n 0, 1) := by decide +kernel
theorem dX7_swap_20 : decode cX7_swap 20 = .ok (.getfield 66, 3) := by decide +kernel
theorem dX7_swap_23 : decode cX7_swap 23 = .ok (.iload_n 2, 1) := by decide +kernel
theorem dX7_swap_24 : decode cX7_swap 24 = .ok (.iload_n 3, 1) := by decide +kernel
theorem dX7_swap_25 : decode cX7_swap 25 = .ok (.iastore, 1) := by decide +kernel
theorem dX7_swap_26 : decode cX7_swap 26 = .ok (.return_, 1) := by decide +kernel
theorem dX7_change_0 : decode cX7_change 0 = .ok (.aload_n 0, 1) := by decide +kernel
theorem dX7_change_1 : decode cX7_change 1 = .ok (.iconst 0, 1) := by decide +kernel
theorem dX7_change_2 : decode cX7_change 2 = .ok (.putfield 37, 3) := by decide +kernel
theorem dX7_change_5 : decode cX7_change 5 = .ok (.aload_n 0, 1) := by decide +kernel
theorem dX7_change_6 : decode cX7_change 6 = .ok (.iload_n 1, 1) := by decide +kernel
theorem dX7_change_7 : decode cX7_change 7 = .ok (.iload_n 2, 1) := by decide +kernel
theorem dX7_change_8 : decode cX7_change 8 = .ok (.invokevirtual 75, 3) := by decide +kernel
theorem dX7_change_11 : decode cX7_change 11 = .ok (.ifCond .eq 12, 3) := by decide +kernel
theorem dX7_change_14 : decode cX7_change 14 = .ok (.aload_n 0, 1) := by decide +kernel
theorem dX7_change_15 : decode cX7_change 15 = .ok (.iload_n 1, 1) := by decide +kernel
theorem dX7_change_16 : decode cX7_change 16 = .ok (.iload_n 3, 1) := by decide +kernel
theorem dX7_change_17 : decode cX7_change 17 = .ok (.invokevirtual 75, 3) := by decide +kernel
theorem dX7_change_20 : decode cX7_change 20 = .ok (.ifCond .ne 9, 3) := by decide +kernel
theorem dX7_change_23 : decode cX7_change 23 = .ok (.aload_n 0, 1) := by decide +kernel
theorem dX7_change_24 : decode cX7_change 24 = .ok (.iconst 1, 1) := by decide +kernel
theorem dX7_change_25 : decode cX7_change 25 = .ok (.invokevirtual 55, 3) := by decide +kernel
theorem dX7_change_28 : decode cX7_change 28 = .ok (.ireturn, 1) := by decide +kernel
theorem dX7_change_29 : decode cX7_change 29 = .ok (.aload_n 0, 1) := by decide +kernel
theorem dX7_change_30 : decode cX7_change 30 = .ok (.getfield 30, 3) := by decide +kernel
theorem dX7_change_33 : decode cX7_change 33 = .ok (.bipush 8, 2) := by decide +kernel
theorem dX7_change_35 : decode cX7_change 35 = .ok (.iload_n 1, 1) := by decide +kernel
theorem dX7_change_36 : decode cX7_change 36 = .ok (.imul, 1) := by decide +kernel
theorem dX7_change_37 : decode cX7_change 37 = .ok (.iload_n 2, 1) := by decide +kernel
theorem dX7_change_38 : decode cX7_change 38 = .ok (.iadd, 1) := by decide +kernel
theorem dX7_change_39 : decode cX7_change 39 = .ok (.bipush 8, 2) := by decide +kernel
theorem dX7_change_41 : decode cX7_change 41 = .ok (.iload_n 1, 1) := by decide +kernel
theorem dX7_change_42 : decode cX7_change 42 = .ok (.imul, 1) := by decide +kernel
theorem dX7_change_43 : decode cX7_change 43 = .ok (.iload_n 3, 1) := by decide +kernel
theorem dX7_change_44 : decode cX7_change 44 = .ok (.iadd, 1) := by decide +kernel
theorem dX7_change_45 : decode cX7_change 45 = .ok (.invokestatic 85, 3) := by decide +kernel
theorem dX7_change_48 : decode cX7_change 48 = .ok (.aload_n 0, 1) := by decide +kernel
theorem dX7_change_49 : decode cX7_change 49 = .ok (.getfield 30, 3) := by decide +kernel
theorem dX7_change_52 : decode cX7_change 52 = .ok (.getfield 66, 3) := by decide +kernel
theorem dX7_change_55 : decode cX7_change 55 = .ok (.bipush 8, 2) := by decide +kernel
theorem dX7_change_57 : decode cX7_change 57 = .ok (.iload_n 1, 1) := by decide +kernel
theorem dX7_change_58 : decode cX7_change 58 = .ok (.imul, 1) := by decide +kernel
theorem dX7_change_59 : decode cX7_change 59 = .ok (.iload_n 2, 1) := by decide +kernel
theorem dX7_change_60 : decode cX7_change 60 = .ok (.iadd, 1) := by decide +kernel
theorem dX7_change_61 : decode cX7_change 61 = .ok (.iaload, 1) := by decide +kernel
theorem dX7_change_62 : decode cX7_change 62 = .ok (.ireturn, 1) := by decide +kernel
theorem dX7_absent_0 : decode cX7_absent 0 = .ok (.aload_n 0, 1) := by decide +kernel
theorem dX7_absent_1 : decode cX7_absent 1 = .ok (.iconst 0, 1) := by decide +kernel
theorem dX7_absent_2 : decode cX7_absent 2 = .ok (.putfield 37, 3) := by decide +kernel
theorem dX7_absent_5 : decode cX7_absent 5 = .ok (.aload_n 0, 1) := by decide +kernel
theorem dX7_absent_6 : decode cX7_absent 6 = .ok (.iload_n 1, 1) := by decide +kernel
theorem dX7_absent_7 : decode cX7_absent 7 = .ok (.invokevirtual 79, 3) := by decide +kernel
theorem dX7_absent_10 : decode cX7_absent 10 = .ok (.ifCond .ne 9, 3) := by decide +kernel
theorem dX7_absent_13 : decode cX7_absent 13 = .ok (.aload_n 0, 1) := by decide +kernel
theorem dX7_absent_14 : decode cX7_absent 14 = .ok (.iconst 1, 1) := by decide +kernel
theorem dX7_absent_15 : decode cX7_absent 15 = .ok (.invokevirtual 55, 3) := by decide +kernel
theorem dX7_absent_18 : decode cX7_absent 18 = .ok (.ireturn, 1) := by decide +kernel
theorem dX7_absent_19 : decode cX7_absent 19 = .ok (.iload_n 2, 1) := by decide +kernel
theorem dX7_absent_20 : decode cX7_absent 20 = .ok (.iconst 0, 1) := by decide +kernel
theorem dX7_absent_21 : decode cX7_absent 21 = .ok (.bipush 20, 2) := by decide +kernel
theorem dX7_absent_23 : decode cX7_absent 23 = .ok (.invokestatic 44, 3) := by decide +kernel
theorem dX7_absent_26 : decode cX7_absent 26 = .ok (.ifCond .ne 9, 3) := by decide +kernel
theorem dX7_absent_29 : decode cX7_absent 29 = .ok (.aload_n 0, 1) := by decide +kernel
theorem dX7_absent_30 : decode cX7_absent 30 = .ok (.iconst 2, 1) := by decide +kernel
theorem dX7_absent_31 : decode cX7_absent 31 = .ok (.invokevirtual 55, 3) := by decide +kernel
theorem dX7_absent_34 : decode cX7_absent 34 = .ok (.ireturn, 1) := by decide +kernel
theorem dX7_absent_35 : decode cX7_absent 35 = .ok (.aload_n 0, 1) := by decide +kernel
theorem dX7_absent_36 : decode cX7_absent 36 = .ok (.getfield 30, 3) := by decide +kernel
theorem dX7_absent_39 : decode cX7_absent 39 = .ok (.getfield 89, 3) := by decide +kernel
theorem dX7_absent_42 : decode cX7_absent 42 = .ok (.iload_n 1, 1) := by decide +kernel
theorem dX7_absent_43 : decode cX7_absent 43 = .ok (.iaload, 1) := by decide +kernel
theorem dX7_absent_44 : decode cX7_absent 44 = .ok (.istore_n 3, 1) := by decide +kernel
theorem dX7_absent_45 : decode cX7_absent 45 = .ok (.aload_n 0, 1) := by decide +kernel
theorem dX7_absent_46 : decode cX7_absent 46 = .ok (.getfield 30, 3) := by decide +kernel
theorem dX7_absent_49 : decode cX7_absent 49 = .ok (.getfield 89, 3) := by decide +kernel
theorem dX7_absent_52 : decode cX7_absent 52 = .ok (.iload_n 1, 1) := by decide +kernel
theorem dX7_absent_53 : decode cX7_absent 53 = .ok (.iload_n 2, 1) := by decide +kernel
theorem dX7_absent_54 : decode cX7_absent 54 = .ok (.iastore, 1) := by decide +kernel
theorem dX7_absent_55 : decode cX7_absent 55 = .ok (.iload_n 3, 1) := by decide +kernel
theorem dX7_absent_56 : decode cX7_absent 56 = .ok (.ireturn, 1) := by decide +kernel
theorem dX7_rehearse_0 : decode cX7_rehearse 0 = .ok (.aload_n 0, 1) := by decide +kernel
theorem dX7_rehearse_1 : decode cX7_rehearse 1 = .ok (.iconst 0, 1) := by decide +kernel
theorem dX7_rehearse_2 : decode cX7_rehearse 2 = .ok (.putfield 37, 3) := by decide +kernel
theorem dX7_rehearse_5 : decode cX7_rehearse 5 = .ok (.aload_n 0, 1) := by decide +kernel
theorem dX7_rehearse_6 : decode cX7_rehearse 6 = .ok (.iload_n 1, 1) := by decide +kernel
theorem dX7_rehearse_7 : decode cX7_rehearse 7 = .ok (.invokevirtual 51, 3) := by decide +kernel
theorem dX7_rehearse_10 : decode cX7_rehearse 10 = .ok (.ifCond .ne 9, 3) := by decide +kernel
theorem dX7_rehearse_13 : decode cX7_rehearse 13 = .ok (.aload_n 0, 1) := by decide +kernel
theorem dX7_rehearse_14 : decode cX7_rehearse 14 = .ok (.iconst 1, 1) := by decide +kernel
theorem dX7_rehearse_15 : decode cX7_rehearse 15 = .ok (.invokevirtual 55, 3) := by decide +kernel
theorem dX7_rehearse_18 : decode cX7_rehearse 18 = .ok (.ireturn, 1) := by decide +kernel
theorem dX7_rehearse_19 : decode cX7_rehearse 19 = .ok (.aload_n 0, 1) := by decide +kernel
theorem dX7_rehearse_20 : decode cX7_rehearse 20 = .ok (.getfield 30, 3) := by decide +kernel
theorem dX7_rehearse_23 : decode cX7_rehearse 23 = .ok (.getfield 92, 3) := by decide +kernel
theorem dX7_rehearse_26 : decode cX7_rehearse 26 = .ok (.iload_n 1, 1) := by decide +kernel
theorem dX7_rehearse_27 : decode cX7_rehearse 27 = .ok (.bipush 50, 2) := by decide +kernel
theorem dX7_rehearse_29 : decode cX7_rehearse 29 = .ok (.aload_n 0, 1) := by decide +kernel
theorem dX7_rehearse_30 : decode cX7_rehearse 30 = .ok (.getfield 30, 3) := by decide +kernel
theorem dX7_rehearse_33 : decode cX7_rehearse 33 = .ok (.getfield 92, 3) := by decide +kernel
theorem dX7_rehearse_36 : decode cX7_rehearse 36 = .ok (.iload_n 1, 1) := by decide +kernel
theorem dX7_rehearse_37 : decode cX7_rehearse 37 = .ok (.iaload, 1) := by decide +kernel
theorem dX7_rehearse_38 : decode cX7_rehearse 38 = .ok (.iconst 3, 1) := by decide +kernel
theorem dX7_rehearse_39 : decode cX7_rehearse 39 = .ok (.iadd, 1) := by decide +kernel
theorem dX7_rehearse_40 : decode cX7_rehearse 40 = .ok (.invokestatic 95, 3) := by decide +kernel
theorem dX7_rehearse_43 : decode cX7_rehearse 43 = .ok (.iastore, 1) := by decide +kernel
theorem dX7_rehearse_44 : decode cX7_rehearse 44 = .ok (.bipush 8, 2) := by decide +kernel
theorem dX7_rehearse_46 : decode cX7_rehearse 46 = .ok (.iload_n 1, 1) := by decide +kernel
theorem dX7_rehearse_47 : decode cX7_rehearse 47 = .ok (.imul, 1) := by decide +kernel
theorem dX7_rehearse_48 : decode cX7_rehearse 48 = .ok (.istore_n 2, 1) := by decide +kernel
theorem dX7_rehearse_49 : decode cX7_rehearse 49 = .ok (.iload_n 2, 1) := by decide +kernel
theorem dX7_rehearse_50 : decode cX7_rehearse 50 = .ok (.bipush 8, 2) := by decide +kernel
theorem dX7_rehearse_52 : decode cX7_rehearse 52 = .ok (.iload_n 1, 1) := by decide +kernel
theorem dX7_rehearse_53 : decode cX7_rehearse 53 = .ok (.imul, 1) := by decide +kernel
theorem dX7_rehearse_54 : decode cX7_rehearse 54 = .ok (.aload_n 0, 1) := by decide +kernel
theorem dX7_rehearse_55 : decode cX7_rehearse 55 = .ok (.getfield 13, 3) := by decide +kernel
theorem dX7_rehearse_58 : decode cX7_rehearse 58 = .ok (.iload_n 1, 1) := by decide +kernel
theorem dX7_rehearse_59 : decode cX7_rehearse 59 = .ok (.iaload, 1) := by decide +kernel
theorem dX7_rehearse_60 : decode cX7_rehearse 60 = .ok (.iadd, 1) := by decide +kernel
theorem dX7_rehearse_61 : decode cX7_rehearse 61 = .ok (.if_icmp .ge 61, 3) := by decide +kernel
theorem dX7_rehearse_64 : decode cX7_rehearse 64 = .ok (.aload_n 0, 1) := by decide +kernel
theorem dX7_rehearse_65 : decode cX7_rehearse 65 = .ok (.getfield 30, 3) := by decide +kernel
theorem dX7_rehearse_68 : decode cX7_rehearse 68 = .ok (.getfield 66, 3) := by decide +kernel
theorem dX7_rehearse_71 : decode cX7_rehearse 71 = .ok (.iload_n 2, 1) := by decide +kernel
theorem dX7_rehearse_72 : decode cX7_rehearse 72 = .ok (.iaload, 1) := by decide +kernel
theorem dX7_rehearse_73 : decode cX7_rehearse 73 = .ok (.istore_n 3, 1) := by decide +kernel
theorem dX7_rehearse_74 : decode cX7_rehearse 74 = .ok (.iload_n 3, 1) := by decide +kernel
theorem dX7_rehearse_75 : decode cX7_rehearse 75 = .ok (.iconst (-1), 1) := by decide +kernel
theorem dX7_rehearse_76 : decode cX7_rehearse 76 = .ok (.if_icmp .eq 40, 3) := by decide +kernel
theorem dX7_rehearse_79 : decode cX7_rehearse 79 = .ok (.aload_n 0, 1) := by decide +kernel
theorem dX7_rehearse_80 : decode cX7_rehearse 80 = .ok (.getfield 30, 3) := by decide +kernel
theorem dX7_rehearse_83 : decode cX7_rehearse 83 = .ok (.getfield 89, 3) := by decide +kernel
theorem dX7_rehearse_86 : decode cX7_rehearse 86 = .ok (.iload_n 3, 1) := by decide +kernel
theorem dX7_rehearse_87 : decode cX7_rehearse 87 = .ok (.iaload, 1) := by decide +kernel
theorem dX7_rehearse_88 : decode cX7_rehearse 88 = .ok (.ifCond .ne 28, 3) := by decide +kernel
theorem dX7_rehearse_91 : decode cX7_rehearse 91 = .ok (.aload_n 0, 1) := by decide +kernel
theorem dX7_rehearse_92 : decode cX7_rehearse 92 = .ok (.getfield 30, 3) := by decide +kernel
theorem dX7_rehearse_95 : decode cX7_rehearse 95 = .ok (.getfield 101, 3) := by decide +kernel
theorem dX7_rehearse_98 : decode cX7_rehearse 98 = .ok (.iload_n 3, 1) := by decide +kernel
theorem dX7_rehearse_99 : decode cX7_rehearse 99 = .ok (.bipush 100, 2) := by decide +kernel
theorem dX7_rehearse_101 : decode cX7_rehearse 101 = .ok (.aload_n 0, 1) := by decide +kernel
theorem dX7_rehearse_102 : decode cX7_rehearse 102 = .ok (.getfield 30, 3) := by decide +kernel
theorem dX7_rehearse_105 : decode cX7_rehearse 105 = .ok (.getfield 101, 3) := by decide +kernel
theorem dX7_rehearse_108 : decode cX7_rehearse 108 = .ok (.iload_n 3, 1) := by decide +kernel
theorem dX7_rehearse_109 : decode cX7_rehearse 109 = .ok (.iaload, 1) := by decide +kernel
theorem dX7_rehearse_110 : decode cX7_rehearse 110 = .ok (.iconst 5, 1) := by decide +kernel
theorem dX7_rehearse_111 : decode cX7_rehearse 111 = .ok (.iadd, 1) := by decide +kernel
theorem dX7_rehearse_112 : decode cX7_rehearse 112 = .ok (.invokestatic 95, 3) := by decide +kernel
theorem dX7_rehearse_115 : decode cX7_rehearse 115 = .ok (.iastore, 1) := by decide +kernel
theorem dX7_rehearse_116 : decode cX7_rehearse 116 = .ok (.iinc 2 1, 3) := by decide +kernel
theorem dX7_rehearse_119 : decode cX7_rehearse 119 = .ok (.goto (-70), 3) := by decide +kernel
theorem dX7_rehearse_122 : decode cX7_rehearse 122 = .ok (.aload_n 0, 1) := by decide +kernel
theorem dX7_rehearse_123 : decode cX7_rehearse 123 = .ok (.getfield 30, 3) := by decide +kernel
theorem dX7_rehearse_126 : decode cX7_rehearse 126 = .ok (.getfield 92, 3) := by decide +kernel
theorem dX7_rehearse_129 : decode cX7_rehearse 129 = .ok (.iload_n 1, 1) := by decide +kernel
theorem dX7_rehearse_130 : decode cX7_rehearse 130 = .ok (.iaload, 1) := by decide +kernel
theorem dX7_rehearse_131 : decode cX7_rehearse 131 = .ok (.ireturn, 1) := by decide +kernel
theorem dX7_setPiece_0 : decode cX7_setPiece 0 = .ok (.aload_n 0, 1) := by decide +kernel
theorem dX7_setPiece_1 : decode cX7_setPiece 1 = .ok (.iconst 0, 1) := by decide +kernel
theorem dX7_setPiece_2 : decode cX7_setPiece 2 = .ok (.putfield 37, 3) := by decide +kernel
theorem dX7_setPiece_5 : decode cX7_setPiece 5 = .ok (.iload_n 1, 1) := by decide +kernel
theorem dX7_setPiece_6 : decode cX7_setPiece 6 = .ok (.iconst 0, 1) := by decide +kernel
theorem dX7_setPiece_7 : decode cX7_setPiece 7 = .ok (.iconst 3, 1) := by decide +kernel
theorem dX7_setPiece_8 : decode cX7_setPiece 8 = .ok (.invokestatic 44, 3) := by decide +kernel
theorem dX7_setPiece_11 : decode cX7_setPiece 11 = .ok (.ifCond .ne 9, 3) := by decide +kernel
theorem dX7_setPiece_14 : decode cX7_setPiece 14 = .ok (.aload_n 0, 1) := by decide +kernel
theorem dX7_setPiece_15 : decode cX7_setPiece 15 = .ok (.iconst 1, 1) := by decide +kernel
theorem dX7_setPiece_16 : decode cX7_setPiece 16 = .ok (.invokevirtual 55, 3) := by decide +kernel
theorem dX7_setPiece_19 : decode cX7_setPiece 19 = .ok (.ireturn, 1) := by decide +kernel
theorem dX7_setPiece_20 : decode cX7_setPiece 20 = .ok (.iload_n 2, 1) := by decide +kernel
theorem dX7_setPiece_21 : decode cX7_setPiece 21 = .ok (.iconst 0, 1) := by decide +kernel
theorem dX7_setPiece_22 : decode cX7_setPiece 22 = .ok (.bipush 9, 2) := by decide +kernel
theorem dX7_setPiece_24 : decode cX7_setPiece 24 = .ok (.invokestatic 44, 3) := by decide +kernel
theorem dX7_setPiece_27 : decode cX7_setPiece 27 = .ok (.ifCond .ne 9, 3) := by decide +kernel
theorem dX7_setPiece_30 : decode cX7_setPiece 30 = .ok (.aload_n 0, 1) := by decide +kernel
theorem dX7_setPiece_31 : decode cX7_setPiece 31 = .ok (.iconst 2, 1) := by decide +kernel
theorem dX7_setPiece_32 : decode cX7_setPiece 32 = .ok (.invokevirtual 55, 3) := by decide +kernel
theorem dX7_setPiece_35 : decode cX7_setPiece 35 = .ok (.ireturn, 1) := by decide +kernel
theorem dX7_setPiece_36 : decode cX7_setPiece 36 = .ok (.aload_n 0, 1) := by decide +kernel
theorem dX7_setPiece_37 : decode cX7_setPiece 37 = .ok (.getfield 19, 3) := by decide +kernel
theorem dX7_setPiece_40 : decode cX7_setPiece 40 = .ok (.iload_n 1, 1) := by decide +kernel
theorem dX7_setPiece_41 : decode cX7_setPiece 41 = .ok (.iaload, 1) := by decide +kernel
theorem dX7_setPiece_42 : decode cX7_setPiece 42 = .ok (.istore_n 3, 1) := by decide +kernel
theorem dX7_setPiece_43 : decode cX7_setPiece 43 = .ok (.aload_n 0, 1) := by decide +kernel
theorem dX7_setPiece_44 : decode cX7_setPiece 44 = .ok (.getfield 19, 3) := by decide +kernel
theorem dX7_setPiece_47 : decode cX7_setPiece 47 = .ok (.iload_n 1, 1) := by decide +kernel
theorem dX7_setPiece_48 : decode cX7_setPiece 48 = .ok (.iload_n 2, 1) := by decide +kernel
theorem dX7_setPiece_49 : decode cX7_setPiece 49 = .ok (.iastore, 1) := by decide +kernel
theorem dX7_setPiece_50 : decode cX7_setPiece 50 = .ok (.iload_n 3, 1) := by decide +kernel
theorem dX7_setPiece_51 : decode cX7_setPiece 51 = .ok (.ireturn, 1) := by decide +kernel
theorem dX7_setTaste_0 : decode cX7_setTaste 0 = .ok (.aload_n 0, 1) := by decide +kernel
theorem dX7_setTaste_1 : decode cX7_setTaste 1 = .ok (.iconst 0, 1) := by decide +kernel
theorem dX7_setTaste_2 : decode cX7_setTaste 2 = .ok (.putfield 37, 3) := by decide +kernel
theorem dX7_setTaste_5 : decode cX7_setTaste 5 = .ok (.iload_n 1, 1) := by decide +kernel
theorem dX7_setTaste_6 : decode cX7_setTaste 6 = .ok (.iconst 0, 1) := by decide +kernel
theorem dX7_setTaste_7 : decode cX7_setTaste 7 = .ok (.iconst 3, 1) := by decide +kernel
theorem dX7_setTaste_8 : decode cX7_setTaste 8 = .ok (.invokestatic 44, 3) := by decide +kernel
theorem dX7_setTaste_11 : decode cX7_setTaste 11 = .ok (.ifCond .ne 9, 3) := by decide +kernel
theorem dX7_setTaste_14 : decode cX7_setTaste 14 = .ok (.aload_n 0, 1) := by decide +kernel
theorem dX7_setTaste_15 : decode cX7_setTaste 15 = .ok (.iconst 1, 1) := by decide +kernel
theorem dX7_setTaste_16 : decode cX7_setTaste 16 = .ok (.invokevirtual 55, 3) := by decide +kernel
theorem dX7_setTaste_19 : decode cX7_setTaste 19 = .ok (.ireturn, 1) := by decide +kernel
theorem dX7_setTaste_20 : decode cX7_setTaste 20 = .ok (.iload_n 2, 1) := by decide +kernel
theorem dX7_setTaste_21 : decode cX7_setTaste 21 = .ok (.iconst 1, 1) := by decide +kernel
theorem dX7_setTaste_22 : decode cX7_setTaste 22 = .ok (.iconst 5, 1) := by decide +kernel
theorem dX7_setTaste_23 : decode cX7_setTaste 23 = .ok (.invokestatic 44, 3) := by decide +kernel
theorem dX7_setTaste_26 : decode cX7_setTaste 26 = .ok (.ifCond .ne 9, 3) := by decide +kernel
theorem dX7_setTaste_29 : decode cX7_setTaste 29 = .ok (.aload_n 0, 1) := by decide +kernel
theorem dX7_setTaste_30 : decode cX7_setTaste 30 = .ok (.iconst 2, 1) := by decide +kernel
theorem dX7_setTaste_31 : decode cX7_setTaste 31 = .ok (.invokevirtual 55, 3) := by decide +kernel
theorem dX7_setTaste_34 : decode cX7_setTaste 34 = .ok (.ireturn, 1) := by decide +kernel
theorem dX7_setTaste_35 : decode cX7_setTaste 35 = .ok (.aload_n 0, 1) := by decide +kernel
theorem dX7_setTaste_36 : decode cX7_setTaste 36 = .ok (.getfield 22, 3) := by decide +kernel
theorem dX7_setTaste_39 : decode cX7_setTaste 39 = .ok (.iload_n 1, 1) := by decide +kernel
theorem dX7_setTaste_40 : decode cX7_setTaste 40 = .ok (.iaload, 1) := by decide +kernel
theorem dX7_setTaste_41 : decode cX7_setTaste 41 = .ok (.istore_n 3, 1) := by decide +kernel
theorem dX7_setTaste_42 : decode cX7_setTaste 42 = .ok (.aload_n 0, 1) := by decide +kernel
theorem dX7_setTaste_43 : decode cX7_setTaste 43 = .ok (.getfield 22, 3) := by decide +kernel
theorem dX7_setTaste_46 : decode cX7_setTaste 46 = .ok (.iload_n 1, 1) := by decide +kernel
theorem dX7_setTaste_47 : decode cX7_setTaste 47 = .ok (.iload_n 2, 1) := by decide +kernel
theorem dX7_setTaste_48 : decode cX7_setTaste 48 = .ok (.iastore, 1) := by decide +kernel
theorem dX7_setTaste_49 : decode cX7_setTaste 49 = .ok (.iload_n 3, 1) := by decide +kernel
theorem dX7_setTaste_50 : decode cX7_setTaste 50 = .ok (.ireturn, 1) := by decide +kernel
theorem dX7_playerTold_0 : decode cX7_playerTold 0 = .ok (.iload_n 2, 1) := by decide +kernel
theorem dX7_playerTold_1 : decode cX7_playerTold 1 = .ok (.iconst 4, 1) := by decide +kernel
theorem dX7_playerTold_2 : decode cX7_playerTold 2 = .ok (.if_icmp .ge 14, 3) := by decide +kernel
theorem dX7_playerTold_5 : decode cX7_playerTold 5 = .ok (.aload_n 0, 1) := by decide +kernel
theorem dX7_playerTold_6 : decode cX7_playerTold 6 = .ok (.getfield 9, 3) := by decide +kernel
theorem dX7_playerTold_9 : decode cX7_playerTold 9 = .ok (.iconst 4, 1) := by decide +kernel
theorem dX7_playerTold_10 : decode cX7_playerTold 10 = .ok (.iload_n 1, 1) := by decide +kernel
theorem dX7_playerTold_11 : decode cX7_playerTold 11 = .ok (.imul, 1) := by decide +kernel
theorem dX7_playerTold_12 : decode cX7_playerTold 12 = .ok (.iload_n 2, 1) := by decide +kernel
theorem dX7_playerTold_13 : decode cX7_playerTold 13 = .ok (.iadd, 1) := by decide +kernel
theorem dX7_playerTold_14 : decode cX7_playerTold 14 = .ok (.iaload, 1) := by decide +kernel
theorem dX7_playerTold_15 : decode cX7_playerTold 15 = .ok (.ireturn, 1) := by decide +kernel
theorem dX7_playerTold_16 : decode cX7_playerTold 16 = .ok (.aload_n 0, 1) := by decide +kernel
theorem dX7_playerTold_17 : decode cX7_playerTold 17 = .ok (.getfield 30, 3) := by decide +kernel
theorem dX7_playerTold_20 : decode cX7_playerTold 20 = .ok (.iload_n 1, 1) := by decide +kernel
theorem dX7_playerTold_21 : decode cX7_playerTold 21 = .ok (.invokevirtual 82, 3) := by decide +kernel
theorem dX7_playerTold_24 : decode cX7_playerTold 24 = .ok (.istore_n 3, 1) := by decide +kernel
theorem dX7_playerTold_25 : decode cX7_playerTold 25 = .ok (.iload_n 2, 1) := by decide +kernel
theorem dX7_playerTold_26 : decode cX7_playerTold 26 = .ok (.tableswitch 92 4 8 #[34, 44, 54, 68, 82], 34) := by decide +kernel
theorem dX7_playerTold_60 : decode cX7_playerTold 60 = .ok (.aload_n 0, 1) := by decide +kernel
theorem dX7_playerTold_61 : decode cX7_playerTold 61 = .ok (.getfield 30, 3) := by decide +kernel
theorem dX7_playerTold_64 : decode cX7_playerTold 64 = .ok (.getfield 101, 3) := by decide +kernel
theorem dX7_playerTold_67 : decode cX7_playerTold 67 = .ok (.iload_n 1, 1) := by decide +kernel
theorem dX7_playerTold_68 : decode cX7_playerTold 68 = .ok (.iaload, 1) := by decide +kernel
theorem dX7_playerTold_69 : decode cX7_playerTold 69 = .ok (.ireturn, 1) := by decide +kernel
theorem dX7_playerTold_70 : decode cX7_playerTold 70 = .ok (.aload_n 0, 1) := by decide +kernel
theorem dX7_playerTold_71 : decode cX7_playerTold 71 = .ok (.getfield 30, 3) := by decide +kernel
theorem dX7_playerTold_74 : decode cX7_playerTold 74 = .ok (.getfield 89, 3) := by decide +kernel
theorem dX7_playerTold_77 : decode cX7_playerTold 77 = .ok (.iload_n 1, 1) := by decide +kernel
theorem dX7_playerTold_78 : decode cX7_playerTold 78 = .ok (.iaload, 1) := by decide +kernel
theorem dX7_playerTold_79 : decode cX7_playerTold 79 = .ok (.ireturn, 1) := by decide +kernel
theorem dX7_playerTold_80 : decode cX7_playerTold 80 = .ok (.iload_n 3, 1) := by decide +kernel
theorem dX7_playerTold_81 : decode cX7_playerTold 81 = .ok (.iconst (-1), 1) := by decide +kernel
theorem dX7_playerTold_82 : decode cX7_playerTold 82 = .ok (.if_icmp .ne 7, 3) := by decide +kernel
theorem dX7_playerTold_85 : decode cX7_playerTold 85 = .ok (.iconst (-1), 1) := by decide +kernel
theorem dX7_playerTold_86 : decode cX7_playerTold 86 = .ok (.goto 7, 3) := by decide +kernel
theorem dX7_playerTold_89 : decode cX7_playerTold 89 = .ok (.iload_n 3, 1) := by decide +kernel
theorem dX7_playerTold_90 : decode cX7_playerTold 90 = .ok (.bipush 8, 2) := by decide +kernel
theorem dX7_playerTold_92 : decode cX7_playerTold 92 = .ok (.idiv, 1) := by decide +kernel
theorem dX7_playerTold_93 : decode cX7_playerTold 93 = .ok (.ireturn, 1) := by decide +kernel
theorem dX7_playerTold_94 : decode cX7_playerTold 94 = .ok (.iload_n 3, 1) := by decide +kernel
theorem dX7_playerTold_95 : decode cX7_playerTold 95 = .ok (.iconst (-1), 1) := by decide +kernel
theorem dX7_playerTold_96 : decode cX7_playerTold 96 = .ok (.if_icmp .ne 7, 3) := by decide +kernel
theorem dX7_playerTold_99 : decode cX7_playerTold 99 = .ok (.iconst (-1), 1) := by decide +kernel
theorem dX7_playerTold_100 : decode cX7_playerTold 100 = .ok (.goto 7, 3) := by decide +kernel
theorem dX7_playerTold_103 : decode cX7_playerTold 103 = .ok (.iload_n 3, 1) := by decide +kernel
theorem dX7_playerTold_104 : decode cX7_playerTold 104 = .ok (.bipush 8, 2) := by decide +kernel
theorem dX7_playerTold_106 : decode cX7_playerTold 106 = .ok (.irem, 1) := by decide +kernel
theorem dX7_playerTold_107 : decode cX7_playerTold 107 = .ok (.ireturn, 1) := by decide +kernel
theorem dX7_playerTold_108 : decode cX7_playerTold 108 = .ok (.aload_n 0, 1) := by decide +kernel
theorem dX7_playerTold_109 : decode cX7_playerTold 109 = .ok (.getfield 30, 3) := by decide +kernel
theorem dX7_playerTold_112 : decode cX7_playerTold 112 = .ok (.getfield 104, 3) := by decide +kernel
theorem dX7_playerTold_115 : decode cX7_playerTold 115 = .ok (.iload_n 1, 1) := by decide +kernel
theorem dX7_playerTold_116 : decode cX7_playerTold 116 = .ok (.iaload, 1) := by decide +kernel
theorem dX7_playerTold_117 : decode cX7_playerTold 117 = .ok (.ireturn, 1) := by decide +kernel
theorem dX7_playerTold_118 : decode cX7_playerTold 118 = .ok (.aload_n 0, 1) := by decide +kernel
theorem dX7_playerTold_119 : decode cX7_playerTold 119 = .ok (.getfield 30, 3) := by decide +kernel
theorem dX7_playerTold_122 : decode cX7_playerTold 122 = .ok (.getfield 107, 3) := by decide +kernel
theorem dX7_playerTold_125 : decode cX7_playerTold 125 = .ok (.iload_n 1, 1) := by decide +kernel
theorem dX7_playerTold_126 : decode cX7_playerTold 126 = .ok (.iaload, 1) := by decide +kernel
theorem dX7_playerTold_127 : decode cX7_playerTold 127 = .ok (.ireturn, 1) := by decide +kernel
theorem dX7_player_0 : decode cX7_player 0 = .ok (.aload_n 0, 1) := by decide +kernel
theorem dX7_player_1 : decode cX7_player 1 = .ok (.iconst 0, 1) := by decide +kernel
theorem dX7_player_2 : decode cX7_player 2 = .ok (.putfield 37, 3) := by decide +kernel
theorem dX7_player_5 : decode cX7_player 5 = .ok (.aload_n 0, 1) := by decide +kernel
theorem dX7_player_6 : decode cX7_player 6 = .ok (.iload_n 1, 1) := by decide +kernel
theorem dX7_player_7 : decode cX7_player 7 = .ok (.invokevirtual 79, 3) := by decide +kernel
theorem dX7_player_10 : decode cX7_player 10 = .ok (.ifCond .eq 22, 3) := by decide +kernel
theorem dX7_player_13 : decode cX7_player 13 = .ok (.iload_n 2, 1) := by decide +kernel
theorem dX7_player_14 : decode cX7_player 14 = .ok (.iconst 0, 1) := by decide +kernel
theorem dX7_player_15 : decode cX7_player 15 = .ok (.bipush 9, 2) := by decide +kernel
theorem dX7_player_17 : decode cX7_player 17 = .ok (.invokestatic 44, 3) := by decide +kernel
theorem dX7_player_20 : decode cX7_player 20 = .ok (.ifCond .eq 12, 3) := by decide +kernel
theorem dX7_player_23 : decode cX7_player 23 = .ok (.aload_n 0, 1) := by decide +kernel
theorem dX7_player_24 : decode cX7_player 24 = .ok (.iload_n 1, 1) := by decide +kernel
theorem dX7_player_25 : decode cX7_player 25 = .ok (.iload_n 2, 1) := by decide +kernel
theorem dX7_player_26 : decode cX7_player 26 = .ok (.invokevirtual 110, 3) := by decide +kernel
theorem dX7_player_29 : decode cX7_player 29 = .ok (.goto 8, 3) := by decide +kernel
theorem dX7_player_32 : decode cX7_player 32 = .ok (.aload_n 0, 1) := by decide +kernel
theorem dX7_player_33 : decode cX7_player 33 = .ok (.iconst 1, 1) := by decide +kernel
theorem dX7_player_34 : decode cX7_player 34 = .ok (.invokevirtual 55, 3) := by decide +kernel
theorem dX7_player_37 : decode cX7_player 37 = .ok (.ireturn, 1) := by decide +kernel
theorem dX7_bandTold_0 : decode cX7_bandTold 0 = .ok (.bipush 9, 2) := by decide +kernel
theorem dX7_bandTold_2 : decode cX7_bandTold 2 = .ok (.newarray .int, 2) := by decide +kernel
theorem dX7_bandTold_4 : decode cX7_bandTold 4 = .ok (.dup, 1) := by decide +kernel
theorem dX7_bandTold_5 : decode cX7_bandTold 5 = .ok (.iconst 0, 1) := by decide +kernel
theorem dX7_bandTold_6 : decode cX7_bandTold 6 = .ok (.aload_n 0, 1) := by decide +kernel
theorem dX7_bandTold_7 : decode cX7_bandTold 7 = .ok (.getfield 13, 3) := by decide +kernel
theorem dX7_bandTold_10 : decode cX7_bandTold 10 = .ok (.iload_n 1, 1) := by decide +kernel
theorem dX7_bandTold_11 : decode cX7_bandTold 11 = .ok (.iaload, 1) := by decide +kernel
theorem dX7_bandTold_12 : decode cX7_bandTold 12 = .ok (.iastore, 1) := by decide +kernel
theorem dX7_bandTold_13 : decode cX7_bandTold 13 = .ok (.dup, 1) := by decide +kernel
theorem dX7_bandTold_14 : decode cX7_bandTold 14 = .ok (.iconst 1, 1) := by decide +kernel
theorem dX7_bandTold_15 : decode cX7_bandTold 15 = .ok (.aload_n 0, 1) := by decide +kernel
theorem dX7_bandTold_16 : decode cX7_bandTold 16 = .ok (.getfield 30, 3) := by decide +kernel
theorem dX7_bandTold_19 : decode cX7_bandTold 19 = .ok (.iload_n 1, 1) := by decide +kernel
theorem dX7_bandTold_20 : decode cX7_bandTold 20 = .ok (.invokevirtual 113, 3) := by decide +kernel
theorem dX7_bandTold_23 : decode cX7_bandTold 23 = .ok (.iastore, 1) := by decide +kernel
theorem dX7_bandTold_24 : decode cX7_bandTold 24 = .ok (.dup, 1) := by decide +kernel
theorem dX7_bandTold_25 : decode cX7_bandTold 25 = .ok (.iconst 2, 1) := by decide +kernel
theorem dX7_bandTold_26 : decode cX7_bandTold 26 = .ok (.aload_n 0, 1) := by decide +kernel
theorem dX7_bandTold_27 : decode cX7_bandTold 27 = .ok (.getfield 30, 3) := by decide +kernel
theorem dX7_bandTold_30 : decode cX7_bandTold 30 = .ok (.getfield 92, 3) := by decide +kernel
theorem dX7_bandTold_33 : decode cX7_bandTold 33 = .ok (.iload_n 1, 1) := by decide +kernel
theorem dX7_bandTold_34 : decode cX7_bandTold 34 = .ok (.iaload, 1) := by decide +kernel
theorem dX7_bandTold_35 : decode cX7_bandTold 35 = .ok (.iastore, 1) := by decide +kernel
theorem dX7_bandTold_36 : decode cX7_bandTold 36 = .ok (.dup, 1) := by decide +kernel
theorem dX7_bandTold_37 : decode cX7_bandTold 37 = .ok (.iconst 3, 1) := by decide +kernel
theorem dX7_bandTold_38 : decode cX7_bandTold 38 = .ok (.aload_n 0, 1) := by decide +kernel
theorem dX7_bandTold_39 : decode cX7_bandTold 39 = .ok (.getfield 30, 3) := by decide +kernel
theorem dX7_bandTold_42 : decode cX7_bandTold 42 = .ok (.getfield 72, 3) := by decide +kernel
theorem dX7_bandTold_45 : decode cX7_bandTold 45 = .ok (.iconst 4, 1) := by decide +kernel
theorem dX7_bandTold_46 : decode cX7_bandTold 46 = .ok (.iload_n 1, 1) := by decide +kernel
theorem dX7_bandTold_47 : decode cX7_bandTold 47 = .ok (.imul, 1) := by decide +kernel
theorem dX7_bandTold_48 : decode cX7_bandTold 48 = .ok (.iaload, 1) := by decide +kernel
theorem dX7_bandTold_49 : decode cX7_bandTold 49 = .ok (.iastore, 1) := by decide +kernel
theorem dX7_bandTold_50 : decode cX7_bandTold 50 = .ok (.dup, 1) := by decide +kernel
theorem dX7_bandTold_51 : decode cX7_bandTold 51 = .ok (.iconst 4, 1) := by decide +kernel
theorem dX7_bandTold_52 : decode cX7_bandTold 52 = .ok (.aload_n 0, 1) := by decide +kernel
theorem dX7_bandTold_53 : decode cX7_bandTold 53 = .ok (.getfield 30, 3) := by decide +kernel
theorem dX7_bandTold_56 : decode cX7_bandTold 56 = .ok (.getfield 72, 3) := by decide +kernel
theorem dX7_bandTold_59 : decode cX7_bandTold 59 = .ok (.iconst 4, 1) := by decide +kernel
theorem dX7_bandTold_60 : decode cX7_bandTold 60 = .ok (.iload_n 1, 1) := by decide +kernel
theorem dX7_bandTold_61 : decode cX7_bandTold 61 = .ok (.imul, 1) := by decide +kernel
theorem dX7_bandTold_62 : decode cX7_bandTold 62 = .ok (.iconst 1, 1) := by decide +kernel
theorem dX7_bandTold_63 : decode cX7_bandTold 63 = .ok (.iadd, 1) := by decide +kernel
theorem dX7_bandTold_64 : decode cX7_bandTold 64 = .ok (.iaload, 1) := by decide +kernel
theorem dX7_bandTold_65 : decode cX7_bandTold 65 = .ok (.iastore, 1) := by decide +kernel
theorem dX7_bandTold_66 : decode cX7_bandTold 66 = .ok (.dup, 1) := by decide +kernel
theorem dX7_bandTold_67 : decode cX7_bandTold 67 = .ok (.iconst 5, 1) := by decide +kernel
theorem dX7_bandTold_68 : decode cX7_bandTold 68 = .ok (.aload_n 0, 1) := by decide +kernel
theorem dX7_bandTold_69 : decode cX7_bandTold 69 = .ok (.getfield 30, 3) := by decide +kernel
theorem dX7_bandTold_72 : decode cX7_bandTold 72 = .ok (.getfield 72, 3) := by decide +kernel
theorem dX7_bandTold_75 : decode cX7_bandTold 75 = .ok (.iconst 4, 1) := by decide +kernel
theorem dX7_bandTold_76 : decode cX7_bandTold 76 = .ok (.iload_n 1, 1) := by decide +kernel
theorem dX7_bandTold_77 : decode cX7_bandTold 77 = .ok (.imul, 1) := by decide +kernel
theorem dX7_bandTold_78 : decode cX7_bandTold 78 = .ok (.iconst 2, 1) := by decide +kernel
theorem dX7_bandTold_79 : decode cX7_bandTold 79 = .ok (.iadd, 1) := by decide +kernel
theorem dX7_bandTold_80 : decode cX7_bandTold 80 = .ok (.iaload, 1) := by decide +kernel
theorem dX7_bandTold_81 : decode cX7_bandTold 81 = .ok (.iastore, 1) := by decide +kernel
theorem dX7_bandTold_82 : decode cX7_bandTold 82 = .ok (.dup, 1) := by decide +kernel
theorem dX7_bandTold_83 : decode cX7_bandTold 83 = .ok (.bipush 6, 2) := by decide +kernel
theorem dX7_bandTold_85 : decode cX7_bandTold 85 = .ok (.aload_n 0, 1) := by decide +kernel
theorem dX7_bandTold_86 : decode cX7_bandTold 86 = .ok (.getfield 30, 3) := by decide +kernel
theorem dX7_bandTold_89 : decode cX7_bandTold 89 = .ok (.getfield 72, 3) := by decide +kernel
theorem dX7_bandTold_92 : decode cX7_bandTold 92 = .ok (.iconst 4, 1) := by decide +kernel
theorem dX7_bandTold_93 : decode cX7_bandTold 93 = .ok (.iload_n 1, 1) := by decide +kernel
theorem dX7_bandTold_94 : decode cX7_bandTold 94 = .ok (.imul, 1) := by decide +kernel
theorem dX7_bandTold_95 : decode cX7_bandTold 95 = .ok (.iconst 3, 1) := by decide +kernel
theorem dX7_bandTold_96 : decode cX7_bandTold 96 = .ok (.iadd, 1) := by decide +kernel
theorem dX7_bandTold_97 : decode cX7_bandTold 97 = .ok (.iaload, 1) := by decide +kernel
theorem dX7_bandTold_98 : decode cX7_bandTold 98 = .ok (.iastore, 1) := by decide +kernel
theorem dX7_bandTold_99 : decode cX7_bandTold 99 = .ok (.dup, 1) := by decide +kernel
theorem dX7_bandTold_100 : decode cX7_bandTold 100 = .ok (.bipush 7, 2) := by decide +kernel
theorem dX7_bandTold_102 : decode cX7_bandTold 102 = .ok (.aload_n 0, 1) := by decide +kernel
theorem dX7_bandTold_103 : decode cX7_bandTold 103 = .ok (.getfield 30, 3) := by decide +kernel
theorem dX7_bandTold_106 : decode cX7_bandTold 106 = .ok (.getfield 116, 3) := by decide +kernel
theorem dX7_bandTold_109 : decode cX7_bandTold 109 = .ok (.iload_n 1, 1) := by decide +kernel
theorem dX7_bandTold_110 : decode cX7_bandTold 110 = .ok (.iaload, 1) := by decide +kernel
theorem dX7_bandTold_111 : decode cX7_bandTold 111 = .ok (.iastore, 1) := by decide +kernel
theorem dX7_bandTold_112 : decode cX7_bandTold 112 = .ok (.dup, 1) := by decide +kernel
theorem dX7_bandTold_113 : decode cX7_bandTold 113 = .ok (.bipush 8, 2) := by decide +kernel
theorem dX7_bandTold_115 : decode cX7_bandTold 115 = .ok (.aload_n 0, 1) := by decide +kernel
theorem dX7_bandTold_116 : decode cX7_bandTold 116 = .ok (.getfield 30, 3) := by decide +kernel
theorem dX7_bandTold_119 : decode cX7_bandTold 119 = .ok (.getfield 119, 3) := by decide +kernel
theorem dX7_bandTold_122 : decode cX7_bandTold 122 = .ok (.iload_n 1, 1) := by decide +kernel
theorem dX7_bandTold_123 : decode cX7_bandTold 123 = .ok (.iaload, 1) := by decide +kernel
theorem dX7_bandTold_124 : decode cX7_bandTold 124 = .ok (.iastore, 1) := by decide +kernel
theorem dX7_bandTold_125 : decode cX7_bandTold 125 = .ok (.astore_n 3, 1) := by decide +kernel
theorem dX7_bandTold_126 : decode cX7_bandTold 126 = .ok (.aload_n 3, 1) := by decide +kernel
theorem dX7_bandTold_127 : decode cX7_bandTold 127 = .ok (.iload_n 2, 1) := by decide +kernel
theorem dX7_bandTold_128 : decode cX7_bandTold 128 = .ok (.iaload, 1) := by decide +kernel
theorem dX7_bandTold_129 : decode cX7_bandTold 129 = .ok (.ireturn, 1) := by decide +kernel
theorem dX7_band_0 : decode cX7_band 0 = .ok (.aload_n 0, 1) := by decide +kernel
theorem dX7_band_1 : decode cX7_band 1 = .ok (.iconst 0, 1) := by decide +kernel
theorem dX7_band_2 : decode cX7_band 2 = .ok (.putfield 37, 3) := by decide +kernel
theorem dX7_band_5 : decode cX7_band 5 = .ok (.aload_n 0, 1) := by decide +kernel
theorem dX7_band_6 : decode cX7_band 6 = .ok (.iload_n 1, 1) := by decide +kernel
theorem dX7_band_7 : decode cX7_band 7 = .ok (.invokevirtual 51, 3) := by decide +kernel
theorem dX7_band_10 : decode cX7_band 10 = .ok (.ifCond .eq 22, 3) := by decide +kernel
theorem dX7_band_13 : decode cX7_band 13 = .ok (.iload_n 2, 1) := by decide +kernel
theorem dX7_band_14 : decode cX7_band 14 = .ok (.iconst 0, 1) := by decide +kernel
theorem dX7_band_15 : decode cX7_band 15 = .ok (.bipush 8, 2) := by decide +kernel
theorem dX7_band_17 : decode cX7_band 17 = .ok (.invokestatic 44, 3) := by decide +kernel
theorem dX7_band_20 : decode cX7_band 20 = .ok (.ifCond .eq 12, 3) := by decide +kernel
theorem dX7_band_23 : decode cX7_band 23 = .ok (.aload_n 0, 1) := by decide +kernel
theorem dX7_band_24 : decode cX7_band 24 = .ok (.iload_n 1, 1) := by decide +kernel
theorem dX7_band_25 : decode cX7_band 25 = .ok (.iload_n 2, 1) := by decide +kernel
theorem dX7_band_26 : decode cX7_band 26 = .ok (.invokevirtual 122, 3) := by decide +kernel
theorem dX7_band_29 : decode cX7_band 29 = .ok (.goto 8, 3) := by decide +kernel
theorem dX7_band_32 : decode cX7_band 32 = .ok (.aload_n 0, 1) := by decide +kernel
theorem dX7_band_33 : decode cX7_band 33 = .ok (.iconst 1, 1) := by decide +kernel
theorem dX7_band_34 : decode cX7_band 34 = .ok (.invokevirtual 55, 3) := by decide +kernel
theorem dX7_band_37 : decode cX7_band 37 = .ok (.ireturn, 1) := by decide +kernel
theorem dX7_chairTold_0 : decode cX7_chairTold 0 = .ok (.iload_n 2, 1) := by decide +kernel
theorem dX7_chairTold_1 : decode cX7_chairTold 1 = .ok (.ifCond .ne 12, 3) := by decide +kernel
theorem dX7_chairTold_4 : decode cX7_chairTold 4 = .ok (.aload_n 0, 1) := by decide +kernel
theorem dX7_chairTold_5 : decode cX7_chairTold 5 = .ok (.getfield 16, 3) := by decide +kernel
theorem dX7_chairTold_8 : decode cX7_chairTold 8 = .ok (.iload_n 1, 1) := by decide +kernel
theorem dX7_chairTold_9 : decode cX7_chairTold 9 = .ok (.iaload, 1) := by decide +kernel
theorem dX7_chairTold_10 : decode cX7_chairTold 10 = .ok (.goto 29, 3) := by decide +kernel
theorem dX7_chairTold_13 : decode cX7_chairTold 13 = .ok (.iload_n 2, 1) := by decide +kernel
theorem dX7_chairTold_14 : decode cX7_chairTold 14 = .ok (.iconst 1, 1) := by decide +kernel
theorem dX7_chairTold_15 : decode cX7_chairTold 15 = .ok (.if_icmp .ne 15, 3) := by decide +kernel
theorem dX7_chairTold_18 : decode cX7_chairTold 18 = .ok (.aload_n 0, 1) := by decide +kernel
theorem dX7_chairTold_19 : decode cX7_chairTold 19 = .ok (.getfield 30, 3) := by decide +kernel
theorem dX7_chairTold_22 : decode cX7_chairTold 22 = .ok (.getfield 66, 3) := by decide +kernel
theorem dX7_chairTold_25 : decode cX7_chairTold 25 = .ok (.iload_n 1, 1) := by decide +kernel
theorem dX7_chairTold_26 : decode cX7_chairTold 26 = .ok (.iaload, 1) := by decide +kernel
theorem dX7_chairTold_27 : decode cX7_chairTold 27 = .ok (.goto 12, 3) := by decide +kernel
theorem dX7_chairTold_30 : decode cX7_chairTold 30 = .ok (.aload_n 0, 1) := by decide +kernel
theorem dX7_chairTold_31 : decode cX7_chairTold 31 = .ok (.getfield 30, 3) := by decide +kernel
theorem dX7_chairTold_34 : decode cX7_chairTold 34 = .ok (.getfield 69, 3) := by decide +kernel
theorem dX7_chairTold_37 : decode cX7_chairTold 37 = .ok (.iload_n 1, 1) := by decide +kernel
theorem dX7_chairTold_38 : decode cX7_chairTold 38 = .ok (.iaload, 1) := by decide +kernel
theorem dX7_chairTold_39 : decode cX7_chairTold 39 = .ok (.ireturn, 1) := by decide +kernel
theorem dX7_chair_0 : decode cX7_chair 0 = .ok (.aload_n 0, 1) := by decide +kernel
theorem dX7_chair_1 : decode cX7_chair 1 = .ok (.iconst 0, 1) := by decide +kernel
theorem dX7_chair_2 : decode cX7_chair 2 = .ok (.putfield 37, 3) := by decide +kernel
theorem dX7_chair_5 : decode cX7_chair 5 = .ok (.aload_n 0, 1) := by decide +kernel
theorem dX7_chair_6 : decode cX7_chair 6 = .ok (.iload_n 1, 1) := by decide +kernel
theorem dX7_chair_7 : decode cX7_chair 7 = .ok (.iload_n 2, 1) := by decide +kernel
theorem dX7_chair_8 : decode cX7_chair 8 = .ok (.invokevirtual 75, 3) := by decide +kernel
theorem dX7_chair_11 : decode cX7_chair 11 = .ok (.ifCond .eq 26, 3) := by decide +kernel
theorem dX7_chair_14 : decode cX7_chair 14 = .ok (.iload_n 3, 1) := by decide +kernel
theorem dX7_chair_15 : decode cX7_chair 15 = .ok (.iconst 0, 1) := by decide +kernel
theorem dX7_chair_16 : decode cX7_chair 16 = .ok (.iconst 2, 1) := by decide +kernel
theorem dX7_chair_17 : decode cX7_chair 17 = .ok (.invokestatic 44, 3) := by decide +kernel
theorem dX7_chair_20 : decode cX7_chair 20 = .ok (.ifCond .eq 17, 3) := by decide +kernel
theorem dX7_chair_23 : decode cX7_chair 23 = .ok (.aload_n 0, 1) := by decide +kernel
theorem dX7_chair_24 : decode cX7_chair 24 = .ok (.bipush 8, 2) := by decide +kernel
theorem dX7_chair_26 : decode cX7_chair 26 = .ok (.iload_n 1, 1) := by decide +kernel
theorem dX7_chair_27 : decode cX7_chair 27 = .ok (.imul, 1) := by decide +kernel
theorem dX7_chair_28 : decode cX7_chair 28 = .ok (.iload_n 2, 1) := by decide +kernel
theorem dX7_chair_29 : decode cX7_chair 29 = .ok (.iadd, 1) := by decide +kernel
theorem dX7_chair_30 : decode cX7_chair 30 = .ok (.iload_n 3, 1) := by decide +kernel
theorem dX7_chair_31 : decode cX7_chair 31 = .ok (.invokevirtual 125, 3) := by decide +kernel
theorem dX7_chair_34 : decode cX7_chair 34 = .ok (.goto 8, 3) := by decide +kernel
theorem dX7_chair_37 : decode cX7_chair 37 = .ok (.aload_n 0, 1) := by decide +kernel
theorem dX7_chair_38 : decode cX7_chair 38 = .ok (.iconst 1, 1) := by decide +kernel
theorem dX7_chair_39 : decode cX7_chair 39 = .ok (.invokevirtual 55, 3) := by decide +kernel
theorem dX7_chair_42 : decode cX7_chair 42 = .ok (.ireturn, 1) := by decide +kernel
theorem dX7_contest_0 : decode cX7_contest 0 = .ok (.aload_n 0, 1) := by decide +kernel
theorem dX7_contest_1 : decode cX7_contest 1 = .ok (.iconst 0, 1) := by decide +kernel
theorem dX7_contest_2 : decode cX7_contest 2 = .ok (.putfield 37, 3) := by decide +kernel
theorem dX7_contest_5 : decode cX7_contest 5 = .ok (.aload_n 0, 1) := by decide +kernel
theorem dX7_contest_6 : decode cX7_contest 6 = .ok (.getfield 48, 3) := by decide +kernel
theorem dX7_contest_9 : decode cX7_contest 9 = .ok (.ifCond .ne 11, 3) := by decide +kernel
theorem dX7_contest_12 : decode cX7_contest 12 = .ok (.aload_n 0, 1) := by decide +kernel
theorem dX7_contest_13 : decode cX7_contest 13 = .ok (.iconst 1, 1) := by decide +kernel
theorem dX7_contest_14 : decode cX7_contest 14 = .ok (.invokevirtual 55, 3) := by decide +kernel
theorem dX7_contest_17 : decode cX7_contest 17 = .ok (.goto 10, 3) := by decide +kernel
theorem dX7_contest_20 : decode cX7_contest 20 = .ok (.aload_n 0, 1) := by decide +kernel
theorem dX7_contest_21 : decode cX7_contest 21 = .ok (.getfield 30, 3) := by decide +kernel
theorem dX7_contest_24 : decode cX7_contest 24 = .ok (.invokevirtual 128, 3) := by decide +kernel
theorem dX7_contest_27 : decode cX7_contest 27 = .ok (.ireturn, 1) := by decide +kernel
theorem dX7_rank_0 : decode cX7_rank 0 = .ok (.aload_n 0, 1) := by decide +kernel
theorem dX7_rank_1 : decode cX7_rank 1 = .ok (.iconst 0, 1) := by decide +kernel
theorem dX7_rank_2 : decode cX7_rank 2 = .ok (.putfield 37, 3) := by decide +kernel
theorem dX7_rank_5 : decode cX7_rank 5 = .ok (.aload_n 0, 1) := by decide +kernel
theorem dX7_rank_6 : decode cX7_rank 6 = .ok (.iload_n 1, 1) := by decide +kernel
theorem dX7_rank_7 : decode cX7_rank 7 = .ok (.invokevirtual 51, 3) := by decide +kernel
theorem dX7_rank_10 : decode cX7_rank 10 = .ok (.ifCond .ne 9, 3) := by decide +kernel
theorem dX7_rank_13 : decode cX7_rank 13 = .ok (.aload_n 0, 1) := by decide +kernel
theorem dX7_rank_14 : decode cX7_rank 14 = .ok (.iconst 1, 1) := by decide +kernel
theorem dX7_rank_15 : decode cX7_rank 15 = .ok (.invokevirtual 55, 3) := by decide +kernel
theorem dX7_rank_18 : decode cX7_rank 18 = .ok (.ireturn, 1) := by decide +kernel
theorem dX7_rank_19 : decode cX7_rank 19 = .ok (.iconst 0, 1) := by decide +kernel
theorem dX7_rank_20 : decode cX7_rank 20 = .ok (.istore_n 2, 1) := by decide +kernel
theorem dX7_rank_21 : decode cX7_rank 21 = .ok (.iload_n 2, 1) := by decide +kernel
theorem dX7_rank_22 : decode cX7_rank 22 = .ok (.aload_n 0, 1) := by decide +kernel
theorem dX7_rank_23 : decode cX7_rank 23 = .ok (.getfield 48, 3) := by decide +kernel
theorem dX7_rank_26 : decode cX7_rank 26 = .ok (.if_icmp .ge 94, 3) := by decide +kernel
theorem dX7_rank_29 : decode cX7_rank 29 = .ok (.iconst 0, 1) := by decide +kernel
theorem dX7_rank_30 : decode cX7_rank 30 = .ok (.istore_n 3, 1) := by decide +kernel
theorem dX7_rank_31 : decode cX7_rank 31 = .ok (.iconst 0, 1) := by decide +kernel
theorem dX7_rank_32 : decode cX7_rank 32 = .ok (.istore 4, 2) := by decide +kernel
theorem dX7_rank_34 : decode cX7_rank 34 = .ok (.iload 4, 2) := by decide +kernel
theorem dX7_rank_36 : decode cX7_rank 36 = .ok (.aload_n 0, 1) := by decide +kernel
theorem dX7_rank_37 : decode cX7_rank 37 = .ok (.getfield 48, 3) := by decide +kernel
theorem dX7_rank_40 : decode cX7_rank 40 = .ok (.if_icmp .ge 67, 3) := by decide +kernel
theorem dX7_rank_43 : decode cX7_rank 43 = .ok (.iload_n 3, 1) := by decide +kernel
theorem dX7_rank_44 : decode cX7_rank 44 = .ok (.aload_n 0, 1) := by decide +kernel
theorem dX7_rank_45 : decode cX7_rank 45 = .ok (.getfield 30, 3) := by decide +kernel
theorem dX7_rank_48 : decode cX7_rank 48 = .ok (.getfield 116, 3) := by decide +kernel
theorem dX7_rank_51 : decode cX7_rank 51 = .ok (.iload 4, 2) := by decide +kernel
theorem dX7_rank_53 : decode cX7_rank 53 = .ok (.iaload, 1) := by decide +kernel
theorem dX7_rank_54 : decode cX7_rank 54 = .ok (.aload_n 0, 1) := by decide +kernel
theorem dX7_rank_55 : decode cX7_rank 55 = .ok (.getfield 30, 3) := by decide +kernel
theorem dX7_rank_58 : decode cX7_rank 58 = .ok (.getfield 116, 3) := by decide +kernel
theorem dX7_rank_61 : decode cX7_rank 61 = .ok (.iload_n 2, 1) := by decide +kernel
theorem dX7_rank_62 : decode cX7_rank 62 = .ok (.iaload, 1) := by decide +kernel
theorem dX7_rank_63 : decode cX7_rank 63 = .ok (.if_icmp .gt 31, 3) := by decide +kernel
theorem dX7_rank_66 : decode cX7_rank 66 = .ok (.aload_n 0, 1) := by decide +kernel
theorem dX7_rank_67 : decode cX7_rank 67 = .ok (.getfield 30, 3) := by decide +kernel
theorem dX7_rank_70 : decode cX7_rank 70 = .ok (.getfield 116, 3) := by decide +kernel
theorem dX7_rank_73 : decode cX7_rank 73 = .ok (.iload 4, 2) := by decide +kernel
theorem dX7_rank_75 : decode cX7_rank 75 = .ok (.iaload, 1) := by decide +kernel
theorem dX7_rank_76 : decode cX7_rank 76 = .ok (.aload_n 0, 1) := by decide +kernel
theorem dX7_rank_77 : decode cX7_rank 77 = .ok (.getfield 30, 3) := by decide +kernel
theorem dX7_rank_80 : decode cX7_rank 80 = .ok (.getfield 116, 3) := by decide +kernel
theorem dX7_rank_83 : decode cX7_rank 83 = .ok (.iload_n 2, 1) := by decide +kernel
theorem dX7_rank_84 : decode cX7_rank 84 = .ok (.iaload, 1) := by decide +kernel
theorem dX7_rank_85 : decode cX7_rank 85 = .ok (.if_icmp .ne 13, 3) := by decide +kernel
theorem dX7_rank_88 : decode cX7_rank 88 = .ok (.iload 4, 2) := by decide +kernel
theorem dX7_rank_90 : decode cX7_rank 90 = .ok (.iload_n 2, 1) := by decide +kernel
theorem dX7_rank_91 : decode cX7_rank 91 = .ok (.if_icmp .ge 7, 3) := by decide +kernel
theorem dX7_rank_94 : decode cX7_rank 94 = .ok (.iconst 1, 1) := by decide +kernel
theorem dX7_rank_95 : decode cX7_rank 95 = .ok (.goto 4, 3) := by decide +kernel
theorem dX7_rank_98 : decode cX7_rank 98 = .ok (.iconst 0, 1) := by decide +kernel
theorem dX7_rank_99 : decode cX7_rank 99 = .ok (.iadd, 1) := by decide +kernel
theorem dX7_rank_100 : decode cX7_rank 100 = .ok (.istore_n 3, 1) := by decide +kernel
theorem dX7_rank_101 : decode cX7_rank 101 = .ok (.iinc 4 1, 3) := by decide +kernel
theorem dX7_rank_104 : decode cX7_rank 104 = .ok (.goto (-70), 3) := by decide +kernel
theorem dX7_rank_107 : decode cX7_rank 107 = .ok (.iload_n 3, 1) := by decide +kernel
theorem dX7_rank_108 : decode cX7_rank 108 = .ok (.iload_n 1, 1) := by decide +kernel
theorem dX7_rank_109 : decode cX7_rank 109 = .ok (.if_icmp .ne 5, 3) := by decide +kernel
theorem dX7_rank_112 : decode cX7_rank 112 = .ok (.iload_n 2, 1) := by decide +kernel
theorem dX7_rank_113 : decode cX7_rank 113 = .ok (.ireturn, 1) := by decide +kernel
theorem dX7_rank_114 : decode cX7_rank 114 = .ok (.iinc 2 1, 3) := by decide +kernel
theorem dX7_rank_117 : decode cX7_rank 117 = .ok (.goto (-96), 3) := by decide +kernel
theorem dX7_rank_120 : decode cX7_rank 120 = .ok (.iconst (-1), 1) := by decide +kernel
theorem dX7_rank_121 : decode cX7_rank 121 = .ok (.ireturn, 1) := by decide +kernel
theorem dX7_counted_0 : decode cX7_counted 0 = .ok (.iconst 0, 1) := by decide +kernel
theorem dX7_counted_1 : decode cX7_counted 1 = .ok (.istore_n 2, 1) := by decide +kernel
theorem dX7_counted_2 : decode cX7_counted 2 = .ok (.iconst 0, 1) := by decide +kernel
theorem dX7_counted_3 : decode cX7_counted 3 = .ok (.istore_n 3, 1) := by decide +kernel
theorem dX7_counted_4 : decode cX7_counted 4 = .ok (.iconst 0, 1) := by decide +kernel
theorem dX7_counted_5 : decode cX7_counted 5 = .ok (.istore 4, 2) := by decide +kernel
theorem dX7_counted_7 : decode cX7_counted 7 = .ok (.iload 4, 2) := by decide +kernel
theorem dX7_counted_9 : decode cX7_counted 9 = .ok (.aload_n 0, 1) := by decide +kernel
theorem dX7_counted_10 : decode cX7_counted 10 = .ok (.getfield 48, 3) := by decide +kernel
theorem dX7_counted_13 : decode cX7_counted 13 = .ok (.if_icmp .ge 21, 3) := by decide +kernel
theorem dX7_counted_16 : decode cX7_counted 16 = .ok (.iload_n 2, 1) := by decide +kernel
theorem dX7_counted_17 : decode cX7_counted 17 = .ok (.aload_n 0, 1) := by decide +kernel
theorem dX7_counted_18 : decode cX7_counted 18 = .ok (.getfield 30, 3) := by decide +kernel
theorem dX7_counted_21 : decode cX7_counted 21 = .ok (.iload 4, 2) := by decide +kernel
theorem dX7_counted_23 : decode cX7_counted 23 = .ok (.invokevirtual 113, 3) := by decide +kernel
theorem dX7_counted_26 : decode cX7_counted 26 = .ok (.iadd, 1) := by decide +kernel
theorem dX7_counted_27 : decode cX7_counted 27 = .ok (.istore_n 2, 1) := by decide +kernel
theorem dX7_counted_28 : decode cX7_counted 28 = .ok (.iinc 4 1, 3) := by decide +kernel
theorem dX7_counted_31 : decode cX7_counted 31 = .ok (.goto (-24), 3) := by decide +kernel
theorem dX7_counted_34 : decode cX7_counted 34 = .ok (.iconst 0, 1) := by decide +kernel
theorem dX7_counted_35 : decode cX7_counted 35 = .ok (.istore 4, 2) := by decide +kernel
theorem dX7_counted_37 : decode cX7_counted 37 = .ok (.iload 4, 2) := by decide +kernel
theorem dX7_counted_39 : decode cX7_counted 39 = .ok (.aload_n 0, 1) := by decide +kernel
theorem dX7_counted_40 : decode cX7_counted 40 = .ok (.getfield 41, 3) := by decide +kernel
theorem dX7_counted_43 : decode cX7_counted 43 = .ok (.if_icmp .ge 30, 3) := by decide +kernel
theorem dX7_counted_46 : decode cX7_counted 46 = .ok (.iload_n 3, 1) := by decide +kernel
theorem dX7_counted_47 : decode cX7_counted 47 = .ok (.aload_n 0, 1) := by decide +kernel
theorem dX7_counted_48 : decode cX7_counted 48 = .ok (.getfield 30, 3) := by decide +kernel
theorem dX7_counted_51 : decode cX7_counted 51 = .ok (.getfield 89, 3) := by decide +kernel
theorem dX7_counted_54 : decode cX7_counted 54 = .ok (.iload 4, 2) := by decide +kernel
theorem dX7_counted_56 : decode cX7_counted 56 = .ok (.iaload, 1) := by decide +kernel
theorem dX7_counted_57 : decode cX7_counted 57 = .ok (.ifCond .le 7, 3) := by decide +kernel
theorem dX7_counted_60 : decode cX7_counted 60 = .ok (.iconst 1, 1) := by decide +kernel
theorem dX7_counted_61 : decode cX7_counted 61 = .ok (.goto 4, 3) := by decide +kernel
theorem dX7_counted_64 : decode cX7_counted 64 = .ok (.iconst 0, 1) := by decide +kernel
theorem dX7_counted_65 : decode cX7_counted 65 = .ok (.iadd, 1) := by decide +kernel
theorem dX7_counted_66 : decode cX7_counted 66 = .ok (.istore_n 3, 1) := by decide +kernel
theorem dX7_counted_67 : decode cX7_counted 67 = .ok (.iinc 4 1, 3) := by decide +kernel
theorem dX7_counted_70 : decode cX7_counted 70 = .ok (.goto (-33), 3) := by decide +kernel
theorem dX7_counted_73 : decode cX7_counted 73 = .ok (.bipush 7, 2) := by decide +kernel
theorem dX7_counted_75 : decode cX7_counted 75 = .ok (.newarray .int, 2) := by decide +kernel
theorem dX7_counted_77 : decode cX7_counted 77 = .ok (.dup, 1) := by decide +kernel
theorem dX7_counted_78 : decode cX7_counted 78 = .ok (.iconst 0, 1) := by decide +kernel
theorem dX7_counted_79 : decode cX7_counted 79 = .ok (.aload_n 0, 1) := by decide +kernel
theorem dX7_counted_80 : decode cX7_counted 80 = .ok (.getfield 30, 3) := by decide +kernel
theorem dX7_counted_83 : decode cX7_counted 83 = .ok (.getfield 132, 3) := by decide +kernel
theorem dX7_counted_86 : decode cX7_counted 86 = .ok (.iastore, 1) := by decide +kernel
theorem dX7_counted_87 : decode cX7_counted 87 = .ok (.dup, 1) := by decide +kernel
theorem dX7_counted_88 : decode cX7_counted 88 = .ok (.iconst 1, 1) := by decide +kernel
theorem dX7_counted_89 : decode cX7_counted 89 = .ok (.aload_n 0, 1) := by decide +kernel
theorem dX7_counted_90 : decode cX7_counted 90 = .ok (.getfield 41, 3) := by decide +kernel
theorem dX7_counted_93 : decode cX7_counted 93 = .ok (.iastore, 1) := by decide +kernel
theorem dX7_counted_94 : decode cX7_counted 94 = .ok (.dup, 1) := by decide +kernel
theorem dX7_counted_95 : decode cX7_counted 95 = .ok (.iconst 2, 1) := by decide +kernel
theorem dX7_counted_96 : decode cX7_counted 96 = .ok (.aload_n 0, 1) := by decide +kernel
theorem dX7_counted_97 : decode cX7_counted 97 = .ok (.getfield 48, 3) := by decide +kernel
theorem dX7_counted_100 : decode cX7_counted 100 = .ok (.iastore, 1) := by decide +kernel
theorem dX7_counted_101 : decode cX7_counted 101 = .ok (.dup, 1) := by decide +kernel
theorem dX7_counted_102 : decode cX7_counted 102 = .ok (.iconst 3, 1) := by decide +kernel
theorem dX7_counted_103 : decode cX7_counted 103 = .ok (.iload_n 2, 1) := by decide +kernel
theorem dX7_counted_104 : decode cX7_counted 104 = .ok (.iastore, 1) := by decide +kernel
theorem dX7_counted_105 : decode cX7_counted 105 = .ok (.dup, 1) := by decide +kernel
theorem dX7_counted_106 : decode cX7_counted 106 = .ok (.iconst 4, 1) := by decide +kernel
theorem dX7_counted_107 : decode cX7_counted 107 = .ok (.iload_n 3, 1) := by decide +kernel
theorem dX7_counted_108 : decode cX7_counted 108 = .ok (.iastore, 1) := by decide +kernel
theorem dX7_counted_109 : decode cX7_counted 109 = .ok (.dup, 1) := by decide +kernel
theorem dX7_counted_110 : decode cX7_counted 110 = .ok (.iconst 5, 1) := by decide +kernel
theorem dX7_counted_111 : decode cX7_counted 111 = .ok (.aload_n 0, 1) := by decide +kernel
theorem dX7_counted_112 : decode cX7_counted 112 = .ok (.getfield 30, 3) := by decide +kernel
theorem dX7_counted_115 : decode cX7_counted 115 = .ok (.getfield 135, 3) := by decide +kernel
theorem dX7_counted_118 : decode cX7_counted 118 = .ok (.iastore, 1) := by decide +kernel
theorem dX7_counted_119 : decode cX7_counted 119 = .ok (.dup, 1) := by decide +kernel
theorem dX7_counted_120 : decode cX7_counted 120 = .ok (.bipush 6, 2) := by decide +kernel
theorem dX7_counted_122 : decode cX7_counted 122 = .ok (.aload_n 0, 1) := by decide +kernel
theorem dX7_counted_123 : decode cX7_counted 123 = .ok (.getfield 30, 3) := by decide +kernel
theorem dX7_counted_126 : decode cX7_counted 126 = .ok (.getfield 138, 3) := by decide +kernel
theorem dX7_counted_129 : decode cX7_counted 129 = .ok (.iastore, 1) := by decide +kernel
theorem dX7_counted_130 : decode cX7_counted 130 = .ok (.astore 4, 2) := by decide +kernel
theorem dX7_counted_132 : decode cX7_counted 132 = .ok (.aload 4, 2) := by decide +kernel
theorem dX7_counted_134 : decode cX7_counted 134 = .ok (.iload_n 1, 1) := by decide +kernel
theorem dX7_counted_135 : decode cX7_counted 135 = .ok (.iaload, 1) := by decide +kernel
theorem dX7_counted_136 : decode cX7_counted 136 = .ok (.ireturn, 1) := by decide +kernel
theorem dX7_count_0 : decode cX7_count 0 = .ok (.aload_n 0, 1) := by decide +kernel
theorem dX7_count_1 : decode cX7_count 1 = .ok (.iconst 0, 1) := by decide +kernel
theorem dX7_count_2 : decode cX7_count 2 = .ok (.putfield 37, 3) := by decide +kernel
theorem dX7_count_5 : decode cX7_count 5 = .ok (.iload_n 1, 1) := by decide +kernel
theorem dX7_count_6 : decode cX7_count 6 = .ok (.iconst 0, 1) := by decide +kernel
theorem dX7_count_7 : decode cX7_count 7 = .ok (.bipush 6, 2) := by decide +kernel
theorem dX7_count_9 : decode cX7_count 9 = .ok (.invokestatic 44, 3) := by decide +kernel
theorem dX7_count_12 : decode cX7_count 12 = .ok (.ifCond .eq 11, 3) := by decide +kernel
theorem dX7_count_15 : decode cX7_count 15 = .ok (.aload_n 0, 1) := by decide +kernel
theorem dX7_count_16 : decode cX7_count 16 = .ok (.iload_n 1, 1) := by decide +kernel
theorem dX7_count_17 : decode cX7_count 17 = .ok (.invokevirtual 141, 3) := by decide +kernel
theorem dX7_count_20 : decode cX7_count 20 = .ok (.goto 8, 3) := by decide +kernel
theorem dX7_count_23 : decode cX7_count 23 = .ok (.aload_n 0, 1) := by decide +kernel
theorem dX7_count_24 : decode cX7_count 24 = .ok (.iconst 1, 1) := by decide +kernel
theorem dX7_count_25 : decode cX7_count 25 = .ok (.invokevirtual 55, 3) := by decide +kernel
theorem dX7_count_28 : decode cX7_count 28 = .ok (.ireturn, 1) := by decide +kernel
theorem dX7_foresee_0 : decode cX7_foresee 0 = .ok (.aload_n 0, 1) := by decide +kernel
theorem dX7_foresee_1 : decode cX7_foresee 1 = .ok (.iconst 0, 1) := by decide +kernel
theorem dX7_foresee_2 : decode cX7_foresee 2 = .ok (.putfield 37, 3) := by decide +kernel
theorem dX7_foresee_5 : decode cX7_foresee 5 = .ok (.aload_n 0, 1) := by decide +kernel
theorem dX7_foresee_6 : decode cX7_foresee 6 = .ok (.iload_n 1, 1) := by decide +kernel
theorem dX7_foresee_7 : decode cX7_foresee 7 = .ok (.invokevirtual 51, 3) := by decide +kernel
theorem dX7_foresee_10 : decode cX7_foresee 10 = .ok (.ifCond .eq 12, 3) := by decide +kernel
theorem dX7_foresee_13 : decode cX7_foresee 13 = .ok (.iload_n 3, 1) := by decide +kernel
theorem dX7_foresee_14 : decode cX7_foresee 14 = .ok (.iconst 0, 1) := by decide +kernel
theorem dX7_foresee_15 : decode cX7_foresee 15 = .ok (.iconst 3, 1) := by decide +kernel
theorem dX7_foresee_16 : decode cX7_foresee 16 = .ok (.invokestatic 44, 3) := by decide +kernel
theorem dX7_foresee_19 : decode cX7_foresee 19 = .ok (.ifCond .ne 9, 3) := by decide +kernel
theorem dX7_foresee_22 : decode cX7_foresee 22 = .ok (.aload_n 0, 1) := by decide +kernel
theorem dX7_foresee_23 : decode cX7_foresee 23 = .ok (.iconst 1, 1) := by decide +kernel
theorem dX7_foresee_24 : decode cX7_foresee 24 = .ok (.invokevirtual 55, 3) := by decide +kernel
theorem dX7_foresee_27 : decode cX7_foresee 27 = .ok (.ireturn, 1) := by decide +kernel
theorem dX7_foresee_28 : decode cX7_foresee 28 = .ok (.iload_n 2, 1) := by decide +kernel
theorem dX7_foresee_29 : decode cX7_foresee 29 = .ok (.iconst 1, 1) := by decide +kernel
theorem dX7_foresee_30 : decode cX7_foresee 30 = .ok (.bipush 20, 2) := by decide +kernel
theorem dX7_foresee_32 : decode cX7_foresee 32 = .ok (.invokestatic 44, 3) := by decide +kernel
theorem dX7_foresee_35 : decode cX7_foresee 35 = .ok (.ifCond .ne 9, 3) := by decide +kernel
theorem dX7_foresee_38 : decode cX7_foresee 38 = .ok (.aload_n 0, 1) := by decide +kernel
theorem dX7_foresee_39 : decode cX7_foresee 39 = .ok (.iconst 2, 1) := by decide +kernel
theorem dX7_foresee_40 : decode cX7_foresee 40 = .ok (.invokevirtual 55, 3) := by decide +kernel
theorem dX7_foresee_43 : decode cX7_foresee 43 = .ok (.ireturn, 1) := by decide +kernel
theorem dX7_foresee_44 : decode cX7_foresee 44 = .ok (.aload_n 0, 1) := by decide +kernel
theorem dX7_foresee_45 : decode cX7_foresee 45 = .ok (.getfield 34, 3) := by decide +kernel
theorem dX7_foresee_48 : decode cX7_foresee 48 = .ok (.aload_n 0, 1) := by decide +kernel
theorem dX7_foresee_49 : decode cX7_foresee 49 = .ok (.getfield 30, 3) := by decide +kernel
theorem dX7_foresee_52 : decode cX7_foresee 52 = .ok (.invokevirtual 144, 3) := by decide +kernel
theorem dX7_foresee_55 : decode cX7_foresee 55 = .ok (.iconst 0, 1) := by decide +kernel
theorem dX7_foresee_56 : decode cX7_foresee 56 = .ok (.istore 4, 2) := by decide +kernel
theorem dX7_foresee_58 : decode cX7_foresee 58 = .ok (.iload 4, 2) := by decide +kernel
theorem dX7_foresee_60 : decode cX7_foresee 60 = .ok (.iload_n 2, 1) := by decide +kernel
theorem dX7_foresee_61 : decode cX7_foresee 61 = .ok (.if_icmp .ge 17, 3) := by decide +kernel
theorem dX7_foresee_64 : decode cX7_foresee 64 = .ok (.aload_n 0, 1) := by decide +kernel
theorem dX7_foresee_65 : decode cX7_foresee 65 = .ok (.getfield 34, 3) := by decide +kernel
theorem dX7_foresee_68 : decode cX7_foresee 68 = .ok (.invokevirtual 128, 3) := by decide +kernel
theorem dX7_foresee_71 : decode cX7_foresee 71 = .ok (.pop, 1) := by decide +kernel
theorem dX7_foresee_72 : decode cX7_foresee 72 = .ok (.iinc 4 1, 3) := by decide +kernel
theorem dX7_foresee_75 : decode cX7_foresee 75 = .ok (.goto (-17), 3) := by decide +kernel
theorem dX7_foresee_78 : decode cX7_foresee 78 = .ok (.iload_n 3, 1) := by decide +kernel
theorem dX7_foresee_79 : decode cX7_foresee 79 = .ok (.iconst 3, 1) := by decide +kernel
theorem dX7_foresee_80 : decode cX7_foresee 80 = .ok (.if_icmp .ge 19, 3) := by decide +kernel
theorem dX7_foresee_83 : decode cX7_foresee 83 = .ok (.aload_n 0, 1) := by decide +kernel
theorem dX7_foresee_84 : decode cX7_foresee 84 = .ok (.getfield 34, 3) := by decide +kernel
theorem dX7_foresee_87 : decode cX7_foresee 87 = .ok (.getfield 72, 3) := by decide +kernel
theorem dX7_foresee_90 : decode cX7_foresee 90 = .ok (.iconst 4, 1) := by decide +kernel
theorem dX7_foresee_91 : decode cX7_foresee 91 = .ok (.iload_n 1, 1) := by decide +kernel
theorem dX7_foresee_92 : decode cX7_foresee 92 = .ok (.imul, 1) := by decide +kernel
theorem dX7_foresee_93 : decode cX7_foresee 93 = .ok (.iload_n 3, 1) := by decide +kernel
theorem dX7_foresee_94 : decode cX7_foresee 94 = .ok (.iadd, 1) := by decide +kernel
theorem dX7_foresee_95 : decode cX7_foresee 95 = .ok (.iaload, 1) := by decide +kernel
theorem dX7_foresee_96 : decode cX7_foresee 96 = .ok (.goto 12, 3) := by decide +kernel
theorem dX7_foresee_99 : decode cX7_foresee 99 = .ok (.aload_n 0, 1) := by decide +kernel
theorem dX7_foresee_100 : decode cX7_foresee 100 = .ok (.getfield 34, 3) := by decide +kernel
theorem dX7_foresee_103 : decode cX7_foresee 103 = .ok (.getfield 116, 3) := by decide +kernel
theorem dX7_foresee_106 : decode cX7_foresee 106 = .ok (.iload_n 1, 1) := by decide +kernel
theorem dX7_foresee_107 : decode cX7_foresee 107 = .ok (.iaload, 1) := by decide +kernel
theorem dX7_foresee_108 : decode cX7_foresee 108 = .ok (.ireturn, 1) := by decide +kernel
theorem dX7_advise_0 : decode cX7_advise 0 = .ok (.aload_n 0, 1) := by decide +kernel
theorem dX7_advise_1 : decode cX7_advise 1 = .ok (.iconst 0, 1) := by decide +kernel
theorem dX7_advise_2 : decode cX7_advise 2 = .ok (.putfield 37, 3) := by decide +kernel
theorem dX7_advise_5 : decode cX7_advise 5 = .ok (.aload_n 0, 1) := by decide +kernel
theorem dX7_advise_6 : decode cX7_advise 6 = .ok (.iload_n 1, 1) := by decide +kernel
theorem dX7_advise_7 : decode cX7_advise 7 = .ok (.invokevirtual 51, 3) := by decide +kernel
theorem dX7_advise_10 : decode cX7_advise 10 = .ok (.ifCond .ne 9, 3) := by decide +kernel
theorem dX7_advise_13 : decode cX7_advise 13 = .ok (.aload_n 0, 1) := by decide +kernel
theorem dX7_advise_14 : decode cX7_advise 14 = .ok (.iconst 1, 1) := by decide +kernel
theorem dX7_advise_15 : decode cX7_advise 15 = .ok (.invokevirtual 55, 3) := by decide +kernel
theorem dX7_advise_18 : decode cX7_advise 18 = .ok (.ireturn, 1) := by decide +kernel
theorem dX7_advise_19 : decode cX7_advise 19 = .ok (.aload_n 0, 1) := by decide +kernel
theorem dX7_advise_20 : decode cX7_advise 20 = .ok (.getfield 34, 3) := by decide +kernel
theorem dX7_advise_23 : decode cX7_advise 23 = .ok (.aload_n 0, 1) := by decide +kernel
theorem dX7_advise_24 : decode cX7_advise 24 = .ok (.getfield 30, 3) := by decide +kernel
theorem dX7_advise_27 : decode cX7_advise 27 = .ok (.invokevirtual 144, 3) := by decide +kernel
theorem dX7_advise_30 : decode cX7_advise 30 = .ok (.aload_n 0, 1) := by decide +kernel
theorem dX7_advise_31 : decode cX7_advise 31 = .ok (.getfield 34, 3) := by decide +kernel
theorem dX7_advise_34 : decode cX7_advise 34 = .ok (.invokevirtual 128, 3) := by decide +kernel
theorem dX7_advise_37 : decode cX7_advise 37 = .ok (.pop, 1) := by decide +kernel
theorem dX7_advise_38 : decode cX7_advise 38 = .ok (.aload_n 0, 1) := by decide +kernel
theorem dX7_advise_39 : decode cX7_advise 39 = .ok (.getfield 34, 3) := by decide +kernel
theorem dX7_advise_42 : decode cX7_advise 42 = .ok (.getfield 72, 3) := by decide +kernel
theorem dX7_advise_45 : decode cX7_advise 45 = .ok (.iconst 4, 1) := by decide +kernel
theorem dX7_advise_46 : decode cX7_advise 46 = .ok (.iload_n 1, 1) := by decide +kernel
theorem dX7_advise_47 : decode cX7_advise 47 = .ok (.imul, 1) := by decide +kernel
theorem dX7_advise_48 : decode cX7_advise 48 = .ok (.iaload, 1) := by decide +kernel
theorem dX7_advise_49 : decode cX7_advise 49 = .ok (.istore_n 2, 1) := by decide +kernel
theorem dX7_advise_50 : decode cX7_advise 50 = .ok (.iconst (-1), 1) := by decide +kernel
theorem dX7_advise_51 : decode cX7_advise 51 = .ok (.istore_n 3, 1) := by decide +kernel
theorem dX7_advise_52 : decode cX7_advise 52 = .ok (.iconst 0, 1) := by decide +kernel
theorem dX7_advise_53 : decode cX7_advise 53 = .ok (.istore 4, 2) := by decide +kernel
theorem dX7_advise_55 : decode cX7_advise 55 = .ok (.iload 4, 2) := by decide +kernel
theorem dX7_advise_57 : decode cX7_advise 57 = .ok (.aload_n 0, 1) := by decide +kernel
theorem dX7_advise_58 : decode cX7_advise 58 = .ok (.getfield 13, 3) := by decide +kernel
theorem dX7_advise_61 : decode cX7_advise 61 = .ok (.iload_n 1, 1) := by decide +kernel
theorem dX7_advise_62 : decode cX7_advise 62 = .ok (.iaload, 1) := by decide +kernel
theorem dX7_advise_63 : decode cX7_advise 63 = .ok (.if_icmp .ge 111, 3) := by decide +kernel
theorem dX7_advise_66 : decode cX7_advise 66 = .ok (.iload 4, 2) := by decide +kernel
theorem dX7_advise_68 : decode cX7_advise 68 = .ok (.iconst 1, 1) := by decide +kernel
theorem dX7_advise_69 : decode cX7_advise 69 = .ok (.iadd, 1) := by decide +kernel
theorem dX7_advise_70 : decode cX7_advise 70 = .ok (.istore 5, 2) := by decide +kernel
theorem dX7_advise_72 : decode cX7_advise 72 = .ok (.iload 5, 2) := by decide +kernel
theorem dX7_advise_74 : decode cX7_advise 74 = .ok (.aload_n 0, 1) := by decide +kernel
theorem dX7_advise_75 : decode cX7_advise 75 = .ok (.getfield 13, 3) := by decide +kernel
theorem dX7_advise_78 : decode cX7_advise 78 = .ok (.iload_n 1, 1) := by decide +kernel
theorem dX7_advise_79 : decode cX7_advise 79 = .ok (.iaload, 1) := by decide +kernel
theorem dX7_advise_80 : decode cX7_advise 80 = .ok (.if_icmp .ge 88, 3) := by decide +kernel
theorem dX7_advise_83 : decode cX7_advise 83 = .ok (.aload_n 0, 1) := by decide +kernel
theorem dX7_advise_84 : decode cX7_advise 84 = .ok (.getfield 34, 3) := by decide +kernel
theorem dX7_advise_87 : decode cX7_advise 87 = .ok (.aload_n 0, 1) := by decide +kernel
theorem dX7_advise_88 : decode cX7_advise 88 = .ok (.getfield 30, 3) := by decide +kernel
theorem dX7_advise_91 : decode cX7_advise 91 = .ok (.invokevirtual 144, 3) := by decide +kernel
theorem dX7_advise_94 : decode cX7_advise 94 = .ok (.aload_n 0, 1) := by decide +kernel
theorem dX7_advise_95 : decode cX7_advise 95 = .ok (.getfield 34, 3) := by decide +kernel
theorem dX7_advise_98 : decode cX7_advise 98 = .ok (.bipush 8, 2) := by decide +kernel
theorem dX7_advise_100 : decode cX7_advise 100 = .ok (.iload_n 1, 1) := by decide +kernel
theorem dX7_advise_101 : decode cX7_advise 101 = .ok (.imul, 1) := by decide +kernel
theorem dX7_advise_102 : decode cX7_advise 102 = .ok (.iload 4, 2) := by decide +kernel
theorem dX7_advise_104 : decode cX7_advise 104 = .ok (.iadd, 1) := by decide +kernel
theorem dX7_advise_105 : decode cX7_advise 105 = .ok (.bipush 8, 2) := by decide +kernel
theorem dX7_advise_107 : decode cX7_advise 107 = .ok (.iload_n 1, 1) := by decide +kernel
theorem dX7_advise_108 : decode cX7_advise 108 = .ok (.imul, 1) := by decide +kernel
theorem dX7_advise_109 : decode cX7_advise 109 = .ok (.iload 5, 2) := by decide +kernel
theorem dX7_advise_111 : decode cX7_advise 111 = .ok (.iadd, 1) := by decide +kernel
theorem dX7_advise_112 : decode cX7_advise 112 = .ok (.invokestatic 85, 3) := by decide +kernel
theorem dX7_advise_115 : decode cX7_advise 115 = .ok (.aload_n 0, 1) := by decide +kernel
theorem dX7_advise_116 : decode cX7_advise 116 = .ok (.getfield 34, 3) := by decide +kernel
theorem dX7_advise_119 : decode cX7_advise 119 = .ok (.invokevirtual 128, 3) := by decide +kernel
theorem dX7_advise_122 : decode cX7_advise 122 = .ok (.pop, 1) := by decide +kernel
theorem dX7_advise_123 : decode cX7_advise 123 = .ok (.aload_n 0, 1) := by decide +kernel
theorem dX7_advise_124 : decode cX7_advise 124 = .ok (.getfield 34, 3) := by decide +kernel
theorem dX7_advise_127 : decode cX7_advise 127 = .ok (.getfield 72, 3) := by decide +kernel
theorem dX7_advise_130 : decode cX7_advise 130 = .ok (.iconst 4, 1) := by decide +kernel
theorem dX7_advise_131 : decode cX7_advise 131 = .ok (.iload_n 1, 1) := by decide +kernel
theorem dX7_advise_132 : decode cX7_advise 132 = .ok (.imul, 1) := by decide +kernel
theorem dX7_advise_133 : decode cX7_advise 133 = .ok (.iaload, 1) := by decide +kernel
theorem dX7_advise_134 : decode cX7_advise 134 = .ok (.iload_n 2, 1) := by decide +kernel
theorem dX7_advise_135 : decode cX7_advise 135 = .ok (.if_icmp .gt 6, 3) := by decide +kernel
theorem dX7_advise_138 : decode cX7_advise 138 = .ok (.goto 24, 3) := by decide +kernel
theorem dX7_advise_141 : decode cX7_advise 141 = .ok (.bipush 8, 2) := by decide +kernel
theorem dX7_advise_143 : decode cX7_advise 143 = .ok (.iload 4, 2) := by decide +kernel
theorem dX7_advise_145 : decode cX7_advise 145 = .ok (.imul, 1) := by decide +kernel
theorem dX7_advise_146 : decode cX7_advise 146 = .ok (.iload 5, 2) := by decide +kernel
theorem dX7_advise_148 : decode cX7_advise 148 = .ok (.iadd, 1) := by decide +kernel
theorem dX7_advise_149 : decode cX7_advise 149 = .ok (.istore_n 3, 1) := by decide +kernel
theorem dX7_advise_150 : decode cX7_advise 150 = .ok (.aload_n 0, 1) := by decide +kernel
theorem dX7_advise_151 : decode cX7_advise 151 = .ok (.getfield 34, 3) := by decide +kernel
theorem dX7_advise_154 : decode cX7_advise 154 = .ok (.getfield 72, 3) := by decide +kernel
theorem dX7_advise_157 : decode cX7_advise 157 = .ok (.iconst 4, 1) := by decide +kernel
theorem dX7_advise_158 : decode cX7_advise 158 = .ok (.iload_n 1, 1) := by decide +kernel
theorem dX7_advise_159 : decode cX7_advise 159 = .ok (.imul, 1) := by decide +kernel
theorem dX7_advise_160 : decode cX7_advise 160 = .ok (.iaload, 1) := by decide +kernel
theorem dX7_advise_161 : decode cX7_advise 161 = .ok (.istore_n 2, 1) := by decide +kernel
theorem dX7_advise_162 : decode cX7_advise 162 = .ok (.iinc 5 1, 3) := by decide +kernel
theorem dX7_advise_165 : decode cX7_advise 165 = .ok (.goto (-93), 3) := by decide +kernel
theorem dX7_advise_168 : decode cX7_advise 168 = .ok (.iinc 4 1, 3) := by decide +kernel
theorem dX7_advise_171 : decode cX7_advise 171 = .ok (.goto (-116), 3) := by decide +kernel
theorem dX7_advise_174 : decode cX7_advise 174 = .ok (.iload_n 3, 1) := by decide +kernel
theorem dX7_advise_175 : decode cX7_advise 175 = .ok (.ireturn, 1) := by decide +kernel
theorem dX7_free_0 : decode cX7_free 0 = .ok (.aload_n 0, 1) := by decide +kernel
theorem dX7_free_1 : decode cX7_free 1 = .ok (.iconst 0, 1) := by decide +kernel
theorem dX7_free_2 : decode cX7_free 2 = .ok (.putfield 37, 3) := by decide +kernel
theorem dX7_free_5 : decode cX7_free 5 = .ok (.iload_n 1, 1) := by decide +kernel
theorem dX7_free_6 : decode cX7_free 6 = .ok (.iconst 0, 1) := by decide +kernel
theorem dX7_free_7 : decode cX7_free 7 = .ok (.iconst 3, 1) := by decide +kernel
theorem dX7_free_8 : decode cX7_free 8 = .ok (.invokestatic 44, 3) := by decide +kernel
theorem dX7_free_11 : decode cX7_free 11 = .ok (.ifCond .ne 9, 3) := by decide +kernel
theorem dX7_free_14 : decode cX7_free 14 = .ok (.aload_n 0, 1) := by decide +kernel
theorem dX7_free_15 : decode cX7_free 15 = .ok (.iconst 1, 1) := by decide +kernel
theorem dX7_free_16 : decode cX7_free 16 = .ok (.invokevirtual 55, 3) := by decide +kernel
theorem dX7_free_19 : decode cX7_free 19 = .ok (.ireturn, 1) := by decide +kernel
theorem dX7_free_20 : decode cX7_free 20 = .ok (.iconst (-1), 1) := by decide +kernel
theorem dX7_free_21 : decode cX7_free 21 = .ok (.istore_n 2, 1) := by decide +kernel
theorem dX7_free_22 : decode cX7_free 22 = .ok (.iconst 0, 1) := by decide +kernel
theorem dX7_free_23 : decode cX7_free 23 = .ok (.istore_n 3, 1) := by decide +kernel
theorem dX7_free_24 : decode cX7_free 24 = .ok (.iload_n 3, 1) := by decide +kernel
theorem dX7_free_25 : decode cX7_free 25 = .ok (.aload_n 0, 1) := by decide +kernel
theorem dX7_free_26 : decode cX7_free 26 = .ok (.getfield 41, 3) := by decide +kernel
theorem dX7_free_29 : decode cX7_free 29 = .ok (.if_icmp .ge 66, 3) := by decide +kernel
theorem dX7_free_32 : decode cX7_free 32 = .ok (.aload_n 0, 1) := by decide +kernel
theorem dX7_free_33 : decode cX7_free 33 = .ok (.getfield 30, 3) := by decide +kernel
theorem dX7_free_36 : decode cX7_free 36 = .ok (.getfield 89, 3) := by decide +kernel
theorem dX7_free_39 : decode cX7_free 39 = .ok (.iload_n 3, 1) := by decide +kernel
theorem dX7_free_40 : decode cX7_free 40 = .ok (.iaload, 1) := by decide +kernel
theorem dX7_free_41 : decode cX7_free 41 = .ok (.ifCond .gt 48, 3) := by decide +kernel
theorem dX7_free_44 : decode cX7_free 44 = .ok (.aload_n 0, 1) := by decide +kernel
theorem dX7_free_45 : decode cX7_free 45 = .ok (.getfield 30, 3) := by decide +kernel
theorem dX7_free_48 : decode cX7_free 48 = .ok (.iload_n 3, 1) := by decide +kernel
theorem dX7_free_49 : decode cX7_free 49 = .ok (.invokevirtual 82, 3) := by decide +kernel
theorem dX7_free_52 : decode cX7_free 52 = .ok (.iconst (-1), 1) := by decide +kernel
theorem dX7_free_53 : decode cX7_free 53 = .ok (.if_icmp .eq 6, 3) := by decide +kernel
theorem dX7_free_56 : decode cX7_free 56 = .ok (.goto 33, 3) := by decide +kernel
theorem dX7_free_59 : decode cX7_free 59 = .ok (.iload_n 2, 1) := by decide +kernel
theorem dX7_free_60 : decode cX7_free 60 = .ok (.iconst (-1), 1) := by decide +kernel
theorem dX7_free_61 : decode cX7_free 61 = .ok (.if_icmp .eq 26, 3) := by decide +kernel
theorem dX7_free_64 : decode cX7_free 64 = .ok (.aload_n 0, 1) := by decide +kernel
theorem dX7_free_65 : decode cX7_free 65 = .ok (.getfield 9, 3) := by decide +kernel
theorem dX7_free_68 : decode cX7_free 68 = .ok (.iconst 4, 1) := by decide +kernel
theorem dX7_free_69 : decode cX7_free 69 = .ok (.iload_n 3, 1) := by decide +kernel
theorem dX7_free_70 : decode cX7_free 70 = .ok (.imul, 1) := by decide +kernel
theorem dX7_free_71 : decode cX7_free 71 = .ok (.iload_n 1, 1) := by decide +kernel
theorem dX7_free_72 : decode cX7_free 72 = .ok (.iadd, 1) := by decide +kernel
theorem dX7_free_73 : decode cX7_free 73 = .ok (.iaload, 1) := by decide +kernel
theorem dX7_free_74 : decode cX7_free 74 = .ok (.aload_n 0, 1) := by decide +kernel
theorem dX7_free_75 : decode cX7_free 75 = .ok (.getfield 9, 3) := by decide +kernel
theorem dX7_free_78 : decode cX7_free 78 = .ok (.iconst 4, 1) := by decide +kernel
theorem dX7_free_79 : decode cX7_free 79 = .ok (.iload_n 2, 1) := by decide +kernel
theorem dX7_free_80 : decode cX7_free 80 = .ok (.imul, 1) := by decide +kernel
theorem dX7_free_81 : decode cX7_free 81 = .ok (.iload_n 1, 1) := by decide +kernel
theorem dX7_free_82 : decode cX7_free 82 = .ok (.iadd, 1) := by decide +kernel
theorem dX7_free_83 : decode cX7_free 83 = .ok (.iaload, 1) := by decide +kernel
theorem dX7_free_84 : decode cX7_free 84 = .ok (.if_icmp .le 5, 3) := by decide +kernel
theorem dX7_free_87 : decode cX7_free 87 = .ok (.iload_n 3, 1) := by decide +kernel
theorem dX7_free_88 : decode cX7_free 88 = .ok (.istore_n 2, 1) := by decide +kernel
theorem dX7_free_89 : decode cX7_free 89 = .ok (.iinc 3 1, 3) := by decide +kernel
theorem dX7_free_92 : decode cX7_free 92 = .ok (.goto (-68), 3) := by decide +kernel
theorem dX7_free_95 : decode cX7_free 95 = .ok (.iload_n 2, 1) := by decide +kernel
theorem dX7_free_96 : decode cX7_free 96 = .ok (.ireturn, 1) := by decide +kernel
theorem dX7_mean_0 : decode cX7_mean 0 = .ok (.aload_n 0, 1) := by decide +kernel
theorem dX7_mean_1 : decode cX7_mean 1 = .ok (.iconst 0, 1) := by decide +kernel
theorem dX7_mean_2 : decode cX7_mean 2 = .ok (.putfield 37, 3) := by decide +kernel
theorem dX7_mean_5 : decode cX7_mean 5 = .ok (.iconst 0, 1) := by decide +kernel
theorem dX7_mean_6 : decode cX7_mean 6 = .ok (.istore_n 1, 1) := by decide +kernel
theorem dX7_mean_7 : decode cX7_mean 7 = .ok (.iconst 0, 1) := by decide +kernel
theorem dX7_mean_8 : decode cX7_mean 8 = .ok (.istore_n 2, 1) := by decide +kernel
theorem dX7_mean_9 : decode cX7_mean 9 = .ok (.iconst 0, 1) := by decide +kernel
theorem dX7_mean_10 : decode cX7_mean 10 = .ok (.istore_n 3, 1) := by decide +kernel
theorem dX7_mean_11 : decode cX7_mean 11 = .ok (.iload_n 3, 1) := by decide +kernel
theorem dX7_mean_12 : decode cX7_mean 12 = .ok (.aload_n 0, 1) := by decide +kernel
theorem dX7_mean_13 : decode cX7_mean 13 = .ok (.getfield 48, 3) := by decide +kernel
theorem dX7_mean_16 : decode cX7_mean 16 = .ok (.if_icmp .ge 44, 3) := by decide +kernel
theorem dX7_mean_19 : decode cX7_mean 19 = .ok (.aload_n 0, 1) := by decide +kernel
theorem dX7_mean_20 : decode cX7_mean 20 = .ok (.getfield 30, 3) := by decide +kernel
theorem dX7_mean_23 : decode cX7_mean 23 = .ok (.getfield 72, 3) := by decide +kernel
theorem dX7_mean_26 : decode cX7_mean 26 = .ok (.iconst 4, 1) := by decide +kernel
theorem dX7_mean_27 : decode cX7_mean 27 = .ok (.iload_n 3, 1) := by decide +kernel
theorem dX7_mean_28 : decode cX7_mean 28 = .ok (.imul, 1) := by decide +kernel
theorem dX7_mean_29 : decode cX7_mean 29 = .ok (.iaload, 1) := by decide +kernel
theorem dX7_mean_30 : decode cX7_mean 30 = .ok (.iconst (-1), 1) := by decide +kernel
theorem dX7_mean_31 : decode cX7_mean 31 = .ok (.if_icmp .ne 6, 3) := by decide +kernel
theorem dX7_mean_34 : decode cX7_mean 34 = .ok (.goto 20, 3) := by decide +kernel
theorem dX7_mean_37 : decode cX7_mean 37 = .ok (.iload_n 1, 1) := by decide +kernel
theorem dX7_mean_38 : decode cX7_mean 38 = .ok (.aload_n 0, 1) := by decide +kernel
theorem dX7_mean_39 : decode cX7_mean 39 = .ok (.getfield 30, 3) := by decide +kernel
theorem dX7_mean_42 : decode cX7_mean 42 = .ok (.getfield 72, 3) := by decide +kernel
theorem dX7_mean_45 : decode cX7_mean 45 = .ok (.iconst 4, 1) := by decide +kernel
theorem dX7_mean_46 : decode cX7_mean 46 = .ok (.iload_n 3, 1) := by decide +kernel
theorem dX7_mean_47 : decode cX7_mean 47 = .ok (.imul, 1) := by decide +kernel
theorem dX7_mean_48 : decode cX7_mean 48 = .ok (.iaload, 1) := by decide +kernel
theorem dX7_mean_49 : decode cX7_mean 49 = .ok (.iadd, 1) := by decide +kernel
theorem dX7_mean_50 : decode cX7_mean 50 = .ok (.istore_n 1, 1) := by decide +kernel
theorem dX7_mean_51 : decode cX7_mean 51 = .ok (.iinc 2 1, 3) := by decide +kernel
theorem dX7_mean_54 : decode cX7_mean 54 = .ok (.iinc 3 1, 3) := by decide +kernel
theorem dX7_mean_57 : decode cX7_mean 57 = .ok (.goto (-46), 3) := by decide +kernel
theorem dX7_mean_60 : decode cX7_mean 60 = .ok (.iload_n 2, 1) := by decide +kernel
theorem dX7_mean_61 : decode cX7_mean 61 = .ok (.ifCond .ne 7, 3) := by decide +kernel
theorem dX7_mean_64 : decode cX7_mean 64 = .ok (.dconst 0, 1) := by decide +kernel
theorem dX7_mean_65 : decode cX7_mean 65 = .ok (.goto 8, 3) := by decide +kernel
theorem dX7_mean_68 : decode cX7_mean 68 = .ok (.iload_n 1, 1) := by decide +kernel
theorem dX7_mean_69 : decode cX7_mean 69 = .ok (.i2d, 1) := by decide +kernel
theorem dX7_mean_70 : decode cX7_mean 70 = .ok (.iload_n 2, 1) := by decide +kernel
theorem dX7_mean_71 : decode cX7_mean 71 = .ok (.i2d, 1) := by decide +kernel
theorem dX7_mean_72 : decode cX7_mean 72 = .ok (.ddiv, 1) := by decide +kernel
theorem dX7_mean_73 : decode cX7_mean 73 = .ok (.dreturn, 1) := by decide +kernel
theorem dX7_digest_0 : decode cX7_digest 0 = .ok (.aload_n 0, 1) := by decide +kernel
theorem dX7_digest_1 : decode cX7_digest 1 = .ok (.iconst 0, 1) := by decide +kernel
theorem dX7_digest_2 : decode cX7_digest 2 = .ok (.putfield 37, 3) := by decide +kernel
theorem dX7_digest_5 : decode cX7_digest 5 = .ok (.ldc2_w 148, 3) := by decide +kernel
theorem dX7_digest_8 : decode cX7_digest 8 = .ok (.lstore_n 1, 1) := by decide +kernel
theorem dX7_digest_9 : decode cX7_digest 9 = .ok (.iconst 0, 1) := by decide +kernel
theorem dX7_digest_10 : decode cX7_digest 10 = .ok (.istore_n 3, 1) := by decide +kernel
theorem dX7_digest_11 : decode cX7_digest 11 = .ok (.iload_n 3, 1) := by decide +kernel
theorem dX7_digest_12 : decode cX7_digest 12 = .ok (.bipush 7, 2) := by decide +kernel
theorem dX7_digest_14 : decode cX7_digest 14 = .ok (.if_icmp .ge 22, 3) := by decide +kernel
theorem dX7_digest_17 : decode cX7_digest 17 = .ok (.lload_n 1, 1) := by decide +kernel
theorem dX7_digest_18 : decode cX7_digest 18 = .ok (.ldc2_w 150, 3) := by decide +kernel
theorem dX7_digest_21 : decode cX7_digest 21 = .ok (.lmul, 1) := by decide +kernel
theorem dX7_digest_22 : decode cX7_digest 22 = .ok (.aload_n 0, 1) := by decide +kernel
theorem dX7_digest_23 : decode cX7_digest 23 = .ok (.iload_n 3, 1) := by decide +kernel
theorem dX7_digest_24 : decode cX7_digest 24 = .ok (.invokevirtual 141, 3) := by decide +kernel
theorem dX7_digest_27 : decode cX7_digest 27 = .ok (.i2l, 1) := by decide +kernel
theorem dX7_digest_28 : decode cX7_digest 28 = .ok (.ladd, 1) := by decide +kernel
theorem dX7_digest_29 : decode cX7_digest 29 = .ok (.lstore_n 1, 1) := by decide +kernel
theorem dX7_digest_30 : decode cX7_digest 30 = .ok (.iinc 3 1, 3) := by decide +kernel
theorem dX7_digest_33 : decode cX7_digest 33 = .ok (.goto (-22), 3) := by decide +kernel
theorem dX7_digest_36 : decode cX7_digest 36 = .ok (.iconst 0, 1) := by decide +kernel
theorem dX7_digest_37 : decode cX7_digest 37 = .ok (.istore_n 3, 1) := by decide +kernel
theorem dX7_digest_38 : decode cX7_digest 38 = .ok (.iload_n 3, 1) := by decide +kernel
theorem dX7_digest_39 : decode cX7_digest 39 = .ok (.iconst 4, 1) := by decide +kernel
theorem dX7_digest_40 : decode cX7_digest 40 = .ok (.if_icmp .ge 35, 3) := by decide +kernel
theorem dX7_digest_43 : decode cX7_digest 43 = .ok (.lload_n 1, 1) := by decide +kernel
theorem dX7_digest_44 : decode cX7_digest 44 = .ok (.ldc2_w 150, 3) := by decide +kernel
theorem dX7_digest_47 : decode cX7_digest 47 = .ok (.lmul, 1) := by decide +kernel
theorem dX7_digest_48 : decode cX7_digest 48 = .ok (.aload_n 0, 1) := by decide +kernel
theorem dX7_digest_49 : decode cX7_digest 49 = .ok (.getfield 19, 3) := by decide +kernel
theorem dX7_digest_52 : decode cX7_digest 52 = .ok (.iload_n 3, 1) := by decide +kernel
theorem dX7_digest_53 : decode cX7_digest 53 = .ok (.iaload, 1) := by decide +kernel
theorem dX7_digest_54 : decode cX7_digest 54 = .ok (.i2l, 1) := by decide +kernel
theorem dX7_digest_55 : decode cX7_digest 55 = .ok (.ladd, 1) := by decide +kernel
theorem dX7_digest_56 : decode cX7_digest 56 = .ok (.ldc2_w 150, 3) := by decide +kernel
theorem dX7_digest_59 : decode cX7_digest 59 = .ok (.lmul, 1) := by decide +kernel
theorem dX7_digest_60 : decode cX7_digest 60 = .ok (.aload_n 0, 1) := by decide +kernel
theorem dX7_digest_61 : decode cX7_digest 61 = .ok (.getfield 22, 3) := by decide +kernel
theorem dX7_digest_64 : decode cX7_digest 64 = .ok (.iload_n 3, 1) := by decide +kernel
theorem dX7_digest_65 : decode cX7_digest 65 = .ok (.iaload, 1) := by decide +kernel
theorem dX7_digest_66 : decode cX7_digest 66 = .ok (.i2l, 1) := by decide +kernel
theorem dX7_digest_67 : decode cX7_digest 67 = .ok (.ladd, 1) := by decide +kernel
theorem dX7_digest_68 : decode cX7_digest 68 = .ok (.lstore_n 1, 1) := by decide +kernel
theorem dX7_digest_69 : decode cX7_digest 69 = .ok (.iinc 3 1, 3) := by decide +kernel
theorem dX7_digest_72 : decode cX7_digest 72 = .ok (.goto (-34), 3) := by decide +kernel
theorem dX7_digest_75 : decode cX7_digest 75 = .ok (.iconst 0, 1) := by decide +kernel
theorem dX7_digest_76 : decode cX7_digest 76 = .ok (.istore_n 3, 1) := by decide +kernel
theorem dX7_digest_77 : decode cX7_digest 77 = .ok (.iload_n 3, 1) := by decide +kernel
theorem dX7_digest_78 : decode cX7_digest 78 = .ok (.aload_n 0, 1) := by decide +kernel
theorem dX7_digest_79 : decode cX7_digest 79 = .ok (.getfield 41, 3) := by decide +kernel
theorem dX7_digest_82 : decode cX7_digest 82 = .ok (.if_icmp .ge 40, 3) := by decide +kernel
theorem dX7_digest_85 : decode cX7_digest 85 = .ok (.iconst 0, 1) := by decide +kernel
theorem dX7_digest_86 : decode cX7_digest 86 = .ok (.istore 4, 2) := by decide +kernel
theorem dX7_digest_88 : decode cX7_digest 88 = .ok (.iload 4, 2) := by decide +kernel
theorem dX7_digest_90 : decode cX7_digest 90 = .ok (.bipush 10, 2) := by decide +kernel
theorem dX7_digest_92 : decode cX7_digest 92 = .ok (.if_icmp .ge 24, 3) := by decide +kernel
theorem dX7_digest_95 : decode cX7_digest 95 = .ok (.lload_n 1, 1) := by decide +kernel
theorem dX7_digest_96 : decode cX7_digest 96 = .ok (.ldc2_w 150, 3) := by decide +kernel
theorem dX7_digest_99 : decode cX7_digest 99 = .ok (.lmul, 1) := by decide +kernel
theorem dX7_digest_100 : decode cX7_digest 100 = .ok (.aload_n 0, 1) := by decide +kernel
theorem dX7_digest_101 : decode cX7_digest 101 = .ok (.iload_n 3, 1) := by decide +kernel
theorem dX7_digest_102 : decode cX7_digest 102 = .ok (.iload 4, 2) := by decide +kernel
theorem dX7_digest_104 : decode cX7_digest 104 = .ok (.invokevirtual 110, 3) := by decide +kernel
theorem dX7_digest_107 : decode cX7_digest 107 = .ok (.i2l, 1) := by decide +kernel
theorem dX7_digest_108 : decode cX7_digest 108 = .ok (.ladd, 1) := by decide +kernel
theorem dX7_digest_109 : decode cX7_digest 109 = .ok (.lstore_n 1, 1) := by decide +kernel
theorem dX7_digest_110 : decode cX7_digest 110 = .ok (.iinc 4 1, 3) := by decide +kernel
theorem dX7_digest_113 : decode cX7_digest 113 = .ok (.goto (-25), 3) := by decide +kernel
theorem dX7_digest_116 : decode cX7_digest 116 = .ok (.iinc 3 1, 3) := by decide +kernel
theorem dX7_digest_119 : decode cX7_digest 119 = .ok (.goto (-42), 3) := by decide +kernel
theorem dX7_digest_122 : decode cX7_digest 122 = .ok (.iconst 0, 1) := by decide +kernel
theorem dX7_digest_123 : decode cX7_digest 123 = .ok (.istore_n 3, 1) := by decide +kernel
theorem dX7_digest_124 : decode cX7_digest 124 = .ok (.iload_n 3, 1) := by decide +kernel
theorem dX7_digest_125 : decode cX7_digest 125 = .ok (.aload_n 0, 1) := by decide +kernel
theorem dX7_digest_126 : decode cX7_digest 126 = .ok (.getfield 48, 3) := by decide +kernel
theorem dX7_digest_129 : decode cX7_digest 129 = .ok (.if_icmp .ge 96, 3) := by decide +kernel
theorem dX7_digest_132 : decode cX7_digest 132 = .ok (.iconst 0, 1) := by decide +kernel
theorem dX7_digest_133 : decode cX7_digest 133 = .ok (.istore 4, 2) := by decide +kernel
theorem dX7_digest_135 : decode cX7_digest 135 = .ok (.iload 4, 2) := by decide +kernel
theorem dX7_digest_137 : decode cX7_digest 137 = .ok (.bipush 9, 2) := by decide +kernel
theorem dX7_digest_139 : decode cX7_digest 139 = .ok (.if_icmp .ge 24, 3) := by decide +kernel
theorem dX7_digest_142 : decode cX7_digest 142 = .ok (.lload_n 1, 1) := by decide +kernel
theorem dX7_digest_143 : decode cX7_digest 143 = .ok (.ldc2_w 150, 3) := by decide +kernel
theorem dX7_digest_146 : decode cX7_digest 146 = .ok (.lmul, 1) := by decide +kernel
theorem dX7_digest_147 : decode cX7_digest 147 = .ok (.aload_n 0, 1) := by decide +kernel
theorem dX7_digest_148 : decode cX7_digest 148 = .ok (.iload_n 3, 1) := by decide +kernel
theorem dX7_digest_149 : decode cX7_digest 149 = .ok (.iload 4, 2) := by decide +kernel
theorem dX7_digest_151 : decode cX7_digest 151 = .ok (.invokevirtual 122, 3) := by decide +kernel
theorem dX7_digest_154 : decode cX7_digest 154 = .ok (.i2l, 1) := by decide +kernel
theorem dX7_digest_155 : decode cX7_digest 155 = .ok (.ladd, 1) := by decide +kernel
theorem dX7_digest_156 : decode cX7_digest 156 = .ok (.lstore_n 1, 1) := by decide +kernel
theorem dX7_digest_157 : decode cX7_digest 157 = .ok (.iinc 4 1, 3) := by decide +kernel
theorem dX7_digest_160 : decode cX7_digest 160 = .ok (.goto (-25), 3) := by decide +kernel
theorem dX7_digest_163 : decode cX7_digest 163 = .ok (.iconst 0, 1) := by decide +kernel
theorem dX7_digest_164 : decode cX7_digest 164 = .ok (.istore 4, 2) := by decide +kernel
theorem dX7_digest_166 : decode cX7_digest 166 = .ok (.iload 4, 2) := by decide +kernel
theorem dX7_digest_168 : decode cX7_digest 168 = .ok (.aload_n 0, 1) := by decide +kernel
theorem dX7_digest_169 : decode cX7_digest 169 = .ok (.getfield 13, 3) := by decide +kernel
theorem dX7_digest_172 : decode cX7_digest 172 = .ok (.iload_n 3, 1) := by decide +kernel
theorem dX7_digest_173 : decode cX7_digest 173 = .ok (.iaload, 1) := by decide +kernel
theorem dX7_digest_174 : decode cX7_digest 174 = .ok (.if_icmp .ge 45, 3) := by decide +kernel
theorem dX7_digest_177 : decode cX7_digest 177 = .ok (.iconst 0, 1) := by decide +kernel
theorem dX7_digest_178 : decode cX7_digest 178 = .ok (.istore 5, 2) := by decide +kernel
theorem dX7_digest_180 : decode cX7_digest 180 = .ok (.iload 5, 2) := by decide +kernel
theorem dX7_digest_182 : decode cX7_digest 182 = .ok (.iconst 3, 1) := by decide +kernel
theorem dX7_digest_183 : decode cX7_digest 183 = .ok (.if_icmp .ge 30, 3) := by decide +kernel
theorem dX7_digest_186 : decode cX7_digest 186 = .ok (.lload_n 1, 1) := by decide +kernel
theorem dX7_digest_187 : decode cX7_digest 187 = .ok (.ldc2_w 150, 3) := by decide +kernel
theorem dX7_digest_190 : decode cX7_digest 190 = .ok (.lmul, 1) := by decide +kernel
theorem dX7_digest_191 : decode cX7_digest 191 = .ok (.aload_n 0, 1) := by decide +kernel
theorem dX7_digest_192 : decode cX7_digest 192 = .ok (.bipush 8, 2) := by decide +kernel
theorem dX7_digest_194 : decode cX7_digest 194 = .ok (.iload_n 3, 1) := by decide +kernel
theorem dX7_digest_195 : decode cX7_digest 195 = .ok (.imul, 1) := by decide +kernel
theorem dX7_digest_196 : decode cX7_digest 196 = .ok (.iload 4, 2) := by decide +kernel
theorem dX7_digest_198 : decode cX7_digest 198 = .ok (.iadd, 1) := by decide +kernel
theorem dX7_digest_199 : decode cX7_digest 199 = .ok (.iload 5, 2) := by decide +kernel
theorem dX7_digest_201 : decode cX7_digest 201 = .ok (.invokevirtual 125, 3) := by decide +kernel
theorem dX7_digest_204 : decode cX7_digest 204 = .ok (.i2l, 1) := by decide +kernel
theorem dX7_digest_205 : decode cX7_digest 205 = .ok (.ladd, 1) := by decide +kernel
theorem dX7_digest_206 : decode cX7_digest 206 = .ok (.lstore_n 1, 1) := by decide +kernel
theorem dX7_digest_207 : decode cX7_digest 207 = .ok (.iinc 5 1, 3) := by decide +kernel
theorem dX7_digest_210 : decode cX7_digest 210 = .ok (.goto (-30), 3) := by decide +kernel
theorem dX7_digest_213 : decode cX7_digest 213 = .ok (.iinc 4 1, 3) := by decide +kernel
theorem dX7_digest_216 : decode cX7_digest 216 = .ok (.goto (-50), 3) := by decide +kernel
theorem dX7_digest_219 : decode cX7_digest 219 = .ok (.iinc 3 1, 3) := by decide +kernel
theorem dX7_digest_222 : decode cX7_digest 222 = .ok (.goto (-98), 3) := by decide +kernel
theorem dX7_digest_225 : decode cX7_digest 225 = .ok (.lload_n 1, 1) := by decide +kernel
theorem dX7_digest_226 : decode cX7_digest 226 = .ok (.lreturn, 1) := by decide +kernel
end
section
theorem dL_addPlayer_0 : decode cL_addPlayer 0 = .ok (.aload 5, 2) := by decide +kernel
theorem dL_addPlayer_2 : decode cL_addPlayer 2 = .ok (.iconst 0, 1) := by decide +kernel
theorem dL_addPlayer_3 : decode cL_addPlayer 3 = .ok (.aload_n 0, 1) := by decide +kernel
theorem dL_addPlayer_4 : decode cL_addPlayer 4 = .ok (.iload_n 1, 1) := by decide +kernel
theorem dL_addPlayer_5 : decode cL_addPlayer 5 = .ok (.iload_n 2, 1) := by decide +kernel
theorem dL_addPlayer_6 : decode cL_addPlayer 6 = .ok (.iload_n 3, 1) := by decide +kernel
theorem dL_addPlayer_7 : decode cL_addPlayer 7 = .ok (.iload 4, 2) := by decide +kernel
theorem dL_addPlayer_9 : decode cL_addPlayer 9 = .ok (.invokevirtual 7, 3) := by decide +kernel
theorem dL_addPlayer_12 : decode cL_addPlayer 12 = .ok (.i2l, 1) := by decide +kernel
theorem dL_addPlayer_13 : decode cL_addPlayer 13 = .ok (.lastore, 1) := by decide +kernel
theorem dL_addPlayer_14 : decode cL_addPlayer 14 = .ok (.goto 11, 3) := by decide +kernel
theorem dL_addPlayer_17 : decode cL_addPlayer 17 = .ok (.astore 6, 2) := by decide +kernel
theorem dL_addPlayer_19 : decode cL_addPlayer 19 = .ok (.iconst 1, 1) := by decide +kernel
theorem dL_addPlayer_20 : decode cL_addPlayer 20 = .ok (.ireturn, 1) := by decide +kernel
theorem dL_addPlayer_21 : decode cL_addPlayer 21 = .ok (.astore 6, 2) := by decide +kernel
theorem dL_addPlayer_23 : decode cL_addPlayer 23 = .ok (.iconst 2, 1) := by decide +kernel
theorem dL_addPlayer_24 : decode cL_addPlayer 24 = .ok (.ireturn, 1) := by decide +kernel
theorem dL_addPlayer_25 : decode cL_addPlayer 25 = .ok (.iconst 0, 1) := by decide +kernel
theorem dL_addPlayer_26 : decode cL_addPlayer 26 = .ok (.ireturn, 1) := by decide +kernel
theorem dL_found_0 : decode cL_found 0 = .ok (.aload_n 2, 1) := by decide +kernel
theorem dL_found_1 : decode cL_found 1 = .ok (.iconst 0, 1) := by decide +kernel
theorem dL_found_2 : decode cL_found 2 = .ok (.aload_n 0, 1) := by decide +kernel
theorem dL_found_3 : decode cL_found 3 = .ok (.iload_n 1, 1) := by decide +kernel
theorem dL_found_4 : decode cL_found 4 = .ok (.invokevirtual 17, 3) := by decide +kernel
theorem dL_found_7 : decode cL_found 7 = .ok (.i2l, 1) := by decide +kernel
theorem dL_found_8 : decode cL_found 8 = .ok (.lastore, 1) := by decide +kernel
theorem dL_found_9 : decode cL_found 9 = .ok (.goto 9, 3) := by decide +kernel
theorem dL_found_12 : decode cL_found 12 = .ok (.astore_n 3, 1) := by decide +kernel
theorem dL_found_13 : decode cL_found 13 = .ok (.iconst 1, 1) := by decide +kernel
theorem dL_found_14 : decode cL_found 14 = .ok (.ireturn, 1) := by decide +kernel
theorem dL_found_15 : decode cL_found 15 = .ok (.astore_n 3, 1) := by decide +kernel
theorem dL_found_16 : decode cL_found 16 = .ok (.iconst 2, 1) := by decide +kernel
theorem dL_found_17 : decode cL_found 17 = .ok (.ireturn, 1) := by decide +kernel
theorem dL_found_18 : decode cL_found 18 = .ok (.iconst 0, 1) := by decide +kernel
theorem dL_found_19 : decode cL_found 19 = .ok (.ireturn, 1) := by decide +kernel
theorem dL_seat_0 : decode cL_seat 0 = .ok (.aload 4, 2) := by decide +kernel
theorem dL_seat_2 : decode cL_seat 2 = .ok (.iconst 0, 1) := by decide +kernel
theorem dL_seat_3 : decode cL_seat 3 = .ok (.aload_n 0, 1) := by decide +kernel
theorem dL_seat_4 : decode cL_seat 4 = .ok (.iload_n 1, 1) := by decide +kernel
theorem dL_seat_5 : decode cL_seat 5 = .ok (.iload_n 2, 1) := by decide +kernel
theorem dL_seat_6 : decode cL_seat 6 = .ok (.iload_n 3, 1) := by decide +kernel
theorem dL_seat_7 : decode cL_seat 7 = .ok (.invokevirtual 21, 3) := by decide +kernel
theorem dL_seat_10 : decode cL_seat 10 = .ok (.i2l, 1) := by decide +kernel
theorem dL_seat_11 : decode cL_seat 11 = .ok (.lastore, 1) := by decide +kernel
theorem dL_seat_12 : decode cL_seat 12 = .ok (.goto 11, 3) := by decide +kernel
theorem dL_seat_15 : decode cL_seat 15 = .ok (.astore 5, 2) := by decide +kernel
theorem dL_seat_17 : decode cL_seat 17 = .ok (.iconst 1, 1) := by decide +kernel
theorem dL_seat_18 : decode cL_seat 18 = .ok (.ireturn, 1) := by decide +kernel
theorem dL_seat_19 : decode cL_seat 19 = .ok (.astore 5, 2) := by decide +kernel
theorem dL_seat_21 : decode cL_seat 21 = .ok (.iconst 2, 1) := by decide +kernel
theorem dL_seat_22 : decode cL_seat 22 = .ok (.ireturn, 1) := by decide +kernel
theorem dL_seat_23 : decode cL_seat 23 = .ok (.iconst 0, 1) := by decide +kernel
theorem dL_seat_24 : decode cL_seat 24 = .ok (.ireturn, 1) := by decide +kernel
theorem dL_change_0 : decode cL_change 0 = .ok (.aload 4, 2) := by decide +kernel
theorem dL_change_2 : decode cL_change 2 = .ok (.iconst 0, 1) := by decide +kernel
theorem dL_change_3 : decode cL_change 3 = .ok (.aload_n 0, 1) := by decide +kernel
theorem dL_change_4 : decode cL_change 4 = .ok (.iload_n 1, 1) := by decide +kernel
theorem dL_change_5 : decode cL_change 5 = .ok (.iload_n 2, 1) := by decide +kernel
theorem dL_change_6 : decode cL_change 6 = .ok (.iload_n 3, 1) := by decide +kernel
theorem dL_change_7 : decode cL_change 7 = .ok (.invokevirtual 27, 3) := by decide +kernel
theorem dL_change_10 : decode cL_change 10 = .ok (.i2l, 1) := by decide +kernel
theorem dL_change_11 : decode cL_change 11 = .ok (.lastore, 1) := by decide +kernel
theorem dL_change_12 : decode cL_change 12 = .ok (.goto 7, 3) := by decide +kernel
theorem dL_change_15 : decode cL_change 15 = .ok (.astore 5, 2) := by decide +kernel
theorem dL_change_17 : decode cL_change 17 = .ok (.iconst 1, 1) := by decide +kernel
theorem dL_change_18 : decode cL_change 18 = .ok (.ireturn, 1) := by decide +kernel
theorem dL_change_19 : decode cL_change 19 = .ok (.iconst 0, 1) := by decide +kernel
theorem dL_change_20 : decode cL_change 20 = .ok (.ireturn, 1) := by decide +kernel
theorem dL_absent_0 : decode cL_absent 0 = .ok (.aload_n 3, 1) := by decide +kernel
theorem dL_absent_1 : decode cL_absent 1 = .ok (.iconst 0, 1) := by decide +kernel
theorem dL_absent_2 : decode cL_absent 2 = .ok (.aload_n 0, 1) := by decide +kernel
theorem dL_absent_3 : decode cL_absent 3 = .ok (.iload_n 1, 1) := by decide +kernel
theorem dL_absent_4 : decode cL_absent 4 = .ok (.iload_n 2, 1) := by decide +kernel
theorem dL_absent_5 : decode cL_absent 5 = .ok (.invokevirtual 30, 3) := by decide +kernel
theorem dL_absent_8 : decode cL_absent 8 = .ok (.i2l, 1) := by decide +kernel
theorem dL_absent_9 : decode cL_absent 9 = .ok (.lastore, 1) := by decide +kernel
theorem dL_absent_10 : decode cL_absent 10 = .ok (.goto 11, 3) := by decide +kernel
theorem dL_absent_13 : decode cL_absent 13 = .ok (.astore 4, 2) := by decide +kernel
theorem dL_absent_15 : decode cL_absent 15 = .ok (.iconst 1, 1) := by decide +kernel
theorem dL_absent_16 : decode cL_absent 16 = .ok (.ireturn, 1) := by decide +kernel
theorem dL_absent_17 : decode cL_absent 17 = .ok (.astore 4, 2) := by decide +kernel
theorem dL_absent_19 : decode cL_absent 19 = .ok (.iconst 2, 1) := by decide +kernel
theorem dL_absent_20 : decode cL_absent 20 = .ok (.ireturn, 1) := by decide +kernel
theorem dL_absent_21 : decode cL_absent 21 = .ok (.iconst 0, 1) := by decide +kernel
theorem dL_absent_22 : decode cL_absent 22 = .ok (.ireturn, 1) := by decide +kernel
theorem dL_rehearse_0 : decode cL_rehearse 0 = .ok (.aload_n 2, 1) := by decide +kernel
theorem dL_rehearse_1 : decode cL_rehearse 1 = .ok (.iconst 0, 1) := by decide +kernel
theorem dL_rehearse_2 : decode cL_rehearse 2 = .ok (.aload_n 0, 1) := by decide +kernel
theorem dL_rehearse_3 : decode cL_rehearse 3 = .ok (.iload_n 1, 1) := by decide +kernel
theorem dL_rehearse_4 : decode cL_rehearse 4 = .ok (.invokevirtual 34, 3) := by decide +kernel
theorem dL_rehearse_7 : decode cL_rehearse 7 = .ok (.i2l, 1) := by decide +kernel
theorem dL_rehearse_8 : decode cL_rehearse 8 = .ok (.lastore, 1) := by decide +kernel
theorem dL_rehearse_9 : decode cL_rehearse 9 = .ok (.goto 6, 3) := by decide +kernel
theorem dL_rehearse_12 : decode cL_rehearse 12 = .ok (.astore_n 3, 1) := by decide +kernel
theorem dL_rehearse_13 : decode cL_rehearse 13 = .ok (.iconst 1, 1) := by decide +kernel
theorem dL_rehearse_14 : decode cL_rehearse 14 = .ok (.ireturn, 1) := by decide +kernel
theorem dL_rehearse_15 : decode cL_rehearse 15 = .ok (.iconst 0, 1) := by decide +kernel
theorem dL_rehearse_16 : decode cL_rehearse 16 = .ok (.ireturn, 1) := by decide +kernel
theorem dL_setPiece_0 : decode cL_setPiece 0 = .ok (.aload_n 3, 1) := by decide +kernel
theorem dL_setPiece_1 : decode cL_setPiece 1 = .ok (.iconst 0, 1) := by decide +kernel
theorem dL_setPiece_2 : decode cL_setPiece 2 = .ok (.aload_n 0, 1) := by decide +kernel
theorem dL_setPiece_3 : decode cL_setPiece 3 = .ok (.iload_n 1, 1) := by decide +kernel
theorem dL_setPiece_4 : decode cL_setPiece 4 = .ok (.iload_n 2, 1) := by decide +kernel
theorem dL_setPiece_5 : decode cL_setPiece 5 = .ok (.invokevirtual 37, 3) := by decide +kernel
theorem dL_setPiece_8 : decode cL_setPiece 8 = .ok (.i2l, 1) := by decide +kernel
theorem dL_setPiece_9 : decode cL_setPiece 9 = .ok (.lastore, 1) := by decide +kernel
theorem dL_setPiece_10 : decode cL_setPiece 10 = .ok (.goto 11, 3) := by decide +kernel
theorem dL_setPiece_13 : decode cL_setPiece 13 = .ok (.astore 4, 2) := by decide +kernel
theorem dL_setPiece_15 : decode cL_setPiece 15 = .ok (.iconst 1, 1) := by decide +kernel
theorem dL_setPiece_16 : decode cL_setPiece 16 = .ok (.ireturn, 1) := by decide +kernel
theorem dL_setPiece_17 : decode cL_setPiece 17 = .ok (.astore 4, 2) := by decide +kernel
theorem dL_setPiece_19 : decode cL_setPiece 19 = .ok (.iconst 2, 1) := by decide +kernel
theorem dL_setPiece_20 : decode cL_setPiece 20 = .ok (.ireturn, 1) := by decide +kernel
theorem dL_setPiece_21 : decode cL_setPiece 21 = .ok (.iconst 0, 1) := by decide +kernel
theorem dL_setPiece_22 : decode cL_setPiece 22 = .ok (.ireturn, 1) := by decide +kernel
theorem dL_setTaste_0 : decode cL_setTaste 0 = .ok (.aload_n 3, 1) := by decide +kernel
theorem dL_setTaste_1 : decode cL_setTaste 1 = .ok (.iconst 0, 1) := by decide +kernel
theorem dL_setTaste_2 : decode cL_setTaste 2 = .ok (.aload_n 0, 1) := by decide +kernel
theorem dL_setTaste_3 : decode cL_setTaste 3 = .ok (.iload_n 1, 1) := by decide +kernel
theorem dL_setTaste_4 : decode cL_setTaste 4 = .ok (.iload_n 2, 1) := by decide +kernel
theorem dL_setTaste_5 : decode cL_setTaste 5 = .ok (.invokevirtual 40, 3) := by decide +kernel
theorem dL_setTaste_8 : decode cL_setTaste 8 = .ok (.i2l, 1) := by decide +kernel
theorem dL_setTaste_9 : decode cL_setTaste 9 = .ok (.lastore, 1) := by decide +kernel
theorem dL_setTaste_10 : decode cL_setTaste 10 = .ok (.goto 11, 3) := by decide +kernel
theorem dL_setTaste_13 : decode cL_setTaste 13 = .ok (.astore 4, 2) := by decide +kernel
theorem dL_setTaste_15 : decode cL_setTaste 15 = .ok (.iconst 1, 1) := by decide +kernel
theorem dL_setTaste_16 : decode cL_setTaste 16 = .ok (.ireturn, 1) := by decide +kernel
theorem dL_setTaste_17 : decode cL_setTaste 17 = .ok (.astore 4, 2) := by decide +kernel
theorem dL_setTaste_19 : decode cL_setTaste 19 = .ok (.iconst 2, 1) := by decide +kernel
theorem dL_setTaste_20 : decode cL_setTaste 20 = .ok (.ireturn, 1) := by decide +kernel
theorem dL_setTaste_21 : decode cL_setTaste 21 = .ok (.iconst 0, 1) := by decide +kernel
theorem dL_setTaste_22 : decode cL_setTaste 22 = .ok (.ireturn, 1) := by decide +kernel
theorem dL_player_0 : decode cL_player 0 = .ok (.aload_n 3, 1) := by decide +kernel
theorem dL_player_1 : decode cL_player 1 = .ok (.iconst 0, 1) := by decide +kernel
theorem dL_player_2 : decode cL_player 2 = .ok (.aload_n 0, 1) := by decide +kernel
theorem dL_player_3 : decode cL_player 3 = .ok (.iload_n 1, 1) := by decide +kernel
theorem dL_player_4 : decode cL_player 4 = .ok (.iload_n 2, 1) := by decide +kernel
theorem dL_player_5 : decode cL_player 5 = .ok (.invokevirtual 43, 3) := by decide +kernel
theorem dL_player_8 : decode cL_player 8 = .ok (.i2l, 1) := by decide +kernel
theorem dL_player_9 : decode cL_player 9 = .ok (.lastore, 1) := by decide +kernel
theorem dL_player_10 : decode cL_player 10 = .ok (.goto 7, 3) := by decide +kernel
theorem dL_player_13 : decode cL_player 13 = .ok (.astore 4, 2) := by decide +kernel
theorem dL_player_15 : decode cL_player 15 = .ok (.iconst 1, 1) := by decide +kernel
theorem dL_player_16 : decode cL_player 16 = .ok (.ireturn, 1) := by decide +kernel
theorem dL_player_17 : decode cL_player 17 = .ok (.iconst 0, 1) := by decide +kernel
theorem dL_player_18 : decode cL_player 18 = .ok (.ireturn, 1) := by decide +kernel
theorem dL_band_0 : decode cL_band 0 = .ok (.aload_n 3, 1) := by decide +kernel
theorem dL_band_1 : decode cL_band 1 = .ok (.iconst 0, 1) := by decide +kernel
theorem dL_band_2 : decode cL_band 2 = .ok (.aload_n 0, 1) := by decide +kernel
theorem dL_band_3 : decode cL_band 3 = .ok (.iload_n 1, 1) := by decide +kernel
theorem dL_band_4 : decode cL_band 4 = .ok (.iload_n 2, 1) := by decide +kernel
theorem dL_band_5 : decode cL_band 5 = .ok (.invokevirtual 46, 3) := by decide +kernel
theorem dL_band_8 : decode cL_band 8 = .ok (.i2l, 1) := by decide +kernel
theorem dL_band_9 : decode cL_band 9 = .ok (.lastore, 1) := by decide +kernel
theorem dL_band_10 : decode cL_band 10 = .ok (.goto 7, 3) := by decide +kernel
theorem dL_band_13 : decode cL_band 13 = .ok (.astore 4, 2) := by decide +kernel
theorem dL_band_15 : decode cL_band 15 = .ok (.iconst 1, 1) := by decide +kernel
theorem dL_band_16 : decode cL_band 16 = .ok (.ireturn, 1) := by decide +kernel
theorem dL_band_17 : decode cL_band 17 = .ok (.iconst 0, 1) := by decide +kernel
theorem dL_band_18 : decode cL_band 18 = .ok (.ireturn, 1) := by decide +kernel
theorem dL_chair_0 : decode cL_chair 0 = .ok (.aload 4, 2) := by decide +kernel
theorem dL_chair_2 : decode cL_chair 2 = .ok (.iconst 0, 1) := by decide +kernel
theorem dL_chair_3 : decode cL_chair 3 = .ok (.aload_n 0, 1) := by decide +kernel
theorem dL_chair_4 : decode cL_chair 4 = .ok (.iload_n 1, 1) := by decide +kernel
theorem dL_chair_5 : decode cL_chair 5 = .ok (.iload_n 2, 1) := by decide +kernel
theorem dL_chair_6 : decode cL_chair 6 = .ok (.iload_n 3, 1) := by decide +kernel
theorem dL_chair_7 : decode cL_chair 7 = .ok (.invokevirtual 49, 3) := by decide +kernel
theorem dL_chair_10 : decode cL_chair 10 = .ok (.i2l, 1) := by decide +kernel
theorem dL_chair_11 : decode cL_chair 11 = .ok (.lastore, 1) := by decide +kernel
theorem dL_chair_12 : decode cL_chair 12 = .ok (.goto 7, 3) := by decide +kernel
theorem dL_chair_15 : decode cL_chair 15 = .ok (.astore 5, 2) := by decide +kernel
theorem dL_chair_17 : decode cL_chair 17 = .ok (.iconst 1, 1) := by decide +kernel
theorem dL_chair_18 : decode cL_chair 18 = .ok (.ireturn, 1) := by decide +kernel
theorem dL_chair_19 : decode cL_chair 19 = .ok (.iconst 0, 1) := by decide +kernel
theorem dL_chair_20 : decode cL_chair 20 = .ok (.ireturn, 1) := by decide +kernel
theorem dL_contest_0 : decode cL_contest 0 = .ok (.aload_n 1, 1) := by decide +kernel
theorem dL_contest_1 : decode cL_contest 1 = .ok (.iconst 0, 1) := by decide +kernel
theorem dL_contest_2 : decode cL_contest 2 = .ok (.aload_n 0, 1) := by decide +kernel
theorem dL_contest_3 : decode cL_contest 3 = .ok (.invokevirtual 52, 3) := by decide +kernel
theorem dL_contest_6 : decode cL_contest 6 = .ok (.i2l, 1) := by decide +kernel
theorem dL_contest_7 : decode cL_contest 7 = .ok (.lastore, 1) := by decide +kernel
theorem dL_contest_8 : decode cL_contest 8 = .ok (.goto 6, 3) := by decide +kernel
theorem dL_contest_11 : decode cL_contest 11 = .ok (.astore_n 2, 1) := by decide +kernel
theorem dL_contest_12 : decode cL_contest 12 = .ok (.iconst 1, 1) := by decide +kernel
theorem dL_contest_13 : decode cL_contest 13 = .ok (.ireturn, 1) := by decide +kernel
theorem dL_contest_14 : decode cL_contest 14 = .ok (.iconst 0, 1) := by decide +kernel
theorem dL_contest_15 : decode cL_contest 15 = .ok (.ireturn, 1) := by decide +kernel
theorem dL_rank_0 : decode cL_rank 0 = .ok (.aload_n 2, 1) := by decide +kernel
theorem dL_rank_1 : decode cL_rank 1 = .ok (.iconst 0, 1) := by decide +kernel
theorem dL_rank_2 : decode cL_rank 2 = .ok (.aload_n 0, 1) := by decide +kernel
theorem dL_rank_3 : decode cL_rank 3 = .ok (.iload_n 1, 1) := by decide +kernel
theorem dL_rank_4 : decode cL_rank 4 = .ok (.invokevirtual 56, 3) := by decide +kernel
theorem dL_rank_7 : decode cL_rank 7 = .ok (.i2l, 1) := by decide +kernel
theorem dL_rank_8 : decode cL_rank 8 = .ok (.lastore, 1) := by decide +kernel
theorem dL_rank_9 : decode cL_rank 9 = .ok (.goto 6, 3) := by decide +kernel
theorem dL_rank_12 : decode cL_rank 12 = .ok (.astore_n 3, 1) := by decide +kernel
theorem dL_rank_13 : decode cL_rank 13 = .ok (.iconst 1, 1) := by decide +kernel
theorem dL_rank_14 : decode cL_rank 14 = .ok (.ireturn, 1) := by decide +kernel
theorem dL_rank_15 : decode cL_rank 15 = .ok (.iconst 0, 1) := by decide +kernel
theorem dL_rank_16 : decode cL_rank 16 = .ok (.ireturn, 1) := by decide +kernel
theorem dL_count_0 : decode cL_count 0 = .ok (.aload_n 2, 1) := by decide +kernel
theorem dL_count_1 : decode cL_count 1 = .ok (.iconst 0, 1) := by decide +kernel
theorem dL_count_2 : decode cL_count 2 = .ok (.aload_n 0, 1) := by decide +kernel
theorem dL_count_3 : decode cL_count 3 = .ok (.iload_n 1, 1) := by decide +kernel
theorem dL_count_4 : decode cL_count 4 = .ok (.invokevirtual 59, 3) := by decide +kernel
theorem dL_count_7 : decode cL_count 7 = .ok (.i2l, 1) := by decide +kernel
theorem dL_count_8 : decode cL_count 8 = .ok (.lastore, 1) := by decide +kernel
theorem dL_count_9 : decode cL_count 9 = .ok (.goto 6, 3) := by decide +kernel
theorem dL_count_12 : decode cL_count 12 = .ok (.astore_n 3, 1) := by decide +kernel
theorem dL_count_13 : decode cL_count 13 = .ok (.iconst 1, 1) := by decide +kernel
theorem dL_count_14 : decode cL_count 14 = .ok (.ireturn, 1) := by decide +kernel
theorem dL_count_15 : decode cL_count 15 = .ok (.iconst 0, 1) := by decide +kernel
theorem dL_count_16 : decode cL_count 16 = .ok (.ireturn, 1) := by decide +kernel
theorem dL_foresee_0 : decode cL_foresee 0 = .ok (.aload 4, 2) := by decide +kernel
theorem dL_foresee_2 : decode cL_foresee 2 = .ok (.iconst 0, 1) := by decide +kernel
theorem dL_foresee_3 : decode cL_foresee 3 = .ok (.aload_n 0, 1) := by decide +kernel
theorem dL_foresee_4 : decode cL_foresee 4 = .ok (.iload_n 1, 1) := by decide +kernel
theorem dL_foresee_5 : decode cL_foresee 5 = .ok (.iload_n 2, 1) := by decide +kernel
theorem dL_foresee_6 : decode cL_foresee 6 = .ok (.iload_n 3, 1) := by decide +kernel
theorem dL_foresee_7 : decode cL_foresee 7 = .ok (.invokevirtual 62, 3) := by decide +kernel
theorem dL_foresee_10 : decode cL_foresee 10 = .ok (.i2l, 1) := by decide +kernel
theorem dL_foresee_11 : decode cL_foresee 11 = .ok (.lastore, 1) := by decide +kernel
theorem dL_foresee_12 : decode cL_foresee 12 = .ok (.goto 11, 3) := by decide +kernel
theorem dL_foresee_15 : decode cL_foresee 15 = .ok (.astore 5, 2) := by decide +kernel
theorem dL_foresee_17 : decode cL_foresee 17 = .ok (.iconst 1, 1) := by decide +kernel
theorem dL_foresee_18 : decode cL_foresee 18 = .ok (.ireturn, 1) := by decide +kernel
theorem dL_foresee_19 : decode cL_foresee 19 = .ok (.astore 5, 2) := by decide +kernel
theorem dL_foresee_21 : decode cL_foresee 21 = .ok (.iconst 2, 1) := by decide +kernel
theorem dL_foresee_22 : decode cL_foresee 22 = .ok (.ireturn, 1) := by decide +kernel
theorem dL_foresee_23 : decode cL_foresee 23 = .ok (.iconst 0, 1) := by decide +kernel
theorem dL_foresee_24 : decode cL_foresee 24 = .ok (.ireturn, 1) := by decide +kernel
theorem dL_advise_0 : decode cL_advise 0 = .ok (.aload_n 2, 1) := by decide +kernel
theorem dL_advise_1 : decode cL_advise 1 = .ok (.iconst 0, 1) := by decide +kernel
theorem dL_advise_2 : decode cL_advise 2 = .ok (.aload_n 0, 1) := by decide +kernel
theorem dL_advise_3 : decode cL_advise 3 = .ok (.iload_n 1, 1) := by decide +kernel
theorem dL_advise_4 : decode cL_advise 4 = .ok (.invokevirtual 65, 3) := by decide +kernel
theorem dL_advise_7 : decode cL_advise 7 = .ok (.i2l, 1) := by decide +kernel
theorem dL_advise_8 : decode cL_advise 8 = .ok (.lastore, 1) := by decide +kernel
theorem dL_advise_9 : decode cL_advise 9 = .ok (.goto 6, 3) := by decide +kernel
theorem dL_advise_12 : decode cL_advise 12 = .ok (.astore_n 3, 1) := by decide +kernel
theorem dL_advise_13 : decode cL_advise 13 = .ok (.iconst 1, 1) := by decide +kernel
theorem dL_advise_14 : decode cL_advise 14 = .ok (.ireturn, 1) := by decide +kernel
theorem dL_advise_15 : decode cL_advise 15 = .ok (.iconst 0, 1) := by decide +kernel
theorem dL_advise_16 : decode cL_advise 16 = .ok (.ireturn, 1) := by decide +kernel
theorem dL_free_0 : decode cL_free 0 = .ok (.aload_n 2, 1) := by decide +kernel
theorem dL_free_1 : decode cL_free 1 = .ok (.iconst 0, 1) := by decide +kernel
theorem dL_free_2 : decode cL_free 2 = .ok (.aload_n 0, 1) := by decide +kernel
theorem dL_free_3 : decode cL_free 3 = .ok (.iload_n 1, 1) := by decide +kernel
theorem dL_free_4 : decode cL_free 4 = .ok (.invokevirtual 68, 3) := by decide +kernel
theorem dL_free_7 : decode cL_free 7 = .ok (.i2l, 1) := by decide +kernel
theorem dL_free_8 : decode cL_free 8 = .ok (.lastore, 1) := by decide +kernel
theorem dL_free_9 : decode cL_free 9 = .ok (.goto 6, 3) := by decide +kernel
theorem dL_free_12 : decode cL_free 12 = .ok (.astore_n 3, 1) := by decide +kernel
theorem dL_free_13 : decode cL_free 13 = .ok (.iconst 1, 1) := by decide +kernel
theorem dL_free_14 : decode cL_free 14 = .ok (.ireturn, 1) := by decide +kernel
theorem dL_free_15 : decode cL_free 15 = .ok (.iconst 0, 1) := by decide +kernel
theorem dL_free_16 : decode cL_free 16 = .ok (.ireturn, 1) := by decide +kernel
theorem dL_law_0 : decode cL_law 0 = .ok (.new 8, 3) := by decide +kernel
theorem dL_law_3 : decode cL_law 3 = .ok (.dup, 1) := by decide +kernel
theorem dL_law_4 : decode cL_law 4 = .ok (.invokespecial 71, 3) := by decide +kernel
theorem dL_law_7 : decode cL_law 7 = .ok (.astore_n 1, 1) := by decide +kernel
theorem dL_law_8 : decode cL_law 8 = .ok (.new 72, 3) := by decide +kernel
theorem dL_law_11 : decode cL_law 11 = .ok (.dup, 1) := by decide +kernel
theorem dL_law_12 : decode cL_law 12 = .ok (.invokespecial 74, 3) := by decide +kernel
theorem dL_law_15 : decode cL_law 15 = .ok (.astore_n 2, 1) := by decide +kernel
theorem dL_law_16 : decode cL_law 16 = .ok (.iconst 1, 1) := by decide +kernel
theorem dL_law_17 : decode cL_law 17 = .ok (.newarray .long, 2) := by decide +kernel
theorem dL_law_19 : decode cL_law 19 = .ok (.astore_n 3, 1) := by decide +kernel
theorem dL_law_20 : decode cL_law 20 = .ok (.iconst 0, 1) := by decide +kernel
theorem dL_law_21 : decode cL_law 21 = .ok (.istore 4, 2) := by decide +kernel
theorem dL_law_23 : decode cL_law 23 = .ok (.iload 4, 2) := by decide +kernel
theorem dL_law_25 : decode cL_law 25 = .ok (.aload_n 0, 1) := by decide +kernel
theorem dL_law_26 : decode cL_law 26 = .ok (.arraylength, 1) := by decide +kernel
theorem dL_law_27 : decode cL_law 27 = .ok (.iconst 5, 1) := by decide +kernel
theorem dL_law_28 : decode cL_law 28 = .ok (.isub, 1) := by decide +kernel
theorem dL_law_29 : decode cL_law 29 = .ok (.if_icmp .gt 1292, 3) := by decide +kernel
theorem dL_law_32 : decode cL_law 32 = .ok (.aload_n 0, 1) := by decide +kernel
theorem dL_law_33 : decode cL_law 33 = .ok (.iload 4, 2) := by decide +kernel
theorem dL_law_35 : decode cL_law 35 = .ok (.iaload, 1) := by decide +kernel
theorem dL_law_36 : decode cL_law 36 = .ok (.bipush 31, 2) := by decide +kernel
theorem dL_law_38 : decode cL_law 38 = .ok (.iand, 1) := by decide +kernel
theorem dL_law_39 : decode cL_law 39 = .ok (.tableswitch 1276 0 18 #[89, 181, 237, 317, 397, 465, 521, 589, 657, 725, 793, 873, 917, 973, 1029, 1109, 1165, 1221, 1262], 89) := by decide +kernel
theorem dL_law_128 : decode cL_law 128 = .ok (.aload_n 1, 1) := by decide +kernel
theorem dL_law_129 : decode cL_law 129 = .ok (.aload_n 0, 1) := by decide +kernel
theorem dL_law_130 : decode cL_law 130 = .ok (.iload 4, 2) := by decide +kernel
theorem dL_law_132 : decode cL_law 132 = .ok (.iconst 1, 1) := by decide +kernel
theorem dL_law_133 : decode cL_law 133 = .ok (.iadd, 1) := by decide +kernel
theorem dL_law_134 : decode cL_law 134 = .ok (.iaload, 1) := by decide +kernel
theorem dL_law_135 : decode cL_law 135 = .ok (.aload_n 0, 1) := by decide +kernel
theorem dL_law_136 : decode cL_law 136 = .ok (.iload 4, 2) := by decide +kernel
theorem dL_law_138 : decode cL_law 138 = .ok (.iconst 2, 1) := by decide +kernel
theorem dL_law_139 : decode cL_law 139 = .ok (.iadd, 1) := by decide +kernel
theorem dL_law_140 : decode cL_law 140 = .ok (.iaload, 1) := by decide +kernel
theorem dL_law_141 : decode cL_law 141 = .ok (.aload_n 0, 1) := by decide +kernel
theorem dL_law_142 : decode cL_law 142 = .ok (.iload 4, 2) := by decide +kernel
theorem dL_law_144 : decode cL_law 144 = .ok (.iconst 3, 1) := by decide +kernel
theorem dL_law_145 : decode cL_law 145 = .ok (.iadd, 1) := by decide +kernel
theorem dL_law_146 : decode cL_law 146 = .ok (.iaload, 1) := by decide +kernel
theorem dL_law_147 : decode cL_law 147 = .ok (.aload_n 0, 1) := by decide +kernel
theorem dL_law_148 : decode cL_law 148 = .ok (.iload 4, 2) := by decide +kernel
theorem dL_law_150 : decode cL_law 150 = .ok (.iconst 4, 1) := by decide +kernel
theorem dL_law_151 : decode cL_law 151 = .ok (.iadd, 1) := by decide +kernel
theorem dL_law_152 : decode cL_law 152 = .ok (.iaload, 1) := by decide +kernel
theorem dL_law_153 : decode cL_law 153 = .ok (.aload_n 3, 1) := by decide +kernel
theorem dL_law_154 : decode cL_law 154 = .ok (.invokestatic 75, 3) := by decide +kernel
theorem dL_law_157 : decode cL_law 157 = .ok (.istore 5, 2) := by decide +kernel
theorem dL_law_159 : decode cL_law 159 = .ok (.aload_n 2, 1) := by decide +kernel
theorem dL_law_160 : decode cL_law 160 = .ok (.aload_n 0, 1) := by decide +kernel
theorem dL_law_161 : decode cL_law 161 = .ok (.iload 4, 2) := by decide +kernel
theorem dL_law_163 : decode cL_law 163 = .ok (.iconst 1, 1) := by decide +kernel
theorem dL_law_164 : decode cL_law 164 = .ok (.iadd, 1) := by decide +kernel
theorem dL_law_165 : decode cL_law 165 = .ok (.iaload, 1) := by decide +kernel
theorem dL_law_166 : decode cL_law 166 = .ok (.aload_n 0, 1) := by decide +kernel
theorem dL_law_167 : decode cL_law 167 = .ok (.iload 4, 2) := by decide +kernel
theorem dL_law_169 : decode cL_law 169 = .ok (.iconst 2, 1) := by decide +kernel
theorem dL_law_170 : decode cL_law 170 = .ok (.iadd, 1) := by decide +kernel
theorem dL_law_171 : decode cL_law 171 = .ok (.iaload, 1) := by decide +kernel
theorem dL_law_172 : decode cL_law 172 = .ok (.aload_n 0, 1) := by decide +kernel
theorem dL_law_173 : decode cL_law 173 = .ok (.iload 4, 2) := by decide +kernel
theorem dL_law_175 : decode cL_law 175 = .ok (.iconst 3, 1) := by decide +kernel
theorem dL_law_176 : decode cL_law 176 = .ok (.iadd, 1) := by decide +kernel
theorem dL_law_177 : decode cL_law 177 = .ok (.iaload, 1) := by decide +kernel
theorem dL_law_178 : decode cL_law 178 = .ok (.aload_n 0, 1) := by decide +kernel
theorem dL_law_179 : decode cL_law 179 = .ok (.iload 4, 2) := by decide +kernel
theorem dL_law_181 : decode cL_law 181 = .ok (.iconst 4, 1) := by decide +kernel
theorem dL_law_182 : decode cL_law 182 = .ok (.iadd, 1) := by decide +kernel
theorem dL_law_183 : decode cL_law 183 = .ok (.iaload, 1) := by decide +kernel
theorem dL_law_184 : decode cL_law 184 = .ok (.invokevirtual 80, 3) := by decide +kernel
theorem dL_law_187 : decode cL_law 187 = .ok (.istore 6, 2) := by decide +kernel
theorem dL_law_189 : decode cL_law 189 = .ok (.aload_n 2, 1) := by decide +kernel
theorem dL_law_190 : decode cL_law 190 = .ok (.invokevirtual 81, 3) := by decide +kernel
theorem dL_law_193 : decode cL_law 193 = .ok (.iload 5, 2) := by decide +kernel
theorem dL_law_195 : decode cL_law 195 = .ok (.if_icmp .eq 5, 3) := by decide +kernel
theorem dL_law_198 : decode cL_law 198 = .ok (.iconst 0, 1) := by decide +kernel
theorem dL_law_199 : decode cL_law 199 = .ok (.ireturn, 1) := by decide +kernel
theorem dL_law_200 : decode cL_law 200 = .ok (.iload 5, 2) := by decide +kernel
theorem dL_law_202 : decode cL_law 202 = .ok (.ifCond .ne 15, 3) := by decide +kernel
theorem dL_law_205 : decode cL_law 205 = .ok (.aload_n 3, 1) := by decide +kernel
theorem dL_law_206 : decode cL_law 206 = .ok (.iconst 0, 1) := by decide +kernel
theorem dL_law_207 : decode cL_law 207 = .ok (.laload, 1) := by decide +kernel
theorem dL_law_208 : decode cL_law 208 = .ok (.iload 6, 2) := by decide +kernel
theorem dL_law_210 : decode cL_law 210 = .ok (.i2l, 1) := by decide +kernel
theorem dL_law_211 : decode cL_law 211 = .ok (.lcmp, 1) := by decide +kernel
theorem dL_law_212 : decode cL_law 212 = .ok (.ifCond .eq 5, 3) := by decide +kernel
theorem dL_law_215 : decode cL_law 215 = .ok (.iconst 0, 1) := by decide +kernel
theorem dL_law_216 : decode cL_law 216 = .ok (.ireturn, 1) := by decide +kernel
theorem dL_law_217 : decode cL_law 217 = .ok (.goto 1098, 3) := by decide +kernel
theorem dL_law_220 : decode cL_law 220 = .ok (.aload_n 1, 1) := by decide +kernel
theorem dL_law_221 : decode cL_law 221 = .ok (.aload_n 0, 1) := by decide +kernel
theorem dL_law_222 : decode cL_law 222 = .ok (.iload 4, 2) := by decide +kernel
theorem dL_law_224 : decode cL_law 224 = .ok (.iconst 1, 1) := by decide +kernel
theorem dL_law_225 : decode cL_law 225 = .ok (.iadd, 1) := by decide +kernel
theorem dL_law_226 : decode cL_law 226 = .ok (.iaload, 1) := by decide +kernel
theorem dL_law_227 : decode cL_law 227 = .ok (.aload_n 3, 1) := by decide +kernel
theorem dL_law_228 : decode cL_law 228 = .ok (.invokestatic 84, 3) := by decide +kernel
theorem dL_law_231 : decode cL_law 231 = .ok (.istore 5, 2) := by decide +kernel
theorem dL_law_233 : decode cL_law 233 = .ok (.aload_n 2, 1) := by decide +kernel
theorem dL_law_234 : decode cL_law 234 = .ok (.aload_n 0, 1) := by decide +kernel
theorem dL_law_235 : decode cL_law 235 = .ok (.iload 4, 2) := by decide +kernel
theorem dL_law_237 : decode cL_law 237 = .ok (.iconst 1, 1) := by decide +kernel
theorem dL_law_238 : decode cL_law 238 = .ok (.iadd, 1) := by decide +kernel
theorem dL_law_239 : decode cL_law 239 = .ok (.iaload, 1) := by decide +kernel
theorem dL_law_240 : decode cL_law 240 = .ok (.invokevirtual 87, 3) := by decide +kernel
theorem dL_law_243 : decode cL_law 243 = .ok (.istore 6, 2) := by decide +kernel
theorem dL_law_245 : decode cL_law 245 = .ok (.aload_n 2, 1) := by decide +kernel
theorem dL_law_246 : decode cL_law 246 = .ok (.invokevirtual 81, 3) := by decide +kernel
theorem dL_law_249 : decode cL_law 249 = .ok (.iload 5, 2) := by decide +kernel
theorem dL_law_251 : decode cL_law 251 = .ok (.if_icmp .eq 5, 3) := by decide +kernel
theorem dL_law_254 : decode cL_law 254 = .ok (.iconst 0, 1) := by decide +kernel
theorem dL_law_255 : decode cL_law 255 = .ok (.ireturn, 1) := by decide +kernel
theorem dL_law_256 : decode cL_law 256 = .ok (.iload 5, 2) := by decide +kernel
theorem dL_law_258 : decode cL_law 258 = .ok (.ifCond .ne 15, 3) := by decide +kernel
theorem dL_law_261 : decode cL_law 261 = .ok (.aload_n 3, 1) := by decide +kernel
theorem dL_law_262 : decode cL_law 262 = .ok (.iconst 0, 1) := by decide +kernel
theorem dL_law_263 : decode cL_law 263 = .ok (.laload, 1) := by decide +kernel
theorem dL_law_264 : decode cL_law 264 = .ok (.iload 6, 2) := by decide +kernel
theorem dL_law_266 : decode cL_law 266 = .ok (.i2l, 1) := by decide +kernel
theorem dL_law_267 : decode cL_law 267 = .ok (.lcmp, 1) := by decide +kernel
theorem dL_law_268 : decode cL_law 268 = .ok (.ifCond .eq 5, 3) := by decide +kernel
theorem dL_law_271 : decode cL_law 271 = .ok (.iconst 0, 1) := by decide +kernel
theorem dL_law_272 : decode cL_law 272 = .ok (.ireturn, 1) := by decide +kernel
theorem dL_law_273 : decode cL_law 273 = .ok (.goto 1042, 3) := by decide +kernel
theorem dL_law_276 : decode cL_law 276 = .ok (.aload_n 1, 1) := by decide +kernel
theorem dL_law_277 : decode cL_law 277 = .ok (.aload_n 0, 1) := by decide +kernel
theorem dL_law_278 : decode cL_law 278 = .ok (.iload 4, 2) := by decide +kernel
theorem dL_law_280 : decode cL_law 280 = .ok (.iconst 1, 1) := by decide +kernel
theorem dL_law_281 : decode cL_law 281 = .ok (.iadd, 1) := by decide +kernel
theorem dL_law_282 : decode cL_law 282 = .ok (.iaload, 1) := by decide +kernel
theorem dL_law_283 : decode cL_law 283 = .ok (.aload_n 0, 1) := by decide +kernel
theorem dL_law_284 : decode cL_law 284 = .ok (.iload 4, 2) := by decide +kernel
theorem dL_law_286 : decode cL_law 286 = .ok (.iconst 2, 1) := by decide +kernel
theorem dL_law_287 : decode cL_law 287 = .ok (.iadd, 1) := by decide +kernel
theorem dL_law_288 : decode cL_law 288 = .ok (.iaload, 1) := by decide +kernel
theorem dL_law_289 : decode cL_law 289 = .ok (.aload_n 0, 1) := by decide +kernel
theorem dL_law_290 : decode cL_law 290 = .ok (.iload 4, 2) := by decide +kernel
theorem dL_law_292 : decode cL_law 292 = .ok (.iconst 3, 1) := by decide +kernel
theorem dL_law_293 : decode cL_law 293 = .ok (.iadd, 1) := by decide +kernel
theorem dL_law_294 : decode cL_law 294 = .ok (.iaload, 1) := by decide +kernel
theorem dL_law_295 : decode cL_law 295 = .ok (.aload_n 3, 1) := by decide +kernel
theorem dL_law_296 : decode cL_law 296 = .ok (.invokestatic 88, 3) := by decide +kernel
theorem dL_law_299 : decode cL_law 299 = .ok (.istore 5, 2) := by decide +kernel
theorem dL_law_301 : decode cL_law 301 = .ok (.aload_n 2, 1) := by decide +kernel
theorem dL_law_302 : decode cL_law 302 = .ok (.aload_n 0, 1) := by decide +kernel
theorem dL_law_303 : decode cL_law 303 = .ok (.iload 4, 2) := by decide +kernel
theorem dL_law_305 : decode cL_law 305 = .ok (.iconst 1, 1) := by decide +kernel
theorem dL_law_306 : decode cL_law 306 = .ok (.iadd, 1) := by decide +kernel
theorem dL_law_307 : decode cL_law 307 = .ok (.iaload, 1) := by decide +kernel
theorem dL_law_308 : decode cL_law 308 = .ok (.aload_n 0, 1) := by decide +kernel
theorem dL_law_309 : decode cL_law 309 = .ok (.iload 4, 2) := by decide +kernel
theorem dL_law_311 : decode cL_law 311 = .ok (.iconst 2, 1) := by decide +kernel
theorem dL_law_312 : decode cL_law 312 = .ok (.iadd, 1) := by decide +kernel
theorem dL_law_313 : decode cL_law 313 = .ok (.iaload, 1) := by decide +kernel
theorem dL_law_314 : decode cL_law 314 = .ok (.aload_n 0, 1) := by decide +kernel
theorem dL_law_315 : decode cL_law 315 = .ok (.iload 4, 2) := by decide +kernel
theorem dL_law_317 : decode cL_law 317 = .ok (.iconst 3, 1) := by decide +kernel
theorem dL_law_318 : decode cL_law 318 = .ok (.iadd, 1) := by decide +kernel
theorem dL_law_319 : decode cL_law 319 = .ok (.iaload, 1) := by decide +kernel
theorem dL_law_320 : decode cL_law 320 = .ok (.invokevirtual 91, 3) := by decide +kernel
theorem dL_law_323 : decode cL_law 323 = .ok (.istore 6, 2) := by decide +kernel
theorem dL_law_325 : decode cL_law 325 = .ok (.aload_n 2, 1) := by decide +kernel
theorem dL_law_326 : decode cL_law 326 = .ok (.invokevirtual 81, 3) := by decide +kernel
theorem dL_law_329 : decode cL_law 329 = .ok (.iload 5, 2) := by decide +kernel
theorem dL_law_331 : decode cL_law 331 = .ok (.if_icmp .eq 5, 3) := by decide +kernel
theorem dL_law_334 : decode cL_law 334 = .ok (.iconst 0, 1) := by decide +kernel
theorem dL_law_335 : decode cL_law 335 = .ok (.ireturn, 1) := by decide +kernel
theorem dL_law_336 : decode cL_law 336 = .ok (.iload 5, 2) := by decide +kernel
theorem dL_law_338 : decode cL_law 338 = .ok (.ifCond .ne 15, 3) := by decide +kernel
theorem dL_law_341 : decode cL_law 341 = .ok (.aload_n 3, 1) := by decide +kernel
theorem dL_law_342 : decode cL_law 342 = .ok (.iconst 0, 1) := by decide +kernel
theorem dL_law_343 : decode cL_law 343 = .ok (.laload, 1) := by decide +kernel
theorem dL_law_344 : decode cL_law 344 = .ok (.iload 6, 2) := by decide +kernel
theorem dL_law_346 : decode cL_law 346 = .ok (.i2l, 1) := by decide +kernel
theorem dL_law_347 : decode cL_law 347 = .ok (.lcmp, 1) := by decide +kernel
theorem dL_law_348 : decode cL_law 348 = .ok (.ifCond .eq 5, 3) := by decide +kernel
theorem dL_law_351 : decode cL_law 351 = .ok (.iconst 0, 1) := by decide +kernel
theorem dL_law_352 : decode cL_law 352 = .ok (.ireturn, 1) := by decide +kernel
theorem dL_law_353 : decode cL_law 353 = .ok (.goto 962, 3) := by decide +kernel
theorem dL_law_356 : decode cL_law 356 = .ok (.aload_n 1, 1) := by decide +kernel
theorem dL_law_357 : decode cL_law 357 = .ok (.aload_n 0, 1) := by decide +kernel
theorem dL_law_358 : decode cL_law 358 = .ok (.iload 4, 2) := by decide +kernel
theorem dL_law_360 : decode cL_law 360 = .ok (.iconst 1, 1) := by decide +kernel
theorem dL_law_361 : decode cL_law 361 = .ok (.iadd, 1) := by decide +kernel
theorem dL_law_362 : decode cL_law 362 = .ok (.iaload, 1) := by decide +kernel
theorem dL_law_363 : decode cL_law 363 = .ok (.aload_n 0, 1) := by decide +kernel
theorem dL_law_364 : decode cL_law 364 = .ok (.iload 4, 2) := by decide +kernel
theorem dL_law_366 : decode cL_law 366 = .ok (.iconst 2, 1) := by decide +kernel
theorem dL_law_367 : decode cL_law 367 = .ok (.iadd, 1) := by decide +kernel
theorem dL_law_368 : decode cL_law 368 = .ok (.iaload, 1) := by decide +kernel
theorem dL_law_369 : decode cL_law 369 = .ok (.aload_n 0, 1) := by decide +kernel
theorem dL_law_370 : decode cL_law 370 = .ok (.iload 4, 2) := by decide +kernel
theorem dL_law_372 : decode cL_law 372 = .ok (.iconst 3, 1) := by decide +kernel
theorem dL_law_373 : decode cL_law 373 = .ok (.iadd, 1) := by decide +kernel
theorem dL_law_374 : decode cL_law 374 = .ok (.iaload, 1) := by decide +kernel
theorem dL_law_375 : decode cL_law 375 = .ok (.aload_n 3, 1) := by decide +kernel
theorem dL_law_376 : decode cL_law 376 = .ok (.invokestatic 92, 3) := by decide +kernel
theorem dL_law_379 : decode cL_law 379 = .ok (.istore 5, 2) := by decide +kernel
theorem dL_law_381 : decode cL_law 381 = .ok (.aload_n 2, 1) := by decide +kernel
theorem dL_law_382 : decode cL_law 382 = .ok (.aload_n 0, 1) := by decide +kernel
theorem dL_law_383 : decode cL_law 383 = .ok (.iload 4, 2) := by decide +kernel
theorem dL_law_385 : decode cL_law 385 = .ok (.iconst 1, 1) := by decide +kernel
theorem dL_law_386 : decode cL_law 386 = .ok (.iadd, 1) := by decide +kernel
theorem dL_law_387 : decode cL_law 387 = .ok (.iaload, 1) := by decide +kernel
theorem dL_law_388 : decode cL_law 388 = .ok (.aload_n 0, 1) := by decide +kernel
theorem dL_law_389 : decode cL_law 389 = .ok (.iload 4, 2) := by decide +kernel
theorem dL_law_391 : decode cL_law 391 = .ok (.iconst 2, 1) := by decide +kernel
theorem dL_law_392 : decode cL_law 392 = .ok (.iadd, 1) := by decide +kernel
theorem dL_law_393 : decode cL_law 393 = .ok (.iaload, 1) := by decide +kernel
theorem dL_law_394 : decode cL_law 394 = .ok (.aload_n 0, 1) := by decide +kernel
theorem dL_law_395 : decode cL_law 395 = .ok (.iload 4, 2) := by decide +kernel
theorem dL_law_397 : decode cL_law 397 = .ok (.iconst 3, 1) := by decide +kernel
theorem dL_law_398 : decode cL_law 398 = .ok (.iadd, 1) := by decide +kernel
theorem dL_law_399 : decode cL_law 399 = .ok (.iaload, 1) := by decide +kernel
theorem dL_law_400 : decode cL_law 400 = .ok (.invokevirtual 94, 3) := by decide +kernel
theorem dL_law_403 : decode cL_law 403 = .ok (.istore 6, 2) := by decide +kernel
theorem dL_law_405 : decode cL_law 405 = .ok (.aload_n 2, 1) := by decide +kernel
theorem dL_law_406 : decode cL_law 406 = .ok (.invokevirtual 81, 3) := by decide +kernel
theorem dL_law_409 : decode cL_law 409 = .ok (.iload 5, 2) := by decide +kernel
theorem dL_law_411 : decode cL_law 411 = .ok (.if_icmp .eq 5, 3) := by decide +kernel
theorem dL_law_414 : decode cL_law 414 = .ok (.iconst 0, 1) := by decide +kernel
theorem dL_law_415 : decode cL_law 415 = .ok (.ireturn, 1) := by decide +kernel
theorem dL_law_416 : decode cL_law 416 = .ok (.iload 5, 2) := by decide +kernel
theorem dL_law_418 : decode cL_law 418 = .ok (.ifCond .ne 15, 3) := by decide +kernel
theorem dL_law_421 : decode cL_law 421 = .ok (.aload_n 3, 1) := by decide +kernel
theorem dL_law_422 : decode cL_law 422 = .ok (.iconst 0, 1) := by decide +kernel
theorem dL_law_423 : decode cL_law 423 = .ok (.laload, 1) := by decide +kernel
theorem dL_law_424 : decode cL_law 424 = .ok (.iload 6, 2) := by decide +kernel
theorem dL_law_426 : decode cL_law 426 = .ok (.i2l, 1) := by decide +kernel
theorem dL_law_427 : decode cL_law 427 = .ok (.lcmp, 1) := by decide +kernel
theorem dL_law_428 : decode cL_law 428 = .ok (.ifCond .eq 5, 3) := by decide +kernel
theorem dL_law_431 : decode cL_law 431 = .ok (.iconst 0, 1) := by decide +kernel
theorem dL_law_432 : decode cL_law 432 = .ok (.ireturn, 1) := by decide +kernel
theorem dL_law_433 : decode cL_law 433 = .ok (.goto 882, 3) := by decide +kernel
theorem dL_law_436 : decode cL_law 436 = .ok (.aload_n 1, 1) := by decide +kernel
theorem dL_law_437 : decode cL_law 437 = .ok (.aload_n 0, 1) := by decide +kernel
theorem dL_law_438 : decode cL_law 438 = .ok (.iload 4, 2) := by decide +kernel
theorem dL_law_440 : decode cL_law 440 = .ok (.iconst 1, 1) := by decide +kernel
theorem dL_law_441 : decode cL_law 441 = .ok (.iadd, 1) := by decide +kernel
theorem dL_law_442 : decode cL_law 442 = .ok (.iaload, 1) := by decide +kernel
theorem dL_law_443 : decode cL_law 443 = .ok (.aload_n 0, 1) := by decide +kernel
theorem dL_law_444 : decode cL_law 444 = .ok (.iload 4, 2) := by decide +kernel
theorem dL_law_446 : decode cL_law 446 = .ok (.iconst 2, 1) := by decide +kernel
theorem dL_law_447 : decode cL_law 447 = .ok (.iadd, 1) := by decide +kernel
theorem dL_law_448 : decode cL_law 448 = .ok (.iaload, 1) := by decide +kernel
theorem dL_law_449 : decode cL_law 449 = .ok (.aload_n 3, 1) := by decide +kernel
theorem dL_law_450 : decode cL_law 450 = .ok (.invokestatic 95, 3) := by decide +kernel
theorem dL_law_453 : decode cL_law 453 = .ok (.istore 5, 2) := by decide +kernel
theorem dL_law_455 : decode cL_law 455 = .ok (.aload_n 2, 1) := by decide +kernel
theorem dL_law_456 : decode cL_law 456 = .ok (.aload_n 0, 1) := by decide +kernel
theorem dL_law_457 : decode cL_law 457 = .ok (.iload 4, 2) := by decide +kernel
theorem dL_law_459 : decode cL_law 459 = .ok (.iconst 1, 1) := by decide +kernel
theorem dL_law_460 : decode cL_law 460 = .ok (.iadd, 1) := by decide +kernel
theorem dL_law_461 : decode cL_law 461 = .ok (.iaload, 1) := by decide +kernel
theorem dL_law_462 : decode cL_law 462 = .ok (.aload_n 0, 1) := by decide +kernel
theorem dL_law_463 : decode cL_law 463 = .ok (.iload 4, 2) := by decide +kernel
theorem dL_law_465 : decode cL_law 465 = .ok (.iconst 2, 1) := by decide +kernel
theorem dL_law_466 : decode cL_law 466 = .ok (.iadd, 1) := by decide +kernel
theorem dL_law_467 : decode cL_law 467 = .ok (.iaload, 1) := by decide +kernel
theorem dL_law_468 : decode cL_law 468 = .ok (.invokevirtual 98, 3) := by decide +kernel
theorem dL_law_471 : decode cL_law 471 = .ok (.istore 6, 2) := by decide +kernel
theorem dL_law_473 : decode cL_law 473 = .ok (.aload_n 2, 1) := by decide +kernel
theorem dL_law_474 : decode cL_law 474 = .ok (.invokevirtual 81, 3) := by decide +kernel
theorem dL_law_477 : decode cL_law 477 = .ok (.iload 5, 2) := by decide +kernel
theorem dL_law_479 : decode cL_law 479 = .ok (.if_icmp .eq 5, 3) := by decide +kernel
theorem dL_law_482 : decode cL_law 482 = .ok (.iconst 0, 1) := by decide +kernel
theorem dL_law_483 : decode cL_law 483 = .ok (.ireturn, 1) := by decide +kernel
theorem dL_law_484 : decode cL_law 484 = .ok (.iload 5, 2) := by decide +kernel
theorem dL_law_486 : decode cL_law 486 = .ok (.ifCond .ne 15, 3) := by decide +kernel
theorem dL_law_489 : decode cL_law 489 = .ok (.aload_n 3, 1) := by decide +kernel
theorem dL_law_490 : decode cL_law 490 = .ok (.iconst 0, 1) := by decide +kernel
theorem dL_law_491 : decode cL_law 491 = .ok (.laload, 1) := by decide +kernel
theorem dL_law_492 : decode cL_law 492 = .ok (.iload 6, 2) := by decide +kernel
theorem dL_law_494 : decode cL_law 494 = .ok (.i2l, 1) := by decide +kernel
theorem dL_law_495 : decode cL_law 495 = .ok (.lcmp, 1) := by decide +kernel
theorem dL_law_496 : decode cL_law 496 = .ok (.ifCond .eq 5, 3) := by decide +kernel
theorem dL_law_499 : decode cL_law 499 = .ok (.iconst 0, 1) := by decide +kernel
theorem dL_law_500 : decode cL_law 500 = .ok (.ireturn, 1) := by decide +kernel
theorem dL_law_501 : decode cL_law 501 = .ok (.goto 814, 3) := by decide +kernel
theorem dL_law_504 : decode cL_law 504 = .ok (.aload_n 1, 1) := by decide +kernel
theorem dL_law_505 : decode cL_law 505 = .ok (.aload_n 0, 1) := by decide +kernel
theorem dL_law_506 : decode cL_law 506 = .ok (.iload 4, 2) := by decide +kernel
theorem dL_law_508 : decode cL_law 508 = .ok (.iconst 1, 1) := by decide +kernel
theorem dL_law_509 : decode cL_law 509 = .ok (.iadd, 1) := by decide +kernel
theorem dL_law_510 : decode cL_law 510 = .ok (.iaload, 1) := by decide +kernel
theorem dL_law_511 : decode cL_law 511 = .ok (.aload_n 3, 1) := by decide +kernel
theorem dL_law_512 : decode cL_law 512 = .ok (.invokestatic 99, 3) := by decide +kernel
theorem dL_law_515 : decode cL_law 515 = .ok (.istore 5, 2) := by decide +kernel
theorem dL_law_517 : decode cL_law 517 = .ok (.aload_n 2, 1) := by decide +kernel
theorem dL_law_518 : decode cL_law 518 = .ok (.aload_n 0, 1) := by decide +kernel
theorem dL_law_519 : decode cL_law 519 = .ok (.iload 4, 2) := by decide +kernel
theorem dL_law_521 : decode cL_law 521 = .ok (.iconst 1, 1) := by decide +kernel
theorem dL_law_522 : decode cL_law 522 = .ok (.iadd, 1) := by decide +kernel
theorem dL_law_523 : decode cL_law 523 = .ok (.iaload, 1) := by decide +kernel
theorem dL_law_524 : decode cL_law 524 = .ok (.invokevirtual 101, 3) := by decide +kernel
theorem dL_law_527 : decode cL_law 527 = .ok (.istore 6, 2) := by decide +kernel
theorem dL_law_529 : decode cL_law 529 = .ok (.aload_n 2, 1) := by decide +kernel
theorem dL_law_530 : decode cL_law 530 = .ok (.invokevirtual 81, 3) := by decide +kernel
theorem dL_law_533 : decode cL_law 533 = .ok (.iload 5, 2) := by decide +kernel
theorem dL_law_535 : decode cL_law 535 = .ok (.if_icmp .eq 5, 3) := by decide +kernel
theorem dL_law_538 : decode cL_law 538 = .ok (.iconst 0, 1) := by decide +kernel
theorem dL_law_539 : decode cL_law 539 = .ok (.ireturn, 1) := by decide +kernel
theorem dL_law_540 : decode cL_law 540 = .ok (.iload 5, 2) := by decide +kernel
theorem dL_law_542 : decode cL_law 542 = .ok (.ifCond .ne 15, 3) := by decide +kernel
theorem dL_law_545 : decode cL_law 545 = .ok (.aload_n 3, 1) := by decide +kernel
theorem dL_law_546 : decode cL_law 546 = .ok (.iconst 0, 1) := by decide +kernel
theorem dL_law_547 : decode cL_law 547 = .ok (.laload, 1) := by decide +kernel
theorem dL_law_548 : decode cL_law 548 = .ok (.iload 6, 2) := by decide +kernel
theorem dL_law_550 : decode cL_law 550 = .ok (.i2l, 1) := by decide +kernel
theorem dL_law_551 : decode cL_law 551 = .ok (.lcmp, 1) := by decide +kernel
theorem dL_law_552 : decode cL_law 552 = .ok (.ifCond .eq 5, 3) := by decide +kernel
theorem dL_law_555 : decode cL_law 555 = .ok (.iconst 0, 1) := by decide +kernel
theorem dL_law_556 : decode cL_law 556 = .ok (.ireturn, 1) := by decide +kernel
theorem dL_law_557 : decode cL_law 557 = .ok (.goto 758, 3) := by decide +kernel
theorem dL_law_560 : decode cL_law 560 = .ok (.aload_n 1, 1) := by decide +kernel
theorem dL_law_561 : decode cL_law 561 = .ok (.aload_n 0, 1) := by decide +kernel
theorem dL_law_562 : decode cL_law 562 = .ok (.iload 4, 2) := by decide +kernel
theorem dL_law_564 : decode cL_law 564 = .ok (.iconst 1, 1) := by decide +kernel
theorem dL_law_565 : decode cL_law 565 = .ok (.iadd, 1) := by decide +kernel
theorem dL_law_566 : decode cL_law 566 = .ok (.iaload, 1) := by decide +kernel
theorem dL_law_567 : decode cL_law 567 = .ok (.aload_n 0, 1) := by decide +kernel
theorem dL_law_568 : decode cL_law 568 = .ok (.iload 4, 2) := by decide +kernel
theorem dL_law_570 : decode cL_law 570 = .ok (.iconst 2, 1) := by decide +kernel
theorem dL_law_571 : decode cL_law 571 = .ok (.iadd, 1) := by decide +kernel
theorem dL_law_572 : decode cL_law 572 = .ok (.iaload, 1) := by decide +kernel
theorem dL_law_573 : decode cL_law 573 = .ok (.aload_n 3, 1) := by decide +kernel
theorem dL_law_574 : decode cL_law 574 = .ok (.invokestatic 102, 3) := by decide +kernel
theorem dL_law_577 : decode cL_law 577 = .ok (.istore 5, 2) := by decide +kernel
theorem dL_law_579 : decode cL_law 579 = .ok (.aload_n 2, 1) := by decide +kernel
theorem dL_law_580 : decode cL_law 580 = .ok (.aload_n 0, 1) := by decide +kernel
theorem dL_law_581 : decode cL_law 581 = .ok (.iload 4, 2) := by decide +kernel
theorem dL_law_583 : decode cL_law 583 = .ok (.iconst 1, 1) := by decide +kernel
theorem dL_law_584 : decode cL_law 584 = .ok (.iadd, 1) := by decide +kernel
theorem dL_law_585 : decode cL_law 585 = .ok (.iaload, 1) := by decide +kernel
theorem dL_law_586 : decode cL_law 586 = .ok (.aload_n 0, 1) := by decide +kernel
theorem dL_law_587 : decode cL_law 587 = .ok (.iload 4, 2) := by decide +kernel
theorem dL_law_589 : decode cL_law 589 = .ok (.iconst 2, 1) := by decide +kernel
theorem dL_law_590 : decode cL_law 590 = .ok (.iadd, 1) := by decide +kernel
theorem dL_law_591 : decode cL_law 591 = .ok (.iaload, 1) := by decide +kernel
theorem dL_law_592 : decode cL_law 592 = .ok (.invokevirtual 104, 3) := by decide +kernel
theorem dL_law_595 : decode cL_law 595 = .ok (.istore 6, 2) := by decide +kernel
theorem dL_law_597 : decode cL_law 597 = .ok (.aload_n 2, 1) := by decide +kernel
theorem dL_law_598 : decode cL_law 598 = .ok (.invokevirtual 81, 3) := by decide +kernel
theorem dL_law_601 : decode cL_law 601 = .ok (.iload 5, 2) := by decide +kernel
theorem dL_law_603 : decode cL_law 603 = .ok (.if_icmp .eq 5, 3) := by decide +kernel
theorem dL_law_606 : decode cL_law 606 = .ok (.iconst 0, 1) := by decide +kernel
theorem dL_law_607 : decode cL_law 607 = .ok (.ireturn, 1) := by decide +kernel
theorem dL_law_608 : decode cL_law 608 = .ok (.iload 5, 2) := by decide +kernel
theorem dL_law_610 : decode cL_law 610 = .ok (.ifCond .ne 15, 3) := by decide +kernel
theorem dL_law_613 : decode cL_law 613 = .ok (.aload_n 3, 1) := by decide +kernel
theorem dL_law_614 : decode cL_law 614 = .ok (.iconst 0, 1) := by decide +kernel
theorem dL_law_615 : decode cL_law 615 = .ok (.laload, 1) := by decide +kernel
theorem dL_law_616 : decode cL_law 616 = .ok (.iload 6, 2) := by decide +kernel
theorem dL_law_618 : decode cL_law 618 = .ok (.i2l, 1) := by decide +kernel
theorem dL_law_619 : decode cL_law 619 = .ok (.lcmp, 1) := by decide +kernel
theorem dL_law_620 : decode cL_law 620 = .ok (.ifCond .eq 5, 3) := by decide +kernel
theorem dL_law_623 : decode cL_law 623 = .ok (.iconst 0, 1) := by decide +kernel
theorem dL_law_624 : decode cL_law 624 = .ok (.ireturn, 1) := by decide +kernel
theorem dL_law_625 : decode cL_law 625 = .ok (.goto 690, 3) := by decide +kernel
theorem dL_law_628 : decode cL_law 628 = .ok (.aload_n 1, 1) := by decide +kernel
theorem dL_law_629 : decode cL_law 629 = .ok (.aload_n 0, 1) := by decide +kernel
theorem dL_law_630 : decode cL_law 630 = .ok (.iload 4, 2) := by decide +kernel
theorem dL_law_632 : decode cL_law 632 = .ok (.iconst 1, 1) := by decide +kernel
theorem dL_law_633 : decode cL_law 633 = .ok (.iadd, 1) := by decide +kernel
theorem dL_law_634 : decode cL_law 634 = .ok (.iaload, 1) := by decide +kernel
theorem dL_law_635 : decode cL_law 635 = .ok (.aload_n 0, 1) := by decide +kernel
theorem dL_law_636 : decode cL_law 636 = .ok (.iload 4, 2) := by decide +kernel
theorem dL_law_638 : decode cL_law 638 = .ok (.iconst 2, 1) := by decide +kernel
theorem dL_law_639 : decode cL_law 639 = .ok (.iadd, 1) := by decide +kernel
theorem dL_law_640 : decode cL_law 640 = .ok (.iaload, 1) := by decide +kernel
theorem dL_law_641 : decode cL_law 641 = .ok (.aload_n 3, 1) := by decide +kernel
theorem dL_law_642 : decode cL_law 642 = .ok (.invokestatic 105, 3) := by decide +kernel
theorem dL_law_645 : decode cL_law 645 = .ok (.istore 5, 2) := by decide +kernel
theorem dL_law_647 : decode cL_law 647 = .ok (.aload_n 2, 1) := by decide +kernel
theorem dL_law_648 : decode cL_law 648 = .ok (.aload_n 0, 1) := by decide +kernel
theorem dL_law_649 : decode cL_law 649 = .ok (.iload 4, 2) := by decide +kernel
theorem dL_law_651 : decode cL_law 651 = .ok (.iconst 1, 1) := by decide +kernel
theorem dL_law_652 : decode cL_law 652 = .ok (.iadd, 1) := by decide +kernel
theorem dL_law_653 : decode cL_law 653 = .ok (.iaload, 1) := by decide +kernel
theorem dL_law_654 : decode cL_law 654 = .ok (.aload_n 0, 1) := by decide +kernel
theorem dL_law_655 : decode cL_law 655 = .ok (.iload 4, 2) := by decide +kernel
theorem dL_law_657 : decode cL_law 657 = .ok (.iconst 2, 1) := by decide +kernel
theorem dL_law_658 : decode cL_law 658 = .ok (.iadd, 1) := by decide +kernel
theorem dL_law_659 : decode cL_law 659 = .ok (.iaload, 1) := by decide +kernel
theorem dL_law_660 : decode cL_law 660 = .ok (.invokevirtual 107, 3) := by decide +kernel
theorem dL_law_663 : decode cL_law 663 = .ok (.istore 6, 2) := by decide +kernel
theorem dL_law_665 : decode cL_law 665 = .ok (.aload_n 2, 1) := by decide +kernel
theorem dL_law_666 : decode cL_law 666 = .ok (.invokevirtual 81, 3) := by decide +kernel
theorem dL_law_669 : decode cL_law 669 = .ok (.iload 5, 2) := by decide +kernel
theorem dL_law_671 : decode cL_law 671 = .ok (.if_icmp .eq 5, 3) := by decide +kernel
theorem dL_law_674 : decode cL_law 674 = .ok (.iconst 0, 1) := by decide +kernel
theorem dL_law_675 : decode cL_law 675 = .ok (.ireturn, 1) := by decide +kernel
theorem dL_law_676 : decode cL_law 676 = .ok (.iload 5, 2) := by decide +kernel
theorem dL_law_678 : decode cL_law 678 = .ok (.ifCond .ne 15, 3) := by decide +kernel
theorem dL_law_681 : decode cL_law 681 = .ok (.aload_n 3, 1) := by decide +kernel
theorem dL_law_682 : decode cL_law 682 = .ok (.iconst 0, 1) := by decide +kernel
theorem dL_law_683 : decode cL_law 683 = .ok (.laload, 1) := by decide +kernel
theorem dL_law_684 : decode cL_law 684 = .ok (.iload 6, 2) := by decide +kernel
theorem dL_law_686 : decode cL_law 686 = .ok (.i2l, 1) := by decide +kernel
theorem dL_law_687 : decode cL_law 687 = .ok (.lcmp, 1) := by decide +kernel
theorem dL_law_688 : decode cL_law 688 = .ok (.ifCond .eq 5, 3) := by decide +kernel
theorem dL_law_691 : decode cL_law 691 = .ok (.iconst 0, 1) := by decide +kernel
theorem dL_law_692 : decode cL_law 692 = .ok (.ireturn, 1) := by decide +kernel
theorem dL_law_693 : decode cL_law 693 = .ok (.goto 622, 3) := by decide +kernel
theorem dL_law_696 : decode cL_law 696 = .ok (.aload_n 1, 1) := by decide +kernel
theorem dL_law_697 : decode cL_law 697 = .ok (.aload_n 0, 1) := by decide +kernel
theorem dL_law_698 : decode cL_law 698 = .ok (.iload 4, 2) := by decide +kernel
theorem dL_law_700 : decode cL_law 700 = .ok (.iconst 1, 1) := by decide +kernel
theorem dL_law_701 : decode cL_law 701 = .ok (.iadd, 1) := by decide +kernel
theorem dL_law_702 : decode cL_law 702 = .ok (.iaload, 1) := by decide +kernel
theorem dL_law_703 : decode cL_law 703 = .ok (.aload_n 0, 1) := by decide +kernel
theorem dL_law_704 : decode cL_law 704 = .ok (.iload 4, 2) := by decide +kernel
theorem dL_law_706 : decode cL_law 706 = .ok (.iconst 2, 1) := by decide +kernel
theorem dL_law_707 : decode cL_law 707 = .ok (.iadd, 1) := by decide +kernel
theorem dL_law_708 : decode cL_law 708 = .ok (.iaload, 1) := by decide +kernel
theorem dL_law_709 : decode cL_law 709 = .ok (.aload_n 3, 1) := by decide +kernel
theorem dL_law_710 : decode cL_law 710 = .ok (.invokestatic 108, 3) := by decide +kernel
theorem dL_law_713 : decode cL_law 713 = .ok (.istore 5, 2) := by decide +kernel
theorem dL_law_715 : decode cL_law 715 = .ok (.aload_n 2, 1) := by decide +kernel
theorem dL_law_716 : decode cL_law 716 = .ok (.aload_n 0, 1) := by decide +kernel
theorem dL_law_717 : decode cL_law 717 = .ok (.iload 4, 2) := by decide +kernel
theorem dL_law_719 : decode cL_law 719 = .ok (.iconst 1, 1) := by decide +kernel
theorem dL_law_720 : decode cL_law 720 = .ok (.iadd, 1) := by decide +kernel
theorem dL_law_721 : decode cL_law 721 = .ok (.iaload, 1) := by decide +kernel
theorem dL_law_722 : decode cL_law 722 = .ok (.aload_n 0, 1) := by decide +kernel
theorem dL_law_723 : decode cL_law 723 = .ok (.iload 4, 2) := by decide +kernel
theorem dL_law_725 : decode cL_law 725 = .ok (.iconst 2, 1) := by decide +kernel
theorem dL_law_726 : decode cL_law 726 = .ok (.iadd, 1) := by decide +kernel
theorem dL_law_727 : decode cL_law 727 = .ok (.iaload, 1) := by decide +kernel
theorem dL_law_728 : decode cL_law 728 = .ok (.invokevirtual 110, 3) := by decide +kernel
theorem dL_law_731 : decode cL_law 731 = .ok (.istore 6, 2) := by decide +kernel
theorem dL_law_733 : decode cL_law 733 = .ok (.aload_n 2, 1) := by decide +kernel
theorem dL_law_734 : decode cL_law 734 = .ok (.invokevirtual 81, 3) := by decide +kernel
theorem dL_law_737 : decode cL_law 737 = .ok (.iload 5, 2) := by decide +kernel
theorem dL_law_739 : decode cL_law 739 = .ok (.if_icmp .eq 5, 3) := by decide +kernel
theorem dL_law_742 : decode cL_law 742 = .ok (.iconst 0, 1) := by decide +kernel
theorem dL_law_743 : decode cL_law 743 = .ok (.ireturn, 1) := by decide +kernel
theorem dL_law_744 : decode cL_law 744 = .ok (.iload 5, 2) := by decide +kernel
theorem dL_law_746 : decode cL_law 746 = .ok (.ifCond .ne 15, 3) := by decide +kernel
theorem dL_law_749 : decode cL_law 749 = .ok (.aload_n 3, 1) := by decide +kernel
theorem dL_law_750 : decode cL_law 750 = .ok (.iconst 0, 1) := by decide +kernel
theorem dL_law_751 : decode cL_law 751 = .ok (.laload, 1) := by decide +kernel
theorem dL_law_752 : decode cL_law 752 = .ok (.iload 6, 2) := by decide +kernel
theorem dL_law_754 : decode cL_law 754 = .ok (.i2l, 1) := by decide +kernel
theorem dL_law_755 : decode cL_law 755 = .ok (.lcmp, 1) := by decide +kernel
theorem dL_law_756 : decode cL_law 756 = .ok (.ifCond .eq 5, 3) := by decide +kernel
theorem dL_law_759 : decode cL_law 759 = .ok (.iconst 0, 1) := by decide +kernel
theorem dL_law_760 : decode cL_law 760 = .ok (.ireturn, 1) := by decide +kernel
theorem dL_law_761 : decode cL_law 761 = .ok (.goto 554, 3) := by decide +kernel
theorem dL_law_764 : decode cL_law 764 = .ok (.aload_n 1, 1) := by decide +kernel
theorem dL_law_765 : decode cL_law 765 = .ok (.aload_n 0, 1) := by decide +kernel
theorem dL_law_766 : decode cL_law 766 = .ok (.iload 4, 2) := by decide +kernel
theorem dL_law_768 : decode cL_law 768 = .ok (.iconst 1, 1) := by decide +kernel
theorem dL_law_769 : decode cL_law 769 = .ok (.iadd, 1) := by decide +kernel
theorem dL_law_770 : decode cL_law 770 = .ok (.iaload, 1) := by decide +kernel
theorem dL_law_771 : decode cL_law 771 = .ok (.aload_n 0, 1) := by decide +kernel
theorem dL_law_772 : decode cL_law 772 = .ok (.iload 4, 2) := by decide +kernel
theorem dL_law_774 : decode cL_law 774 = .ok (.iconst 2, 1) := by decide +kernel
theorem dL_law_775 : decode cL_law 775 = .ok (.iadd, 1) := by decide +kernel
theorem dL_law_776 : decode cL_law 776 = .ok (.iaload, 1) := by decide +kernel
theorem dL_law_777 : decode cL_law 777 = .ok (.aload_n 3, 1) := by decide +kernel
theorem dL_law_778 : decode cL_law 778 = .ok (.invokestatic 111, 3) := by decide +kernel
theorem dL_law_781 : decode cL_law 781 = .ok (.istore 5, 2) := by decide +kernel
theorem dL_law_783 : decode cL_law 783 = .ok (.aload_n 2, 1) := by decide +kernel
theorem dL_law_784 : decode cL_law 784 = .ok (.aload_n 0, 1) := by decide +kernel
theorem dL_law_785 : decode cL_law 785 = .ok (.iload 4, 2) := by decide +kernel
theorem dL_law_787 : decode cL_law 787 = .ok (.iconst 1, 1) := by decide +kernel
theorem dL_law_788 : decode cL_law 788 = .ok (.iadd, 1) := by decide +kernel
theorem dL_law_789 : decode cL_law 789 = .ok (.iaload, 1) := by decide +kernel
theorem dL_law_790 : decode cL_law 790 = .ok (.aload_n 0, 1) := by decide +kernel
theorem dL_law_791 : decode cL_law 791 = .ok (.iload 4, 2) := by decide +kernel
theorem dL_law_793 : decode cL_law 793 = .ok (.iconst 2, 1) := by decide +kernel
theorem dL_law_794 : decode cL_law 794 = .ok (.iadd, 1) := by decide +kernel
theorem dL_law_795 : decode cL_law 795 = .ok (.iaload, 1) := by decide +kernel
theorem dL_law_796 : decode cL_law 796 = .ok (.invokevirtual 113, 3) := by decide +kernel
theorem dL_law_799 : decode cL_law 799 = .ok (.istore 6, 2) := by decide +kernel
theorem dL_law_801 : decode cL_law 801 = .ok (.aload_n 2, 1) := by decide +kernel
theorem dL_law_802 : decode cL_law 802 = .ok (.invokevirtual 81, 3) := by decide +kernel
theorem dL_law_805 : decode cL_law 805 = .ok (.iload 5, 2) := by decide +kernel
theorem dL_law_807 : decode cL_law 807 = .ok (.if_icmp .eq 5, 3) := by decide +kernel
theorem dL_law_810 : decode cL_law 810 = .ok (.iconst 0, 1) := by decide +kernel
theorem dL_law_811 : decode cL_law 811 = .ok (.ireturn, 1) := by decide +kernel
theorem dL_law_812 : decode cL_law 812 = .ok (.iload 5, 2) := by decide +kernel
theorem dL_law_814 : decode cL_law 814 = .ok (.ifCond .ne 15, 3) := by decide +kernel
theorem dL_law_817 : decode cL_law 817 = .ok (.aload_n 3, 1) := by decide +kernel
theorem dL_law_818 : decode cL_law 818 = .ok (.iconst 0, 1) := by decide +kernel
theorem dL_law_819 : decode cL_law 819 = .ok (.laload, 1) := by decide +kernel
theorem dL_law_820 : decode cL_law 820 = .ok (.iload 6, 2) := by decide +kernel
theorem dL_law_822 : decode cL_law 822 = .ok (.i2l, 1) := by decide +kernel
theorem dL_law_823 : decode cL_law 823 = .ok (.lcmp, 1) := by decide +kernel
theorem dL_law_824 : decode cL_law 824 = .ok (.ifCond .eq 5, 3) := by decide +kernel
theorem dL_law_827 : decode cL_law 827 = .ok (.iconst 0, 1) := by decide +kernel
theorem dL_law_828 : decode cL_law 828 = .ok (.ireturn, 1) := by decide +kernel
theorem dL_law_829 : decode cL_law 829 = .ok (.goto 486, 3) := by decide +kernel
theorem dL_law_832 : decode cL_law 832 = .ok (.aload_n 1, 1) := by decide +kernel
theorem dL_law_833 : decode cL_law 833 = .ok (.aload_n 0, 1) := by decide +kernel
theorem dL_law_834 : decode cL_law 834 = .ok (.iload 4, 2) := by decide +kernel
theorem dL_law_836 : decode cL_law 836 = .ok (.iconst 1, 1) := by decide +kernel
theorem dL_law_837 : decode cL_law 837 = .ok (.iadd, 1) := by decide +kernel
theorem dL_law_838 : decode cL_law 838 = .ok (.iaload, 1) := by decide +kernel
theorem dL_law_839 : decode cL_law 839 = .ok (.aload_n 0, 1) := by decide +kernel
theorem dL_law_840 : decode cL_law 840 = .ok (.iload 4, 2) := by decide +kernel
theorem dL_law_842 : decode cL_law 842 = .ok (.iconst 2, 1) := by decide +kernel
theorem dL_law_843 : decode cL_law 843 = .ok (.iadd, 1) := by decide +kernel
theorem dL_law_844 : decode cL_law 844 = .ok (.iaload, 1) := by decide +kernel
theorem dL_law_845 : decode cL_law 845 = .ok (.aload_n 0, 1) := by decide +kernel
theorem dL_law_846 : decode cL_law 846 = .ok (.iload 4, 2) := by decide +kernel
theorem dL_law_848 : decode cL_law 848 = .ok (.iconst 3, 1) := by decide +kernel
theorem dL_law_849 : decode cL_law 849 = .ok (.iadd, 1) := by decide +kernel
theorem dL_law_850 : decode cL_law 850 = .ok (.iaload, 1) := by decide +kernel
theorem dL_law_851 : decode cL_law 851 = .ok (.aload_n 3, 1) := by decide +kernel
theorem dL_law_852 : decode cL_law 852 = .ok (.invokestatic 114, 3) := by decide +kernel
theorem dL_law_855 : decode cL_law 855 = .ok (.istore 5, 2) := by decide +kernel
theorem dL_law_857 : decode cL_law 857 = .ok (.aload_n 2, 1) := by decide +kernel
theorem dL_law_858 : decode cL_law 858 = .ok (.aload_n 0, 1) := by decide +kernel
theorem dL_law_859 : decode cL_law 859 = .ok (.iload 4, 2) := by decide +kernel
theorem dL_law_861 : decode cL_law 861 = .ok (.iconst 1, 1) := by decide +kernel
theorem dL_law_862 : decode cL_law 862 = .ok (.iadd, 1) := by decide +kernel
theorem dL_law_863 : decode cL_law 863 = .ok (.iaload, 1) := by decide +kernel
theorem dL_law_864 : decode cL_law 864 = .ok (.aload_n 0, 1) := by decide +kernel
theorem dL_law_865 : decode cL_law 865 = .ok (.iload 4, 2) := by decide +kernel
theorem dL_law_867 : decode cL_law 867 = .ok (.iconst 2, 1) := by decide +kernel
theorem dL_law_868 : decode cL_law 868 = .ok (.iadd, 1) := by decide +kernel
theorem dL_law_869 : decode cL_law 869 = .ok (.iaload, 1) := by decide +kernel
theorem dL_law_870 : decode cL_law 870 = .ok (.aload_n 0, 1) := by decide +kernel
theorem dL_law_871 : decode cL_law 871 = .ok (.iload 4, 2) := by decide +kernel
theorem dL_law_873 : decode cL_law 873 = .ok (.iconst 3, 1) := by decide +kernel
theorem dL_law_874 : decode cL_law 874 = .ok (.iadd, 1) := by decide +kernel
theorem dL_law_875 : decode cL_law 875 = .ok (.iaload, 1) := by decide +kernel
theorem dL_law_876 : decode cL_law 876 = .ok (.invokevirtual 116, 3) := by decide +kernel
theorem dL_law_879 : decode cL_law 879 = .ok (.istore 6, 2) := by decide +kernel
theorem dL_law_881 : decode cL_law 881 = .ok (.aload_n 2, 1) := by decide +kernel
theorem dL_law_882 : decode cL_law 882 = .ok (.invokevirtual 81, 3) := by decide +kernel
theorem dL_law_885 : decode cL_law 885 = .ok (.iload 5, 2) := by decide +kernel
theorem dL_law_887 : decode cL_law 887 = .ok (.if_icmp .eq 5, 3) := by decide +kernel
theorem dL_law_890 : decode cL_law 890 = .ok (.iconst 0, 1) := by decide +kernel
theorem dL_law_891 : decode cL_law 891 = .ok (.ireturn, 1) := by decide +kernel
theorem dL_law_892 : decode cL_law 892 = .ok (.iload 5, 2) := by decide +kernel
theorem dL_law_894 : decode cL_law 894 = .ok (.ifCond .ne 15, 3) := by decide +kernel
theorem dL_law_897 : decode cL_law 897 = .ok (.aload_n 3, 1) := by decide +kernel
theorem dL_law_898 : decode cL_law 898 = .ok (.iconst 0, 1) := by decide +kernel
theorem dL_law_899 : decode cL_law 899 = .ok (.laload, 1) := by decide +kernel
theorem dL_law_900 : decode cL_law 900 = .ok (.iload 6, 2) := by decide +kernel
theorem dL_law_902 : decode cL_law 902 = .ok (.i2l, 1) := by decide +kernel
theorem dL_law_903 : decode cL_law 903 = .ok (.lcmp, 1) := by decide +kernel
theorem dL_law_904 : decode cL_law 904 = .ok (.ifCond .eq 5, 3) := by decide +kernel
theorem dL_law_907 : decode cL_law 907 = .ok (.iconst 0, 1) := by decide +kernel
theorem dL_law_908 : decode cL_law 908 = .ok (.ireturn, 1) := by decide +kernel
theorem dL_law_909 : decode cL_law 909 = .ok (.goto 406, 3) := by decide +kernel
theorem dL_law_912 : decode cL_law 912 = .ok (.aload_n 1, 1) := by decide +kernel
theorem dL_law_913 : decode cL_law 913 = .ok (.aload_n 3, 1) := by decide +kernel
theorem dL_law_914 : decode cL_law 914 = .ok (.invokestatic 117, 3) := by decide +kernel
theorem dL_law_917 : decode cL_law 917 = .ok (.istore 5, 2) := by decide +kernel
theorem dL_law_919 : decode cL_law 919 = .ok (.aload_n 2, 1) := by decide +kernel
theorem dL_law_920 : decode cL_law 920 = .ok (.invokevirtual 120, 3) := by decide +kernel
theorem dL_law_923 : decode cL_law 923 = .ok (.istore 6, 2) := by decide +kernel
theorem dL_law_925 : decode cL_law 925 = .ok (.aload_n 2, 1) := by decide +kernel
theorem dL_law_926 : decode cL_law 926 = .ok (.invokevirtual 81, 3) := by decide +kernel
theorem dL_law_929 : decode cL_law 929 = .ok (.iload 5, 2) := by decide +kernel
theorem dL_law_931 : decode cL_law 931 = .ok (.if_icmp .eq 5, 3) := by decide +kernel
theorem dL_law_934 : decode cL_law 934 = .ok (.iconst 0, 1) := by decide +kernel
theorem dL_law_935 : decode cL_law 935 = .ok (.ireturn, 1) := by decide +kernel
theorem dL_law_936 : decode cL_law 936 = .ok (.iload 5, 2) := by decide +kernel
theorem dL_law_938 : decode cL_law 938 = .ok (.ifCond .ne 15, 3) := by decide +kernel
theorem dL_law_941 : decode cL_law 941 = .ok (.aload_n 3, 1) := by decide +kernel
theorem dL_law_942 : decode cL_law 942 = .ok (.iconst 0, 1) := by decide +kernel
theorem dL_law_943 : decode cL_law 943 = .ok (.laload, 1) := by decide +kernel
theorem dL_law_944 : decode cL_law 944 = .ok (.iload 6, 2) := by decide +kernel
theorem dL_law_946 : decode cL_law 946 = .ok (.i2l, 1) := by decide +kernel
theorem dL_law_947 : decode cL_law 947 = .ok (.lcmp, 1) := by decide +kernel
theorem dL_law_948 : decode cL_law 948 = .ok (.ifCond .eq 5, 3) := by decide +kernel
theorem dL_law_951 : decode cL_law 951 = .ok (.iconst 0, 1) := by decide +kernel
theorem dL_law_952 : decode cL_law 952 = .ok (.ireturn, 1) := by decide +kernel
theorem dL_law_953 : decode cL_law 953 = .ok (.goto 362, 3) := by decide +kernel
theorem dL_law_956 : decode cL_law 956 = .ok (.aload_n 1, 1) := by decide +kernel
theorem dL_law_957 : decode cL_law 957 = .ok (.aload_n 0, 1) := by decide +kernel
theorem dL_law_958 : decode cL_law 958 = .ok (.iload 4, 2) := by decide +kernel
theorem dL_law_960 : decode cL_law 960 = .ok (.iconst 1, 1) := by decide +kernel
theorem dL_law_961 : decode cL_law 961 = .ok (.iadd, 1) := by decide +kernel
theorem dL_law_962 : decode cL_law 962 = .ok (.iaload, 1) := by decide +kernel
theorem dL_law_963 : decode cL_law 963 = .ok (.aload_n 3, 1) := by decide +kernel
theorem dL_law_964 : decode cL_law 964 = .ok (.invokestatic 121, 3) := by decide +kernel
theorem dL_law_967 : decode cL_law 967 = .ok (.istore 5, 2) := by decide +kernel
theorem dL_law_969 : decode cL_law 969 = .ok (.aload_n 2, 1) := by decide +kernel
theorem dL_law_970 : decode cL_law 970 = .ok (.aload_n 0, 1) := by decide +kernel
theorem dL_law_971 : decode cL_law 971 = .ok (.iload 4, 2) := by decide +kernel
theorem dL_law_973 : decode cL_law 973 = .ok (.iconst 1, 1) := by decide +kernel
theorem dL_law_974 : decode cL_law 974 = .ok (.iadd, 1) := by decide +kernel
theorem dL_law_975 : decode cL_law 975 = .ok (.iaload, 1) := by decide +kernel
theorem dL_law_976 : decode cL_law 976 = .ok (.invokevirtual 123, 3) := by decide +kernel
theorem dL_law_979 : decode cL_law 979 = .ok (.istore 6, 2) := by decide +kernel
theorem dL_law_981 : decode cL_law 981 = .ok (.aload_n 2, 1) := by decide +kernel
theorem dL_law_982 : decode cL_law 982 = .ok (.invokevirtual 81, 3) := by decide +kernel
theorem dL_law_985 : decode cL_law 985 = .ok (.iload 5, 2) := by decide +kernel
theorem dL_law_987 : decode cL_law 987 = .ok (.if_icmp .eq 5, 3) := by decide +kernel
theorem dL_law_990 : decode cL_law 990 = .ok (.iconst 0, 1) := by decide +kernel
theorem dL_law_991 : decode cL_law 991 = .ok (.ireturn, 1) := by decide +kernel
theorem dL_law_992 : decode cL_law 992 = .ok (.iload 5, 2) := by decide +kernel
theorem dL_law_994 : decode cL_law 994 = .ok (.ifCond .ne 15, 3) := by decide +kernel
theorem dL_law_997 : decode cL_law 997 = .ok (.aload_n 3, 1) := by decide +kernel
theorem dL_law_998 : decode cL_law 998 = .ok (.iconst 0, 1) := by decide +kernel
theorem dL_law_999 : decode cL_law 999 = .ok (.laload, 1) := by decide +kernel
theorem dL_law_1000 : decode cL_law 1000 = .ok (.iload 6, 2) := by decide +kernel
theorem dL_law_1002 : decode cL_law 1002 = .ok (.i2l, 1) := by decide +kernel
theorem dL_law_1003 : decode cL_law 1003 = .ok (.lcmp, 1) := by decide +kernel
theorem dL_law_1004 : decode cL_law 1004 = .ok (.ifCond .eq 5, 3) := by decide +kernel
theorem dL_law_1007 : decode cL_law 1007 = .ok (.iconst 0, 1) := by decide +kernel
theorem dL_law_1008 : decode cL_law 1008 = .ok (.ireturn, 1) := by decide +kernel
theorem dL_law_1009 : decode cL_law 1009 = .ok (.goto 306, 3) := by decide +kernel
theorem dL_law_1012 : decode cL_law 1012 = .ok (.aload_n 1, 1) := by decide +kernel
theorem dL_law_1013 : decode cL_law 1013 = .ok (.aload_n 0, 1) := by decide +kernel
theorem dL_law_1014 : decode cL_law 1014 = .ok (.iload 4, 2) := by decide +kernel
theorem dL_law_1016 : decode cL_law 1016 = .ok (.iconst 1, 1) := by decide +kernel
theorem dL_law_1017 : decode cL_law 1017 = .ok (.iadd, 1) := by decide +kernel
theorem dL_law_1018 : decode cL_law 1018 = .ok (.iaload, 1) := by decide +kernel
theorem dL_law_1019 : decode cL_law 1019 = .ok (.aload_n 3, 1) := by decide +kernel
theorem dL_law_1020 : decode cL_law 1020 = .ok (.invokestatic 124, 3) := by decide +kernel
theorem dL_law_1023 : decode cL_law 1023 = .ok (.istore 5, 2) := by decide +kernel
theorem dL_law_1025 : decode cL_law 1025 = .ok (.aload_n 2, 1) := by decide +kernel
theorem dL_law_1026 : decode cL_law 1026 = .ok (.aload_n 0, 1) := by decide +kernel
theorem dL_law_1027 : decode cL_law 1027 = .ok (.iload 4, 2) := by decide +kernel
theorem dL_law_1029 : decode cL_law 1029 = .ok (.iconst 1, 1) := by decide +kernel
theorem dL_law_1030 : decode cL_law 1030 = .ok (.iadd, 1) := by decide +kernel
theorem dL_law_1031 : decode cL_law 1031 = .ok (.iaload, 1) := by decide +kernel
theorem dL_law_1032 : decode cL_law 1032 = .ok (.invokevirtual 126, 3) := by decide +kernel
theorem dL_law_1035 : decode cL_law 1035 = .ok (.istore 6, 2) := by decide +kernel
theorem dL_law_1037 : decode cL_law 1037 = .ok (.aload_n 2, 1) := by decide +kernel
theorem dL_law_1038 : decode cL_law 1038 = .ok (.invokevirtual 81, 3) := by decide +kernel
theorem dL_law_1041 : decode cL_law 1041 = .ok (.iload 5, 2) := by decide +kernel
theorem dL_law_1043 : decode cL_law 1043 = .ok (.if_icmp .eq 5, 3) := by decide +kernel
theorem dL_law_1046 : decode cL_law 1046 = .ok (.iconst 0, 1) := by decide +kernel
theorem dL_law_1047 : decode cL_law 1047 = .ok (.ireturn, 1) := by decide +kernel
theorem dL_law_1048 : decode cL_law 1048 = .ok (.iload 5, 2) := by decide +kernel
theorem dL_law_1050 : decode cL_law 1050 = .ok (.ifCond .ne 15, 3) := by decide +kernel
theorem dL_law_1053 : decode cL_law 1053 = .ok (.aload_n 3, 1) := by decide +kernel
theorem dL_law_1054 : decode cL_law 1054 = .ok (.iconst 0, 1) := by decide +kernel
theorem dL_law_1055 : decode cL_law 1055 = .ok (.laload, 1) := by decide +kernel
theorem dL_law_1056 : decode cL_law 1056 = .ok (.iload 6, 2) := by decide +kernel
theorem dL_law_1058 : decode cL_law 1058 = .ok (.i2l, 1) := by decide +kernel
theorem dL_law_1059 : decode cL_law 1059 = .ok (.lcmp, 1) := by decide +kernel
theorem dL_law_1060 : decode cL_law 1060 = .ok (.ifCond .eq 5, 3) := by decide +kernel
theorem dL_law_1063 : decode cL_law 1063 = .ok (.iconst 0, 1) := by decide +kernel
theorem dL_law_1064 : decode cL_law 1064 = .ok (.ireturn, 1) := by decide +kernel
theorem dL_law_1065 : decode cL_law 1065 = .ok (.goto 250, 3) := by decide +kernel
theorem dL_law_1068 : decode cL_law 1068 = .ok (.aload_n 1, 1) := by decide +kernel
theorem dL_law_1069 : decode cL_law 1069 = .ok (.aload_n 0, 1) := by decide +kernel
theorem dL_law_1070 : decode cL_law 1070 = .ok (.iload 4, 2) := by decide +kernel
theorem dL_law_1072 : decode cL_law 1072 = .ok (.iconst 1, 1) := by decide +kernel
theorem dL_law_1073 : decode cL_law 1073 = .ok (.iadd, 1) := by decide +kernel
theorem dL_law_1074 : decode cL_law 1074 = .ok (.iaload, 1) := by decide +kernel
theorem dL_law_1075 : decode cL_law 1075 = .ok (.aload_n 0, 1) := by decide +kernel
theorem dL_law_1076 : decode cL_law 1076 = .ok (.iload 4, 2) := by decide +kernel
theorem dL_law_1078 : decode cL_law 1078 = .ok (.iconst 2, 1) := by decide +kernel
theorem dL_law_1079 : decode cL_law 1079 = .ok (.iadd, 1) := by decide +kernel
theorem dL_law_1080 : decode cL_law 1080 = .ok (.iaload, 1) := by decide +kernel
theorem dL_law_1081 : decode cL_law 1081 = .ok (.aload_n 0, 1) := by decide +kernel
theorem dL_law_1082 : decode cL_law 1082 = .ok (.iload 4, 2) := by decide +kernel
theorem dL_law_1084 : decode cL_law 1084 = .ok (.iconst 3, 1) := by decide +kernel
theorem dL_law_1085 : decode cL_law 1085 = .ok (.iadd, 1) := by decide +kernel
theorem dL_law_1086 : decode cL_law 1086 = .ok (.iaload, 1) := by decide +kernel
theorem dL_law_1087 : decode cL_law 1087 = .ok (.aload_n 3, 1) := by decide +kernel
theorem dL_law_1088 : decode cL_law 1088 = .ok (.invokestatic 127, 3) := by decide +kernel
theorem dL_law_1091 : decode cL_law 1091 = .ok (.istore 5, 2) := by decide +kernel
theorem dL_law_1093 : decode cL_law 1093 = .ok (.aload_n 2, 1) := by decide +kernel
theorem dL_law_1094 : decode cL_law 1094 = .ok (.aload_n 0, 1) := by decide +kernel
theorem dL_law_1095 : decode cL_law 1095 = .ok (.iload 4, 2) := by decide +kernel
theorem dL_law_1097 : decode cL_law 1097 = .ok (.iconst 1, 1) := by decide +kernel
theorem dL_law_1098 : decode cL_law 1098 = .ok (.iadd, 1) := by decide +kernel
theorem dL_law_1099 : decode cL_law 1099 = .ok (.iaload, 1) := by decide +kernel
theorem dL_law_1100 : decode cL_law 1100 = .ok (.aload_n 0, 1) := by decide +kernel
theorem dL_law_1101 : decode cL_law 1101 = .ok (.iload 4, 2) := by decide +kernel
theorem dL_law_1103 : decode cL_law 1103 = .ok (.iconst 2, 1) := by decide +kernel
theorem dL_law_1104 : decode cL_law 1104 = .ok (.iadd, 1) := by decide +kernel
theorem dL_law_1105 : decode cL_law 1105 = .ok (.iaload, 1) := by decide +kernel
theorem dL_law_1106 : decode cL_law 1106 = .ok (.aload_n 0, 1) := by decide +kernel
theorem dL_law_1107 : decode cL_law 1107 = .ok (.iload 4, 2) := by decide +kernel
theorem dL_law_1109 : decode cL_law 1109 = .ok (.iconst 3, 1) := by decide +kernel
theorem dL_law_1110 : decode cL_law 1110 = .ok (.iadd, 1) := by decide +kernel
theorem dL_law_1111 : decode cL_law 1111 = .ok (.iaload, 1) := by decide +kernel
theorem dL_law_1112 : decode cL_law 1112 = .ok (.invokevirtual 129, 3) := by decide +kernel
theorem dL_law_1115 : decode cL_law 1115 = .ok (.istore 6, 2) := by decide +kernel
theorem dL_law_1117 : decode cL_law 1117 = .ok (.aload_n 2, 1) := by decide +kernel
theorem dL_law_1118 : decode cL_law 1118 = .ok (.invokevirtual 81, 3) := by decide +kernel
theorem dL_law_1121 : decode cL_law 1121 = .ok (.iload 5, 2) := by decide +kernel
theorem dL_law_1123 : decode cL_law 1123 = .ok (.if_icmp .eq 5, 3) := by decide +kernel
theorem dL_law_1126 : decode cL_law 1126 = .ok (.iconst 0, 1) := by decide +kernel
theorem dL_law_1127 : decode cL_law 1127 = .ok (.ireturn, 1) := by decide +kernel
theorem dL_law_1128 : decode cL_law 1128 = .ok (.iload 5, 2) := by decide +kernel
theorem dL_law_1130 : decode cL_law 1130 = .ok (.ifCond .ne 15, 3) := by decide +kernel
theorem dL_law_1133 : decode cL_law 1133 = .ok (.aload_n 3, 1) := by decide +kernel
theorem dL_law_1134 : decode cL_law 1134 = .ok (.iconst 0, 1) := by decide +kernel
theorem dL_law_1135 : decode cL_law 1135 = .ok (.laload, 1) := by decide +kernel
theorem dL_law_1136 : decode cL_law 1136 = .ok (.iload 6, 2) := by decide +kernel
theorem dL_law_1138 : decode cL_law 1138 = .ok (.i2l, 1) := by decide +kernel
theorem dL_law_1139 : decode cL_law 1139 = .ok (.lcmp, 1) := by decide +kernel
theorem dL_law_1140 : decode cL_law 1140 = .ok (.ifCond .eq 5, 3) := by decide +kernel
theorem dL_law_1143 : decode cL_law 1143 = .ok (.iconst 0, 1) := by decide +kernel
theorem dL_law_1144 : decode cL_law 1144 = .ok (.ireturn, 1) := by decide +kernel
theorem dL_law_1145 : decode cL_law 1145 = .ok (.goto 170, 3) := by decide +kernel
theorem dL_law_1148 : decode cL_law 1148 = .ok (.aload_n 1, 1) := by decide +kernel
theorem dL_law_1149 : decode cL_law 1149 = .ok (.aload_n 0, 1) := by decide +kernel
theorem dL_law_1150 : decode cL_law 1150 = .ok (.iload 4, 2) := by decide +kernel
theorem dL_law_1152 : decode cL_law 1152 = .ok (.iconst 1, 1) := by decide +kernel
theorem dL_law_1153 : decode cL_law 1153 = .ok (.iadd, 1) := by decide +kernel
theorem dL_law_1154 : decode cL_law 1154 = .ok (.iaload, 1) := by decide +kernel
theorem dL_law_1155 : decode cL_law 1155 = .ok (.aload_n 3, 1) := by decide +kernel
theorem dL_law_1156 : decode cL_law 1156 = .ok (.invokestatic 130, 3) := by decide +kernel
theorem dL_law_1159 : decode cL_law 1159 = .ok (.istore 5, 2) := by decide +kernel
theorem dL_law_1161 : decode cL_law 1161 = .ok (.aload_n 2, 1) := by decide +kernel
theorem dL_law_1162 : decode cL_law 1162 = .ok (.aload_n 0, 1) := by decide +kernel
theorem dL_law_1163 : decode cL_law 1163 = .ok (.iload 4, 2) := by decide +kernel
theorem dL_law_1165 : decode cL_law 1165 = .ok (.iconst 1, 1) := by decide +kernel
theorem dL_law_1166 : decode cL_law 1166 = .ok (.iadd, 1) := by decide +kernel
theorem dL_law_1167 : decode cL_law 1167 = .ok (.iaload, 1) := by decide +kernel
theorem dL_law_1168 : decode cL_law 1168 = .ok (.invokevirtual 132, 3) := by decide +kernel
theorem dL_law_1171 : decode cL_law 1171 = .ok (.istore 6, 2) := by decide +kernel
theorem dL_law_1173 : decode cL_law 1173 = .ok (.aload_n 2, 1) := by decide +kernel
theorem dL_law_1174 : decode cL_law 1174 = .ok (.invokevirtual 81, 3) := by decide +kernel
theorem dL_law_1177 : decode cL_law 1177 = .ok (.iload 5, 2) := by decide +kernel
theorem dL_law_1179 : decode cL_law 1179 = .ok (.if_icmp .eq 5, 3) := by decide +kernel
theorem dL_law_1182 : decode cL_law 1182 = .ok (.iconst 0, 1) := by decide +kernel
theorem dL_law_1183 : decode cL_law 1183 = .ok (.ireturn, 1) := by decide +kernel
theorem dL_law_1184 : decode cL_law 1184 = .ok (.iload 5, 2) := by decide +kernel
theorem dL_law_1186 : decode cL_law 1186 = .ok (.ifCond .ne 15, 3) := by decide +kernel
theorem dL_law_1189 : decode cL_law 1189 = .ok (.aload_n 3, 1) := by decide +kernel
theorem dL_law_1190 : decode cL_law 1190 = .ok (.iconst 0, 1) := by decide +kernel
theorem dL_law_1191 : decode cL_law 1191 = .ok (.laload, 1) := by decide +kernel
theorem dL_law_1192 : decode cL_law 1192 = .ok (.iload 6, 2) := by decide +kernel
theorem dL_law_1194 : decode cL_law 1194 = .ok (.i2l, 1) := by decide +kernel
theorem dL_law_1195 : decode cL_law 1195 = .ok (.lcmp, 1) := by decide +kernel
theorem dL_law_1196 : decode cL_law 1196 = .ok (.ifCond .eq 5, 3) := by decide +kernel
theorem dL_law_1199 : decode cL_law 1199 = .ok (.iconst 0, 1) := by decide +kernel
theorem dL_law_1200 : decode cL_law 1200 = .ok (.ireturn, 1) := by decide +kernel
theorem dL_law_1201 : decode cL_law 1201 = .ok (.goto 114, 3) := by decide +kernel
theorem dL_law_1204 : decode cL_law 1204 = .ok (.aload_n 1, 1) := by decide +kernel
theorem dL_law_1205 : decode cL_law 1205 = .ok (.aload_n 0, 1) := by decide +kernel
theorem dL_law_1206 : decode cL_law 1206 = .ok (.iload 4, 2) := by decide +kernel
theorem dL_law_1208 : decode cL_law 1208 = .ok (.iconst 1, 1) := by decide +kernel
theorem dL_law_1209 : decode cL_law 1209 = .ok (.iadd, 1) := by decide +kernel
theorem dL_law_1210 : decode cL_law 1210 = .ok (.iaload, 1) := by decide +kernel
theorem dL_law_1211 : decode cL_law 1211 = .ok (.aload_n 3, 1) := by decide +kernel
theorem dL_law_1212 : decode cL_law 1212 = .ok (.invokestatic 133, 3) := by decide +kernel
theorem dL_law_1215 : decode cL_law 1215 = .ok (.istore 5, 2) := by decide +kernel
theorem dL_law_1217 : decode cL_law 1217 = .ok (.aload_n 2, 1) := by decide +kernel
theorem dL_law_1218 : decode cL_law 1218 = .ok (.aload_n 0, 1) := by decide +kernel
theorem dL_law_1219 : decode cL_law 1219 = .ok (.iload 4, 2) := by decide +kernel
theorem dL_law_1221 : decode cL_law 1221 = .ok (.iconst 1, 1) := by decide +kernel
theorem dL_law_1222 : decode cL_law 1222 = .ok (.iadd, 1) := by decide +kernel
theorem dL_law_1223 : decode cL_law 1223 = .ok (.iaload, 1) := by decide +kernel
theorem dL_law_1224 : decode cL_law 1224 = .ok (.invokevirtual 135, 3) := by decide +kernel
theorem dL_law_1227 : decode cL_law 1227 = .ok (.istore 6, 2) := by decide +kernel
theorem dL_law_1229 : decode cL_law 1229 = .ok (.aload_n 2, 1) := by decide +kernel
theorem dL_law_1230 : decode cL_law 1230 = .ok (.invokevirtual 81, 3) := by decide +kernel
theorem dL_law_1233 : decode cL_law 1233 = .ok (.iload 5, 2) := by decide +kernel
theorem dL_law_1235 : decode cL_law 1235 = .ok (.if_icmp .eq 5, 3) := by decide +kernel
theorem dL_law_1238 : decode cL_law 1238 = .ok (.iconst 0, 1) := by decide +kernel
theorem dL_law_1239 : decode cL_law 1239 = .ok (.ireturn, 1) := by decide +kernel
theorem dL_law_1240 : decode cL_law 1240 = .ok (.iload 5, 2) := by decide +kernel
theorem dL_law_1242 : decode cL_law 1242 = .ok (.ifCond .ne 15, 3) := by decide +kernel
theorem dL_law_1245 : decode cL_law 1245 = .ok (.aload_n 3, 1) := by decide +kernel
theorem dL_law_1246 : decode cL_law 1246 = .ok (.iconst 0, 1) := by decide +kernel
theorem dL_law_1247 : decode cL_law 1247 = .ok (.laload, 1) := by decide +kernel
theorem dL_law_1248 : decode cL_law 1248 = .ok (.iload 6, 2) := by decide +kernel
theorem dL_law_1250 : decode cL_law 1250 = .ok (.i2l, 1) := by decide +kernel
theorem dL_law_1251 : decode cL_law 1251 = .ok (.lcmp, 1) := by decide +kernel
theorem dL_law_1252 : decode cL_law 1252 = .ok (.ifCond .eq 5, 3) := by decide +kernel
theorem dL_law_1255 : decode cL_law 1255 = .ok (.iconst 0, 1) := by decide +kernel
theorem dL_law_1256 : decode cL_law 1256 = .ok (.ireturn, 1) := by decide +kernel
theorem dL_law_1257 : decode cL_law 1257 = .ok (.goto 58, 3) := by decide +kernel
theorem dL_law_1260 : decode cL_law 1260 = .ok (.aload_n 1, 1) := by decide +kernel
theorem dL_law_1261 : decode cL_law 1261 = .ok (.invokevirtual 136, 3) := by decide +kernel
theorem dL_law_1264 : decode cL_law 1264 = .ok (.dstore 5, 2) := by decide +kernel
theorem dL_law_1266 : decode cL_law 1266 = .ok (.aload_n 2, 1) := by decide +kernel
theorem dL_law_1267 : decode cL_law 1267 = .ok (.invokevirtual 140, 3) := by decide +kernel
theorem dL_law_1270 : decode cL_law 1270 = .ok (.dstore 7, 2) := by decide +kernel
theorem dL_law_1272 : decode cL_law 1272 = .ok (.dload 5, 2) := by decide +kernel
theorem dL_law_1274 : decode cL_law 1274 = .ok (.dload 7, 2) := by decide +kernel
theorem dL_law_1276 : decode cL_law 1276 = .ok (.dcmp .l, 1) := by decide +kernel
theorem dL_law_1277 : decode cL_law 1277 = .ok (.ifCond .eq 21, 3) := by decide +kernel
theorem dL_law_1280 : decode cL_law 1280 = .ok (.dload 5, 2) := by decide +kernel
theorem dL_law_1282 : decode cL_law 1282 = .ok (.dload 5, 2) := by decide +kernel
theorem dL_law_1284 : decode cL_law 1284 = .ok (.dcmp .l, 1) := by decide +kernel
theorem dL_law_1285 : decode cL_law 1285 = .ok (.ifCond .eq 11, 3) := by decide +kernel
theorem dL_law_1288 : decode cL_law 1288 = .ok (.dload 7, 2) := by decide +kernel
theorem dL_law_1290 : decode cL_law 1290 = .ok (.dload 7, 2) := by decide +kernel
theorem dL_law_1292 : decode cL_law 1292 = .ok (.dcmp .l, 1) := by decide +kernel
theorem dL_law_1293 : decode cL_law 1293 = .ok (.ifCond .ne 5, 3) := by decide +kernel
theorem dL_law_1296 : decode cL_law 1296 = .ok (.iconst 0, 1) := by decide +kernel
theorem dL_law_1297 : decode cL_law 1297 = .ok (.ireturn, 1) := by decide +kernel
theorem dL_law_1298 : decode cL_law 1298 = .ok (.goto 17, 3) := by decide +kernel
theorem dL_law_1301 : decode cL_law 1301 = .ok (.aload_n 1, 1) := by decide +kernel
theorem dL_law_1302 : decode cL_law 1302 = .ok (.invokevirtual 141, 3) := by decide +kernel
theorem dL_law_1305 : decode cL_law 1305 = .ok (.aload_n 2, 1) := by decide +kernel
theorem dL_law_1306 : decode cL_law 1306 = .ok (.invokevirtual 145, 3) := by decide +kernel
theorem dL_law_1309 : decode cL_law 1309 = .ok (.lcmp, 1) := by decide +kernel
theorem dL_law_1310 : decode cL_law 1310 = .ok (.ifCond .eq 5, 3) := by decide +kernel
theorem dL_law_1313 : decode cL_law 1313 = .ok (.iconst 0, 1) := by decide +kernel
theorem dL_law_1314 : decode cL_law 1314 = .ok (.ireturn, 1) := by decide +kernel
theorem dL_law_1315 : decode cL_law 1315 = .ok (.iinc 4 5, 3) := by decide +kernel
theorem dL_law_1318 : decode cL_law 1318 = .ok (.goto (-1295), 3) := by decide +kernel
theorem dL_law_1321 : decode cL_law 1321 = .ok (.iconst 1, 1) := by decide +kernel
theorem dL_law_1322 : decode cL_law 1322 = .ok (.ireturn, 1) := by decide +kernel
end
section
set_option maxRecDepth 20000 in
theorem bd_good : wsL_law.all goodWord = true := by decide +kernel
theorem bd_goodW : ∀ w ∈ wsL_law, (w.onTables && w.keeps) = true ∨ ∃ ty, w = .arrayClass ty := fun w h => good_of_word (List.all_eq_true.mp bd_good w h)
theorem qr_0 : ∀ w ∈ wsL_law0, w ∈ wsL_law := fun _ h => List.mem_append_left _ (List.mem_append_left _ (List.mem_append_left _ h))
theorem qr_1 : ∀ w ∈ wsL_law0_r1, w ∈ wsL_law := fun w h => qr_0 w (List.mem_append_left _ (List.mem_append_left _ (List.mem_append_left _ (List.mem_append_left _ (List.mem_append_left _ (List.mem_append_left _ (List.mem_append_left _ (List.mem_append_left _ (List.mem_append_left _ (List.mem_append_left _ h))))))))))
theorem qr_2 : ∀ w ∈ wsL_law0_r2, w ∈ wsL_law := fun w h => qr_0 w (List.mem_append_left _ (List.mem_append_left _ (List.mem_append_left _ (List.mem_append_left _ (List.mem_append_left _ (List.mem_append_left _ (List.mem_append_left _ (List.mem_append_left _ (List.mem_append_left _ (List.mem_append_right _ (List.mem_append_left _ h)))))))))))
theorem qr_3 : ∀ w ∈ wsL_law0_r3, w ∈ wsL_law := fun w h => qr_0 w (List.mem_append_left _ (List.mem_append_left _ (List.mem_append_left _ (List.mem_append_left _ (List.mem_append_left _ (List.mem_append_left _ (List.mem_append_left _ (List.mem_append_left _ (List.mem_append_left _ (List.mem_append_right _ (List.mem_append_right _ (List.mem_append_left _ h))))))))))))
theorem qr_4 : ∀ w ∈ wsL_law0_r4, w ∈ wsL_law := fun w h => qr_0 w (List.mem_append_left _ (List.mem_append_left _ (List.mem_append_left _ (List.mem_append_left _ (List.mem_append_left _ (List.mem_append_left _ (List.mem_append_left _ (List.mem_append_left _ (List.mem_append_left _ (List.mem_append_right _ (List.mem_append_right _ (List.mem_append_right _ (List.mem_append_left _ h)))))))))))))
theorem qr_5 : ∀ w ∈ wsL_law0_r5, w ∈ wsL_law := fun w h => qr_0 w (List.mem_append_left _ (List.mem_append_left _ (List.mem_append_left _ (List.mem_append_left _ (List.mem_append_left _ (List.mem_append_left _ (List.mem_append_left _ (List.mem_append_left _ (List.mem_append_left _ (List.mem_append_right _ (List.mem_append_right _ (List.mem_append_right _ (List.mem_append_right _ (List.mem_append_left _ h))))))))))))))
theorem qr_6 : ∀ w ∈ wsL_law0_r6, w ∈ wsL_law := fun w h => qr_0 w (List.mem_append_left _ (List.mem_append_left _ (List.mem_append_left _ (List.mem_append_left _ (List.mem_append_left _ (List.mem_append_left _ (List.mem_append_left _ (List.mem_append_left _ (List.mem_append_left _ (List.mem_append_right _ (List.mem_append_right _ (List.mem_append_right _ (List.mem_append_right _ (List.mem_append_right _ (List.mem_append_left _ h)))))))))))))))
theorem qr_7 : ∀ w ∈ wsL_law0_r7, w ∈ wsL_law := fun w h => qr_0 w (List.mem_append_left _ (List.mem_append_left _ (List.mem_append_left _ (List.mem_append_left _ (List.mem_append_left _ (List.mem_append_left _ (List.mem_append_left _ (List.mem_append_left _ (List.mem_append_left _ (List.mem_append_right _ (List.mem_append_right _ (List.mem_append_right _ (List.mem_append_right _ (List.mem_append_right _ (List.mem_append_right _ (List.mem_append_left _ h))))))))))))))))
theorem qr_8 : ∀ w ∈ wsL_law0_r8, w ∈ wsL_law := fun w h => qr_0 w (List.mem_append_left _ (List.mem_append_left _ (List.mem_append_left _ (List.mem_append_left _ (List.mem_append_left _ (List.mem_append_left _ (List.mem_append_left _ (List.mem_append_left _ (List.mem_append_left _ (List.mem_append_right _ (List.mem_append_right _ (List.mem_append_right _ (List.mem_append_right _ (List.mem_append_right _ (List.mem_append_right _ (List.mem_append_right _ (List.mem_append_left _ h)))))))))))))))))
theorem qr_9 : ∀ w ∈ wsL_law0_r9, w ∈ wsL_law := fun w h => qr_0 w (List.mem_append_left _ (List.mem_append_left _ (List.mem_append_left _ (List.mem_append_left _ (List.mem_append_left _ (List.mem_append_left _ (List.mem_append_left _ (List.mem_append_left _ (List.mem_append_left _ (List.mem_append_right _ (List.mem_append_right _ (List.mem_append_right _ (List.mem_append_right _ (List.mem_append_right _ (List.mem_append_right _ (List.mem_append_right _ (List.mem_append_right _ (List.mem_append_left _ h))))))))))))))))))
theorem qr_10 : ∀ w ∈ wsL_law0_r10, w ∈ wsL_law := fun w h => qr_0 w (List.mem_append_left _ (List.mem_append_left _ (List.mem_append_left _ (List.mem_append_left _ (List.mem_append_left _ (List.mem_append_left _ (List.mem_append_left _ (List.mem_append_left _ (List.mem_append_left _ (List.mem_append_right _ (List.mem_append_right _ (List.mem_append_right _ (List.mem_append_right _ (List.mem_append_right _ (List.mem_append_right _ (List.mem_append_right _ (List.mem_append_right _ (List.mem_append_right _ (List.mem_append_left _ h)))))))))))))))))))
theorem qr_11 : ∀ w ∈ wsL_law0_r11, w ∈ wsL_law := fun w h => qr_0 w (List.mem_append_left _ (List.mem_append_left _ (List.mem_append_left _ (List.mem_append_left _ (List.mem_append_left _ (List.mem_append_left _ (List.mem_append_left _ (List.mem_append_left _ (List.mem_append_left _ (List.mem_append_right _ (List.mem_append_right _ (List.mem_append_right _ (List.mem_append_right _ (List.mem_append_right _ (List.mem_append_right _ (List.mem_append_right _ (List.mem_append_right _ (List.mem_append_right _ (List.mem_append_right _ (List.mem_append_left _ h))))))))))))))))))))
theorem qr_12 : ∀ w ∈ wsL_law0_r12, w ∈ wsL_law := fun w h => qr_0 w (List.mem_append_left _ (List.mem_append_left _ (List.mem_append_left _ (List.mem_append_left _ (List.mem_append_left _ (List.mem_append_left _ (List.mem_append_left _ (List.mem_append_left _ (List.mem_append_left _ (List.mem_append_right _ (List.mem_append_right _ (List.mem_append_right _ (List.mem_append_right _ (List.mem_append_right _ (List.mem_append_right _ (List.mem_append_right _ (List.mem_append_right _ (List.mem_append_right _ (List.mem_append_right _ (List.mem_append_right _ (List.mem_append_left _ h)))))))))))))))))))))
theorem qr_13 : ∀ w ∈ wsL_law0_r13, w ∈ wsL_law := fun w h => qr_0 w (List.mem_append_left _ (List.mem_append_left _ (List.mem_append_left _ (List.mem_append_left _ (List.mem_append_left _ (List.mem_append_left _ (List.mem_append_left _ (List.mem_append_left _ (List.mem_append_left _ (List.mem_append_right _ (List.mem_append_right _ (List.mem_append_right _ (List.mem_append_right _ (List.mem_append_right _ (List.mem_append_right _ (List.mem_append_right _ (List.mem_append_right _ (List.mem_append_right _ (List.mem_append_right _ (List.mem_append_right _ (List.mem_append_right _ (List.mem_append_left _ h))))))))))))))))))))))
theorem qr_14 : ∀ w ∈ wsL_law0_r14, w ∈ wsL_law := fun w h => qr_0 w (List.mem_append_left _ (List.mem_append_left _ (List.mem_append_left _ (List.mem_append_left _ (List.mem_append_left _ (List.mem_append_left _ (List.mem_append_left _ (List.mem_append_left _ (List.mem_append_left _ (List.mem_append_right _ (List.mem_append_right _ (List.mem_append_right _ (List.mem_append_right _ (List.mem_append_right _ (List.mem_append_right _ (List.mem_append_right _ (List.mem_append_right _ (List.mem_append_right _ (List.mem_append_right _ (List.mem_append_right _ (List.mem_append_right _ (List.mem_append_right _ (List.mem_append_left _ h)))))))))))))))))))))))
theorem qr_15 : ∀ w ∈ wsL_law0_r15, w ∈ wsL_law := fun w h => qr_0 w (List.mem_append_left _ (List.mem_append_left _ (List.mem_append_left _ (List.mem_append_left _ (List.mem_append_left _ (List.mem_append_left _ (List.mem_append_left _ (List.mem_append_left _ (List.mem_append_left _ (List.mem_append_right _ (List.mem_append_right _ (List.mem_append_right _ (List.mem_append_right _ (List.mem_append_right _ (List.mem_append_right _ (List.mem_append_right _ (List.mem_append_right _ (List.mem_append_right _ (List.mem_append_right _ (List.mem_append_right _ (List.mem_append_right _ (List.mem_append_right _ (List.mem_append_right _ (List.mem_append_left _ h))))))))))))))))))))))))
theorem qr_16 : ∀ w ∈ wsL_law0_r16, w ∈ wsL_law := fun w h => qr_0 w (List.mem_append_left _ (List.mem_append_left _ (List.mem_append_left _ (List.mem_append_left _ (List.mem_append_left _ (List.mem_append_left _ (List.mem_append_left _ (List.mem_append_left _ (List.mem_append_left _ (List.mem_append_right _ (List.mem_append_right _ (List.mem_append_right _ (List.mem_append_right _ (List.mem_append_right _ (List.mem_append_right _ (List.mem_append_right _ (List.mem_append_right _ (List.mem_append_right _ (List.mem_append_right _ (List.mem_append_right _ (List.mem_append_right _ (List.mem_append_right _ (List.mem_append_right _ (List.mem_append_right _ (List.mem_append_left _ h)))))))))))))))))))))))))
theorem qr_17 : ∀ w ∈ wsL_law0_r17, w ∈ wsL_law := fun w h => qr_0 w (List.mem_append_left _ (List.mem_append_left _ (List.mem_append_left _ (List.mem_append_left _ (List.mem_append_left _ (List.mem_append_left _ (List.mem_append_left _ (List.mem_append_left _ (List.mem_append_left _ (List.mem_append_right _ (List.mem_append_right _ (List.mem_append_right _ (List.mem_append_right _ (List.mem_append_right _ (List.mem_append_right _ (List.mem_append_right _ (List.mem_append_right _ (List.mem_append_right _ (List.mem_append_right _ (List.mem_append_right _ (List.mem_append_right _ (List.mem_append_right _ (List.mem_append_right _ (List.mem_append_right _ (List.mem_append_right _ (List.mem_append_left _ h))))))))))))))))))))))))))
theorem qr_18 : ∀ w ∈ wsL_law0_r18, w ∈ wsL_law := fun w h => qr_0 w (List.mem_append_left _ (List.mem_append_left _ (List.mem_append_left _ (List.mem_append_left _ (List.mem_append_left _ (List.mem_append_left _ (List.mem_append_left _ (List.mem_append_left _ (List.mem_append_left _ (List.mem_append_right _ (List.mem_append_right _ (List.mem_append_right _ (List.mem_append_right _ (List.mem_append_right _ (List.mem_append_right _ (List.mem_append_right _ (List.mem_append_right _ (List.mem_append_right _ (List.mem_append_right _ (List.mem_append_right _ (List.mem_append_right _ (List.mem_append_right _ (List.mem_append_right _ (List.mem_append_right _ (List.mem_append_right _ (List.mem_append_right _ (List.mem_append_left _ h)))))))))))))))))))))))))))
theorem qr_19 : ∀ w ∈ wsL_law0_r19, w ∈ wsL_law := fun w h => qr_0 w (List.mem_append_left _ (List.mem_append_left _ (List.mem_append_left _ (List.mem_append_left _ (List.mem_append_left _ (List.mem_append_left _ (List.mem_append_left _ (List.mem_append_left _ (List.mem_append_left _ (List.mem_append_right _ (List.mem_append_right _ (List.mem_append_right _ (List.mem_append_right _ (List.mem_append_right _ (List.mem_append_right _ (List.mem_append_right _ (List.mem_append_right _ (List.mem_append_right _ (List.mem_append_right _ (List.mem_append_right _ (List.mem_append_right _ (List.mem_append_right _ (List.mem_append_right _ (List.mem_append_right _ (List.mem_append_right _ (List.mem_append_right _ (List.mem_append_right _ (List.mem_append_left _ h))))))))))))))))))))))))))))
theorem qr_20 : ∀ w ∈ wsL_law0_r20, w ∈ wsL_law := fun w h => qr_0 w (List.mem_append_left _ (List.mem_append_left _ (List.mem_append_left _ (List.mem_append_left _ (List.mem_append_left _ (List.mem_append_left _ (List.mem_append_left _ (List.mem_append_left _ (List.mem_append_left _ (List.mem_append_right _ (List.mem_append_right _ (List.mem_append_right _ (List.mem_append_right _ (List.mem_append_right _ (List.mem_append_right _ (List.mem_append_right _ (List.mem_append_right _ (List.mem_append_right _ (List.mem_append_right _ (List.mem_append_right _ (List.mem_append_right _ (List.mem_append_right _ (List.mem_append_right _ (List.mem_append_right _ (List.mem_append_right _ (List.mem_append_right _ (List.mem_append_right _ (List.mem_append_right _ (List.mem_append_left _ h)))))))))))))))))))))))))))))
theorem qr_21 : ∀ w ∈ wsL_law0_r21, w ∈ wsL_law := fun w h => qr_0 w (List.mem_append_left _ (List.mem_append_left _ (List.mem_append_left _ (List.mem_append_left _ (List.mem_append_left _ (List.mem_append_left _ (List.mem_append_left _ (List.mem_append_left _ (List.mem_append_left _ (List.mem_append_right _ (List.mem_append_right _ (List.mem_append_right _ (List.mem_append_right _ (List.mem_append_right _ (List.mem_append_right _ (List.mem_append_right _ (List.mem_append_right _ (List.mem_append_right _ (List.mem_append_right _ (List.mem_append_right _ (List.mem_append_right _ (List.mem_append_right _ (List.mem_append_right _ (List.mem_append_right _ (List.mem_append_right _ (List.mem_append_right _ (List.mem_append_right _ (List.mem_append_right _ (List.mem_append_right _ (List.mem_append_left _ h))))))))))))))))))))))))))))))
theorem qr_22 : ∀ w ∈ wsL_law0_r22, w ∈ wsL_law := fun w h => qr_0 w (List.mem_append_left _ (List.mem_append_left _ (List.mem_append_left _ (List.mem_append_left _ (List.mem_append_left _ (List.mem_append_left _ (List.mem_append_left _ (List.mem_append_left _ (List.mem_append_left _ (List.mem_append_right _ (List.mem_append_right _ (List.mem_append_right _ (List.mem_append_right _ (List.mem_append_right _ (List.mem_append_right _ (List.mem_append_right _ (List.mem_append_right _ (List.mem_append_right _ (List.mem_append_right _ (List.mem_append_right _ (List.mem_append_right _ (List.mem_append_right _ (List.mem_append_right _ (List.mem_append_right _ (List.mem_append_right _ (List.mem_append_right _ (List.mem_append_right _ (List.mem_append_right _ (List.mem_append_right _ (List.mem_append_right _ (List.mem_append_left _ h)))))))))))))))))))))))))))))))
theorem qr_23 : ∀ w ∈ wsL_law0_r23, w ∈ wsL_law := fun w h => qr_0 w (List.mem_append_left _ (List.mem_append_left _ (List.mem_append_left _ (List.mem_append_left _ (List.mem_append_left _ (List.mem_append_left _ (List.mem_append_left _ (List.mem_append_left _ (List.mem_append_left _ (List.mem_append_right _ (List.mem_append_right _ (List.mem_append_right _ (List.mem_append_right _ (List.mem_append_right _ (List.mem_append_right _ (List.mem_append_right _ (List.mem_append_right _ (List.mem_append_right _ (List.mem_append_right _ (List.mem_append_right _ (List.mem_append_right _ (List.mem_append_right _ (List.mem_append_right _ (List.mem_append_right _ (List.mem_append_right _ (List.mem_append_right _ (List.mem_append_right _ (List.mem_append_right _ (List.mem_append_right _ (List.mem_append_right _ (List.mem_append_right _ (List.mem_append_left _ h))))))))))))))))))))))))))))))))
theorem qr_24 : ∀ w ∈ wsL_law0_r24, w ∈ wsL_law := fun w h => qr_0 w (List.mem_append_left _ (List.mem_append_left _ (List.mem_append_left _ (List.mem_append_left _ (List.mem_append_left _ (List.mem_append_left _ (List.mem_append_left _ (List.mem_append_left _ (List.mem_append_left _ (List.mem_append_right _ (List.mem_append_right _ (List.mem_append_right _ (List.mem_append_right _ (List.mem_append_right _ (List.mem_append_right _ (List.mem_append_right _ (List.mem_append_right _ (List.mem_append_right _ (List.mem_append_right _ (List.mem_append_right _ (List.mem_append_right _ (List.mem_append_right _ (List.mem_append_right _ (List.mem_append_right _ (List.mem_append_right _ (List.mem_append_right _ (List.mem_append_right _ (List.mem_append_right _ (List.mem_append_right _ (List.mem_append_right _ (List.mem_append_right _ (List.mem_append_right _ (List.mem_append_left _ h)))))))))))))))))))))))))))))))))
theorem qr_25 : ∀ w ∈ wsL_law0_r25, w ∈ wsL_law := fun w h => qr_0 w (List.mem_append_left _ (List.mem_append_left _ (List.mem_append_left _ (List.mem_append_left _ (List.mem_append_left _ (List.mem_append_left _ (List.mem_append_left _ (List.mem_append_left _ (List.mem_append_left _ (List.mem_append_right _ (List.mem_append_right _ (List.mem_append_right _ (List.mem_append_right _ (List.mem_append_right _ (List.mem_append_right _ (List.mem_append_right _ (List.mem_append_right _ (List.mem_append_right _ (List.mem_append_right _ (List.mem_append_right _ (List.mem_append_right _ (List.mem_append_right _ (List.mem_append_right _ (List.mem_append_right _ (List.mem_append_right _ (List.mem_append_right _ (List.mem_append_right _ (List.mem_append_right _ (List.mem_append_right _ (List.mem_append_right _ (List.mem_append_right _ (List.mem_append_right _ (List.mem_append_right _ (List.mem_append_left _ h))))))))))))))))))))))))))))))))))
theorem qr_26 : ∀ w ∈ wsL_law0_r26, w ∈ wsL_law := fun w h => qr_0 w (List.mem_append_left _ (List.mem_append_left _ (List.mem_append_left _ (List.mem_append_left _ (List.mem_append_left _ (List.mem_append_left _ (List.mem_append_left _ (List.mem_append_left _ (List.mem_append_left _ (List.mem_append_right _ (List.mem_append_right _ (List.mem_append_right _ (List.mem_append_right _ (List.mem_append_right _ (List.mem_append_right _ (List.mem_append_right _ (List.mem_append_right _ (List.mem_append_right _ (List.mem_append_right _ (List.mem_append_right _ (List.mem_append_right _ (List.mem_append_right _ (List.mem_append_right _ (List.mem_append_right _ (List.mem_append_right _ (List.mem_append_right _ (List.mem_append_right _ (List.mem_append_right _ (List.mem_append_right _ (List.mem_append_right _ (List.mem_append_right _ (List.mem_append_right _ (List.mem_append_right _ (List.mem_append_right _ (List.mem_append_left _ h)))))))))))))))))))))))))))))))))))
theorem qr_27 : ∀ w ∈ wsL_law0_r27, w ∈ wsL_law := fun w h => qr_0 w (List.mem_append_left _ (List.mem_append_left _ (List.mem_append_left _ (List.mem_append_left _ (List.mem_append_left _ (List.mem_append_left _ (List.mem_append_left _ (List.mem_append_left _ (List.mem_append_left _ (List.mem_append_right _ (List.mem_append_right _ (List.mem_append_right _ (List.mem_append_right _ (List.mem_append_right _ (List.mem_append_right _ (List.mem_append_right _ (List.mem_append_right _ (List.mem_append_right _ (List.mem_append_right _ (List.mem_append_right _ (List.mem_append_right _ (List.mem_append_right _ (List.mem_append_right _ (List.mem_append_right _ (List.mem_append_right _ (List.mem_append_right _ (List.mem_append_right _ (List.mem_append_right _ (List.mem_append_right _ (List.mem_append_right _ (List.mem_append_right _ (List.mem_append_right _ (List.mem_append_right _ (List.mem_append_right _ (List.mem_append_right _ (List.mem_append_left _ h))))))))))))))))))))))))))))))))))))
theorem qr_28 : ∀ w ∈ wsL_law0_r28, w ∈ wsL_law := fun w h => qr_0 w (List.mem_append_left _ (List.mem_append_left _ (List.mem_append_left _ (List.mem_append_left _ (List.mem_append_left _ (List.mem_append_left _ (List.mem_append_left _ (List.mem_append_left _ (List.mem_append_left _ (List.mem_append_right _ (List.mem_append_right _ (List.mem_append_right _ (List.mem_append_right _ (List.mem_append_right _ (List.mem_append_right _ (List.mem_append_right _ (List.mem_append_right _ (List.mem_append_right _ (List.mem_append_right _ (List.mem_append_right _ (List.mem_append_right _ (List.mem_append_right _ (List.mem_append_right _ (List.mem_append_right _ (List.mem_append_right _ (List.mem_append_right _ (List.mem_append_right _ (List.mem_append_right _ (List.mem_append_right _ (List.mem_append_right _ (List.mem_append_right _ (List.mem_append_right _ (List.mem_append_right _ (List.mem_append_right _ (List.mem_append_right _ (List.mem_append_right _ (List.mem_append_left _ h)))))))))))))))))))))))))))))))))))))
theorem qr_29 : ∀ w ∈ wsL_law0_r29, w ∈ wsL_law := fun w h => qr_0 w (List.mem_append_left _ (List.mem_append_left _ (List.mem_append_left _ (List.mem_append_left _ (List.mem_append_left _ (List.mem_append_left _ (List.mem_append_left _ (List.mem_append_left _ (List.mem_append_left _ (List.mem_append_right _ (List.mem_append_right _ (List.mem_append_right _ (List.mem_append_right _ (List.mem_append_right _ (List.mem_append_right _ (List.mem_append_right _ (List.mem_append_right _ (List.mem_append_right _ (List.mem_append_right _ (List.mem_append_right _ (List.mem_append_right _ (List.mem_append_right _ (List.mem_append_right _ (List.mem_append_right _ (List.mem_append_right _ (List.mem_append_right _ (List.mem_append_right _ (List.mem_append_right _ (List.mem_append_right _ (List.mem_append_right _ (List.mem_append_right _ (List.mem_append_right _ (List.mem_append_right _ (List.mem_append_right _ (List.mem_append_right _ (List.mem_append_right _ (List.mem_append_right _ (List.mem_append_left _ h))))))))))))))))))))))))))))))))))))))
theorem qr_30 : ∀ w ∈ wsL_law0_r30, w ∈ wsL_law := fun w h => qr_0 w (List.mem_append_left _ (List.mem_append_left _ (List.mem_append_left _ (List.mem_append_left _ (List.mem_append_left _ (List.mem_append_left _ (List.mem_append_left _ (List.mem_append_left _ (List.mem_append_left _ (List.mem_append_right _ (List.mem_append_right _ (List.mem_append_right _ (List.mem_append_right _ (List.mem_append_right _ (List.mem_append_right _ (List.mem_append_right _ (List.mem_append_right _ (List.mem_append_right _ (List.mem_append_right _ (List.mem_append_right _ (List.mem_append_right _ (List.mem_append_right _ (List.mem_append_right _ (List.mem_append_right _ (List.mem_append_right _ (List.mem_append_right _ (List.mem_append_right _ (List.mem_append_right _ (List.mem_append_right _ (List.mem_append_right _ (List.mem_append_right _ (List.mem_append_right _ (List.mem_append_right _ (List.mem_append_right _ (List.mem_append_right _ (List.mem_append_right _ (List.mem_append_right _ (List.mem_append_right _ (List.mem_append_left _ h)))))))))))))))))))))))))))))))))))))))
theorem qr_31 : ∀ w ∈ wsL_law0_r31, w ∈ wsL_law := fun w h => qr_0 w (List.mem_append_left _ (List.mem_append_left _ (List.mem_append_left _ (List.mem_append_left _ (List.mem_append_left _ (List.mem_append_left _ (List.mem_append_left _ (List.mem_append_left _ (List.mem_append_left _ (List.mem_append_right _ (List.mem_append_right _ (List.mem_append_right _ (List.mem_append_right _ (List.mem_append_right _ (List.mem_append_right _ (List.mem_append_right _ (List.mem_append_right _ (List.mem_append_right _ (List.mem_append_right _ (List.mem_append_right _ (List.mem_append_right _ (List.mem_append_right _ (List.mem_append_right _ (List.mem_append_right _ (List.mem_append_right _ (List.mem_append_right _ (List.mem_append_right _ (List.mem_append_right _ (List.mem_append_right _ (List.mem_append_right _ (List.mem_append_right _ (List.mem_append_right _ (List.mem_append_right _ (List.mem_append_right _ (List.mem_append_right _ (List.mem_append_right _ (List.mem_append_right _ (List.mem_append_right _ (List.mem_append_right _ (List.mem_append_left _ h))))))))))))))))))))))))))))))))))))))))
theorem qr_32 : ∀ w ∈ wsL_law0_r32, w ∈ wsL_law := fun w h => qr_0 w (List.mem_append_left _ (List.mem_append_left _ (List.mem_append_left _ (List.mem_append_left _ (List.mem_append_left _ (List.mem_append_left _ (List.mem_append_left _ (List.mem_append_left _ (List.mem_append_left _ (List.mem_append_right _ (List.mem_append_right _ (List.mem_append_right _ (List.mem_append_right _ (List.mem_append_right _ (List.mem_append_right _ (List.mem_append_right _ (List.mem_append_right _ (List.mem_append_right _ (List.mem_append_right _ (List.mem_append_right _ (List.mem_append_right _ (List.mem_append_right _ (List.mem_append_right _ (List.mem_append_right _ (List.mem_append_right _ (List.mem_append_right _ (List.mem_append_right _ (List.mem_append_right _ (List.mem_append_right _ (List.mem_append_right _ (List.mem_append_right _ (List.mem_append_right _ (List.mem_append_right _ (List.mem_append_right _ (List.mem_append_right _ (List.mem_append_right _ (List.mem_append_right _ (List.mem_append_right _ (List.mem_append_right _ (List.mem_append_right _ (h)))))))))))))))))))))))))))))))))))))))))
theorem qk_L_8 : Cond.classLink RL 8 RX5 ∈ wsL_law := qr_1 _ (List.mem_of_getElem? (i := 0) rfl)
theorem qa_X5 : Cond.instantiable RX5 4 ∈ wsL_law := qr_1 _ (List.mem_of_getElem? (i := 1) rfl)
theorem qz_X5 : Cond.initialized RX5 ∈ wsL_law := qr_1 _ (List.mem_of_getElem? (i := 2) rfl)
theorem qk_L_72 : Cond.classLink RL 72 RX7 ∈ wsL_law := qr_1 _ (List.mem_of_getElem? (i := 3) rfl)
theorem qa_X7 : Cond.instantiable RX7 10 ∈ wsL_law := qr_1 _ (List.mem_of_getElem? (i := 4) rfl)
theorem qz_X7 : Cond.initialized RX7 ∈ wsL_law := qr_1 _ (List.mem_of_getElem? (i := 5) rfl)
theorem qy_long : Cond.arrayClass .long ∈ wsL_law := qr_1 _ (List.mem_of_getElem? (i := 6) rfl)
theorem qm_L_71 : Cond.methodLink RL 71 yX5_init ∈ wsL_law := qr_1 _ (List.mem_of_getElem? (i := 7) rfl)
theorem qi_X5_init : Cond.instanceMethod yX5_init ∈ wsL_law := qr_1 _ (List.mem_of_getElem? (i := 8) rfl)
theorem qc_X5_init : Cond.code yX5_init cX5_init 1 none ∈ wsL_law := qr_1 _ (List.mem_of_getElem? (i := 9) rfl)
theorem qm_X5_1 : Cond.methodLink RX5 1 objectInit ∈ wsL_law := qr_1 _ (List.mem_of_getElem? (i := 10) rfl)
theorem qi_obj : Cond.instanceMethod objectInit ∈ wsL_law := qr_1 _ (List.mem_of_getElem? (i := 11) rfl)
theorem qc_obj : Cond.code objectInit ⟨#[0xb1]⟩ 1 none ∈ wsL_law := qr_1 _ (List.mem_of_getElem? (i := 12) rfl)
theorem qk_X5_7 : Cond.classLink RX5 7 RX4 ∈ wsL_law := qr_1 _ (List.mem_of_getElem? (i := 13) rfl)
theorem qa_X4 : Cond.instantiable RX4 9 ∈ wsL_law := qr_1 _ (List.mem_of_getElem? (i := 14) rfl)
theorem qz_X4 : Cond.initialized RX4 ∈ wsL_law := qr_1 _ (List.mem_of_getElem? (i := 15) rfl)
theorem qf_X5_10 : Cond.fieldLink RX5 10 "BandDay" "season" "LBandDay$Season;" ∈ wsL_law := qr_1 _ (List.mem_of_getElem? (i := 16) rfl)
theorem qk_X5_16 : Cond.classLink RX5 16 RX2 ∈ wsL_law := qr_1 _ (List.mem_of_getElem? (i := 17) rfl)
theorem qa_X2 : Cond.instantiable RX2 1 ∈ wsL_law := qr_1 _ (List.mem_of_getElem? (i := 18) rfl)
theorem qz_X2 : Cond.initialized RX2 ∈ wsL_law := qr_1 _ (List.mem_of_getElem? (i := 19) rfl)
theorem qf_X5_21 : Cond.fieldLink RX5 21 "BandDay" "contest" "LBandDay$Contest;" ∈ wsL_law := qr_1 _ (List.mem_of_getElem? (i := 20) rfl)
theorem qf_X5_25 : Cond.fieldLink RX5 25 "BandDay" "trial" "LBandDay$Season;" ∈ wsL_law := qr_1 _ (List.mem_of_getElem? (i := 21) rfl)
theorem qf_X5_28 : Cond.fieldLink RX5 28 "BandDay" "trialContest" "LBandDay$Contest;" ∈ wsL_law := qr_1 _ (List.mem_of_getElem? (i := 22) rfl)
theorem qm_X5_9 : Cond.methodLink RX5 9 yX4_init ∈ wsL_law := qr_1 _ (List.mem_of_getElem? (i := 23) rfl)
theorem qi_X4_init : Cond.instanceMethod yX4_init ∈ wsL_law := qr_2 _ (List.mem_of_getElem? (i := 0) rfl)
theorem qc_X4_init : Cond.code yX4_init cX4_init 2 none ∈ wsL_law := qr_2 _ (List.mem_of_getElem? (i := 1) rfl)
theorem qm_X4_3 : Cond.methodLink RX4 3 objectInit ∈ wsL_law := qr_2 _ (List.mem_of_getElem? (i := 2) rfl)
theorem qk_X4_9 : Cond.classLink RX4 9 RX3 ∈ wsL_law := qr_2 _ (List.mem_of_getElem? (i := 3) rfl)
theorem qf_X4_11 : Cond.fieldLink RX4 11 "BandDay$Season" "players" "[LBandDay$Player;" ∈ wsL_law := qr_2 _ (List.mem_of_getElem? (i := 4) rfl)
theorem qk_X4_17 : Cond.classLink RX4 17 RX0 ∈ wsL_law := qr_2 _ (List.mem_of_getElem? (i := 5) rfl)
theorem qf_X4_19 : Cond.fieldLink RX4 19 "BandDay$Season" "bands" "[LBandDay$Band;" ∈ wsL_law := qr_2 _ (List.mem_of_getElem? (i := 6) rfl)
theorem qy_int : Cond.arrayClass .int ∈ wsL_law := qr_2 _ (List.mem_of_getElem? (i := 7) rfl)
theorem qf_X4_23 : Cond.fieldLink RX4 23 "BandDay$Season" "hard" "[I" ∈ wsL_law := qr_2 _ (List.mem_of_getElem? (i := 8) rfl)
theorem qf_X4_27 : Cond.fieldLink RX4 27 "BandDay$Season" "weight" "[I" ∈ wsL_law := qr_2 _ (List.mem_of_getElem? (i := 9) rfl)
theorem qa_X3 : Cond.instantiable RX3 9 ∈ wsL_law := qr_2 _ (List.mem_of_getElem? (i := 10) rfl)
theorem qz_X3 : Cond.initialized RX3 ∈ wsL_law := qr_2 _ (List.mem_of_getElem? (i := 11) rfl)
theorem qa_X0 : Cond.instantiable RX0 9 ∈ wsL_law := qr_2 _ (List.mem_of_getElem? (i := 12) rfl)
theorem qz_X0 : Cond.initialized RX0 ∈ wsL_law := qr_2 _ (List.mem_of_getElem? (i := 13) rfl)
theorem qi_X3_init : Cond.instanceMethod yX3_init ∈ wsL_law := qr_2 _ (List.mem_of_getElem? (i := 14) rfl)
theorem qc_X3_init : Cond.code yX3_init cX3_init 1 none ∈ wsL_law := qr_2 _ (List.mem_of_getElem? (i := 15) rfl)
theorem qm_X3_3 : Cond.methodLink RX3 3 objectInit ∈ wsL_law := qr_2 _ (List.mem_of_getElem? (i := 16) rfl)
theorem qf_X3_9 : Cond.fieldLink RX3 9 "BandDay$Player" "skills" "[I" ∈ wsL_law := qr_2 _ (List.mem_of_getElem? (i := 17) rfl)
theorem qf_X3_15 : Cond.fieldLink RX3 15 "BandDay$Player" "band" "I" ∈ wsL_law := qr_2 _ (List.mem_of_getElem? (i := 18) rfl)
theorem qf_X3_19 : Cond.fieldLink RX3 19 "BandDay$Player" "seat" "I" ∈ wsL_law := qr_2 _ (List.mem_of_getElem? (i := 19) rfl)
theorem qm_X4_31 : Cond.methodLink RX4 31 yX0_init ∈ wsL_law := qr_2 _ (List.mem_of_getElem? (i := 20) rfl)
theorem qi_X0_init : Cond.instanceMethod yX0_init ∈ wsL_law := qr_2 _ (List.mem_of_getElem? (i := 21) rfl)
theorem qc_X0_init : Cond.code yX0_init cX0_init 2 none ∈ wsL_law := qr_2 _ (List.mem_of_getElem? (i := 22) rfl)
theorem qm_X0_3 : Cond.methodLink RX0 3 objectInit ∈ wsL_law := qr_2 _ (List.mem_of_getElem? (i := 23) rfl)
theorem qk_X0_9 : Cond.classLink RX0 9 RX1 ∈ wsL_law := qr_3 _ (List.mem_of_getElem? (i := 0) rfl)
theorem qf_X0_11 : Cond.fieldLink RX0 11 "BandDay$Band" "chairs" "[LBandDay$Chair;" ∈ wsL_law := qr_3 _ (List.mem_of_getElem? (i := 1) rfl)
theorem qf_X0_17 : Cond.fieldLink RX0 17 "BandDay$Band" "marks" "I" ∈ wsL_law := qr_3 _ (List.mem_of_getElem? (i := 2) rfl)
theorem qf_X0_21 : Cond.fieldLink RX0 21 "BandDay$Band" "place" "I" ∈ wsL_law := qr_3 _ (List.mem_of_getElem? (i := 3) rfl)
theorem qf_X0_24 : Cond.fieldLink RX0 24 "BandDay$Band" "deputies" "I" ∈ wsL_law := qr_3 _ (List.mem_of_getElem? (i := 4) rfl)
theorem qf_X0_27 : Cond.fieldLink RX0 27 "BandDay$Band" "empties" "I" ∈ wsL_law := qr_3 _ (List.mem_of_getElem? (i := 5) rfl)
theorem qa_X1 : Cond.instantiable RX1 3 ∈ wsL_law := qr_3 _ (List.mem_of_getElem? (i := 6) rfl)
theorem qz_X1 : Cond.initialized RX1 ∈ wsL_law := qr_3 _ (List.mem_of_getElem? (i := 7) rfl)
theorem qi_X1_init : Cond.instanceMethod yX1_init ∈ wsL_law := qr_3 _ (List.mem_of_getElem? (i := 8) rfl)
theorem qc_X1_init : Cond.code yX1_init cX1_init 1 none ∈ wsL_law := qr_3 _ (List.mem_of_getElem? (i := 9) rfl)
theorem qm_X1_3 : Cond.methodLink RX1 3 objectInit ∈ wsL_law := qr_3 _ (List.mem_of_getElem? (i := 10) rfl)
theorem qf_X1_9 : Cond.fieldLink RX1 9 "BandDay$Chair" "member" "I" ∈ wsL_law := qr_3 _ (List.mem_of_getElem? (i := 11) rfl)
theorem qf_X1_15 : Cond.fieldLink RX1 15 "BandDay$Chair" "sitter" "I" ∈ wsL_law := qr_3 _ (List.mem_of_getElem? (i := 12) rfl)
theorem qm_X5_18 : Cond.methodLink RX5 18 yX2_init ∈ wsL_law := qr_3 _ (List.mem_of_getElem? (i := 13) rfl)
theorem qi_X2_init : Cond.instanceMethod yX2_init ∈ wsL_law := qr_3 _ (List.mem_of_getElem? (i := 14) rfl)
theorem qc_X2_init : Cond.code yX2_init cX2_init 2 none ∈ wsL_law := qr_3 _ (List.mem_of_getElem? (i := 15) rfl)
theorem qm_X2_3 : Cond.methodLink RX2 3 objectInit ∈ wsL_law := qr_3 _ (List.mem_of_getElem? (i := 16) rfl)
theorem qf_X2_9 : Cond.fieldLink RX2 9 "BandDay$Contest" "season" "LBandDay$Season;" ∈ wsL_law := qr_3 _ (List.mem_of_getElem? (i := 17) rfl)
theorem qm_L_74 : Cond.methodLink RL 74 yX7_init ∈ wsL_law := qr_3 _ (List.mem_of_getElem? (i := 18) rfl)
theorem qi_X7_init : Cond.instanceMethod yX7_init ∈ wsL_law := qr_3 _ (List.mem_of_getElem? (i := 19) rfl)
theorem qc_X7_init : Cond.code yX7_init cX7_init 1 none ∈ wsL_law := qr_3 _ (List.mem_of_getElem? (i := 20) rfl)
theorem qm_X7_1 : Cond.methodLink RX7 1 objectInit ∈ wsL_law := qr_3 _ (List.mem_of_getElem? (i := 21) rfl)
theorem qf_X7_9 : Cond.fieldLink RX7 9 "BandDayModel" "skill" "[I" ∈ wsL_law := qr_3 _ (List.mem_of_getElem? (i := 22) rfl)
theorem qf_X7_13 : Cond.fieldLink RX7 13 "BandDayModel" "seats" "[I" ∈ wsL_law := qr_3 _ (List.mem_of_getElem? (i := 23) rfl)
theorem qf_X7_16 : Cond.fieldLink RX7 16 "BandDayModel" "instrument" "[I" ∈ wsL_law := qr_4 _ (List.mem_of_getElem? (i := 0) rfl)
theorem qf_X7_19 : Cond.fieldLink RX7 19 "BandDayModel" "hard" "[I" ∈ wsL_law := qr_4 _ (List.mem_of_getElem? (i := 1) rfl)
theorem qf_X7_22 : Cond.fieldLink RX7 22 "BandDayModel" "weight" "[I" ∈ wsL_law := qr_4 _ (List.mem_of_getElem? (i := 2) rfl)
theorem qk_X7_25 : Cond.classLink RX7 25 RX6 ∈ wsL_law := qr_4 _ (List.mem_of_getElem? (i := 3) rfl)
theorem qa_X6 : Cond.instantiable RX6 15 ∈ wsL_law := qr_4 _ (List.mem_of_getElem? (i := 4) rfl)
theorem qz_X6 : Cond.initialized RX6 ∈ wsL_law := qr_4 _ (List.mem_of_getElem? (i := 5) rfl)
theorem qf_X7_30 : Cond.fieldLink RX7 30 "BandDayModel" "s" "LBandDayModel$State;" ∈ wsL_law := qr_4 _ (List.mem_of_getElem? (i := 6) rfl)
theorem qf_X7_34 : Cond.fieldLink RX7 34 "BandDayModel" "ahead" "LBandDayModel$State;" ∈ wsL_law := qr_4 _ (List.mem_of_getElem? (i := 7) rfl)
theorem qi_X6_init : Cond.instanceMethod yX6_init ∈ wsL_law := qr_4 _ (List.mem_of_getElem? (i := 8) rfl)
theorem qc_X6_init : Cond.code yX6_init cX6_init 2 none ∈ wsL_law := qr_4 _ (List.mem_of_getElem? (i := 9) rfl)
theorem qf_X6_3 : Cond.fieldLink RX6 3 "BandDayModel$State" "this$0" "LBandDayModel;" ∈ wsL_law := qr_4 _ (List.mem_of_getElem? (i := 10) rfl)
theorem qm_X6_9 : Cond.methodLink RX6 9 objectInit ∈ wsL_law := qr_4 _ (List.mem_of_getElem? (i := 11) rfl)
theorem qf_X6_15 : Cond.fieldLink RX6 15 "BandDayModel$State" "tired" "[I" ∈ wsL_law := qr_4 _ (List.mem_of_getElem? (i := 12) rfl)
theorem qf_X6_19 : Cond.fieldLink RX6 19 "BandDayModel$State" "absent" "[I" ∈ wsL_law := qr_4 _ (List.mem_of_getElem? (i := 13) rfl)
theorem qf_X6_22 : Cond.fieldLink RX6 22 "BandDayModel$State" "sat" "[I" ∈ wsL_law := qr_4 _ (List.mem_of_getElem? (i := 14) rfl)
theorem qf_X6_25 : Cond.fieldLink RX6 25 "BandDayModel$State" "deputy" "[I" ∈ wsL_law := qr_4 _ (List.mem_of_getElem? (i := 15) rfl)
theorem qf_X6_28 : Cond.fieldLink RX6 28 "BandDayModel$State" "member" "[I" ∈ wsL_law := qr_4 _ (List.mem_of_getElem? (i := 16) rfl)
theorem qf_X6_31 : Cond.fieldLink RX6 31 "BandDayModel$State" "who" "[I" ∈ wsL_law := qr_4 _ (List.mem_of_getElem? (i := 17) rfl)
theorem qf_X6_34 : Cond.fieldLink RX6 34 "BandDayModel$State" "spirit" "[I" ∈ wsL_law := qr_4 _ (List.mem_of_getElem? (i := 18) rfl)
theorem qf_X6_37 : Cond.fieldLink RX6 37 "BandDayModel$State" "points" "[I" ∈ wsL_law := qr_4 _ (List.mem_of_getElem? (i := 19) rfl)
theorem qf_X6_40 : Cond.fieldLink RX6 40 "BandDayModel$State" "outs" "[I" ∈ wsL_law := qr_4 _ (List.mem_of_getElem? (i := 20) rfl)
theorem qf_X6_43 : Cond.fieldLink RX6 43 "BandDayModel$State" "latest" "[I" ∈ wsL_law := qr_4 _ (List.mem_of_getElem? (i := 21) rfl)
theorem qf_X6_46 : Cond.fieldLink RX6 46 "BandDayModel$State" "times" "[I" ∈ wsL_law := qr_4 _ (List.mem_of_getElem? (i := 22) rfl)
theorem qm_L_75 : Cond.methodLink RL 75 yL_addPlayer ∈ wsL_law := qr_4 _ (List.mem_of_getElem? (i := 23) rfl)
theorem qt_L_addPlayer : Cond.static yL_addPlayer ∈ wsL_law := qr_5 _ (List.mem_of_getElem? (i := 0) rfl)
theorem qz_L : Cond.initialized RL ∈ wsL_law := qr_5 _ (List.mem_of_getElem? (i := 1) rfl)
theorem qc_L_addPlayer : Cond.codeWith yL_addPlayer cL_addPlayer 7 (some .int) [(0, 14, 17, 13), (0, 14, 21, 15)] ∈ wsL_law := qr_5 _ (List.mem_of_getElem? (i := 2) rfl)
theorem qk_L_13 : Cond.classLink RL 13 "java/lang/IllegalArgumentException" ∈ wsL_law := qr_5 _ (List.mem_of_getElem? (i := 3) rfl)
theorem qk_L_15 : Cond.classLink RL 15 "java/lang/IllegalStateException" ∈ wsL_law := qr_5 _ (List.mem_of_getElem? (i := 4) rfl)
theorem qm_L_7 : Cond.methodLink RL 7 yX5_addPlayer ∈ wsL_law := qr_5 _ (List.mem_of_getElem? (i := 5) rfl)
theorem qi_X5_addPlayer : Cond.instanceMethod yX5_addPlayer ∈ wsL_law := qr_5 _ (List.mem_of_getElem? (i := 6) rfl)
theorem qs_X5_addPlayer : Cond.selects RX5 yX5_addPlayer yX5_addPlayer ∈ wsL_law := qr_5 _ (List.mem_of_getElem? (i := 7) rfl)
theorem qc_X5_addPlayer : Cond.code yX5_addPlayer cX5_addPlayer 5 (some .int) ∈ wsL_law := qr_5 _ (List.mem_of_getElem? (i := 8) rfl)
theorem qk_X5_35 : Cond.classLink RX5 35 "java/lang/IllegalArgumentException" ∈ wsL_law := qr_5 _ (List.mem_of_getElem? (i := 9) rfl)
theorem qz_IllegalArgumentException : Cond.initialized "java/lang/IllegalArgumentException" ∈ wsL_law := qr_5 _ (List.mem_of_getElem? (i := 10) rfl)
theorem qk_X5_46 : Cond.classLink RX5 46 "java/lang/IllegalStateException" ∈ wsL_law := qr_5 _ (List.mem_of_getElem? (i := 11) rfl)
theorem qz_IllegalStateException : Cond.initialized "java/lang/IllegalStateException" ∈ wsL_law := qr_5 _ (List.mem_of_getElem? (i := 12) rfl)
theorem qf_X5_42 : Cond.fieldLink RX5 42 "BandDay$Season" "playerCount" "I" ∈ wsL_law := qr_5 _ (List.mem_of_getElem? (i := 13) rfl)
theorem qm_X5_31 : Cond.methodLink RX5 31 yX5_isSkill ∈ wsL_law := qr_5 _ (List.mem_of_getElem? (i := 14) rfl)
theorem qt_X5_isSkill : Cond.static yX5_isSkill ∈ wsL_law := qr_5 _ (List.mem_of_getElem? (i := 15) rfl)
theorem qc_X5_isSkill : Cond.code yX5_isSkill cX5_isSkill 1 (some .boolean) ∈ wsL_law := qr_5 _ (List.mem_of_getElem? (i := 16) rfl)
theorem qm_X5_51 : Cond.methodLink RX5 51 yX4_enrol ∈ wsL_law := qr_5 _ (List.mem_of_getElem? (i := 17) rfl)
theorem qi_X4_enrol : Cond.instanceMethod yX4_enrol ∈ wsL_law := qr_5 _ (List.mem_of_getElem? (i := 18) rfl)
theorem qs_X4_enrol : Cond.selects RX4 yX4_enrol yX4_enrol ∈ wsL_law := qr_5 _ (List.mem_of_getElem? (i := 19) rfl)
theorem qc_X4_enrol : Cond.code yX4_enrol cX4_enrol 6 (some .int) ∈ wsL_law := qr_5 _ (List.mem_of_getElem? (i := 20) rfl)
theorem qf_X4_32 : Cond.fieldLink RX4 32 "BandDay$Season" "playerCount" "I" ∈ wsL_law := qr_5 _ (List.mem_of_getElem? (i := 21) rfl)
theorem qf_X4_69 : Cond.fieldLink RX4 69 "BandDay$Player" "skills" "[I" ∈ wsL_law := qr_5 _ (List.mem_of_getElem? (i := 22) rfl)
theorem qm_L_80 : Cond.methodLink RL 80 yX7_addPlayer ∈ wsL_law := qr_5 _ (List.mem_of_getElem? (i := 23) rfl)
theorem qi_X7_addPlayer : Cond.instanceMethod yX7_addPlayer ∈ wsL_law := qr_6 _ (List.mem_of_getElem? (i := 0) rfl)
theorem qs_X7_addPlayer : Cond.selects RX7 yX7_addPlayer yX7_addPlayer ∈ wsL_law := qr_6 _ (List.mem_of_getElem? (i := 1) rfl)
theorem qc_X7_addPlayer : Cond.code yX7_addPlayer cX7_addPlayer 6 (some .int) ∈ wsL_law := qr_6 _ (List.mem_of_getElem? (i := 2) rfl)
theorem qf_X7_37 : Cond.fieldLink RX7 37 "BandDayModel" "thrown" "I" ∈ wsL_law := qr_6 _ (List.mem_of_getElem? (i := 3) rfl)
theorem qf_X7_41 : Cond.fieldLink RX7 41 "BandDayModel" "players" "I" ∈ wsL_law := qr_6 _ (List.mem_of_getElem? (i := 4) rfl)
theorem qm_X7_59 : Cond.methodLink RX7 59 arraycopyName ∈ wsL_law := qr_6 _ (List.mem_of_getElem? (i := 5) rfl)
theorem qn_arraycopyName : Cond.native arraycopyName ∈ wsL_law := qr_6 _ (List.mem_of_getElem? (i := 6) rfl)
theorem qt_arraycopyName : Cond.static arraycopyName ∈ wsL_law := qr_6 _ (List.mem_of_getElem? (i := 7) rfl)
theorem qz_System : Cond.initialized "java/lang/System" ∈ wsL_law := qr_6 _ (List.mem_of_getElem? (i := 8) rfl)
theorem qm_X7_44 : Cond.methodLink RX7 44 yX7_isIn ∈ wsL_law := qr_6 _ (List.mem_of_getElem? (i := 9) rfl)
theorem qt_X7_isIn : Cond.static yX7_isIn ∈ wsL_law := qr_6 _ (List.mem_of_getElem? (i := 10) rfl)
theorem qc_X7_isIn : Cond.code yX7_isIn cX7_isIn 3 (some .boolean) ∈ wsL_law := qr_6 _ (List.mem_of_getElem? (i := 11) rfl)
theorem qm_X7_55 : Cond.methodLink RX7 55 yX7_no ∈ wsL_law := qr_6 _ (List.mem_of_getElem? (i := 12) rfl)
theorem qi_X7_no : Cond.instanceMethod yX7_no ∈ wsL_law := qr_6 _ (List.mem_of_getElem? (i := 13) rfl)
theorem qs_X7_no : Cond.selects RX7 yX7_no yX7_no ∈ wsL_law := qr_6 _ (List.mem_of_getElem? (i := 14) rfl)
theorem qc_X7_no : Cond.code yX7_no cX7_no 2 (some .int) ∈ wsL_law := qr_6 _ (List.mem_of_getElem? (i := 15) rfl)
theorem qm_L_81 : Cond.methodLink RL 81 yX7_thrown ∈ wsL_law := qr_6 _ (List.mem_of_getElem? (i := 16) rfl)
theorem qi_X7_thrown : Cond.instanceMethod yX7_thrown ∈ wsL_law := qr_6 _ (List.mem_of_getElem? (i := 17) rfl)
theorem qs_X7_thrown : Cond.selects RX7 yX7_thrown yX7_thrown ∈ wsL_law := qr_6 _ (List.mem_of_getElem? (i := 18) rfl)
theorem qc_X7_thrown : Cond.code yX7_thrown cX7_thrown 1 (some .int) ∈ wsL_law := qr_6 _ (List.mem_of_getElem? (i := 19) rfl)
theorem qm_L_84 : Cond.methodLink RL 84 yL_found ∈ wsL_law := qr_6 _ (List.mem_of_getElem? (i := 20) rfl)
theorem qt_L_found : Cond.static yL_found ∈ wsL_law := qr_6 _ (List.mem_of_getElem? (i := 21) rfl)
theorem qc_L_found : Cond.codeWith yL_found cL_found 4 (some .int) [(0, 9, 12, 13), (0, 9, 15, 15)] ∈ wsL_law := qr_6 _ (List.mem_of_getElem? (i := 22) rfl)
theorem qm_L_17 : Cond.methodLink RL 17 yX5_found ∈ wsL_law := qr_6 _ (List.mem_of_getElem? (i := 23) rfl)
theorem qi_X5_found : Cond.instanceMethod yX5_found ∈ wsL_law := qr_7 _ (List.mem_of_getElem? (i := 0) rfl)
theorem qs_X5_found : Cond.selects RX5 yX5_found yX5_found ∈ wsL_law := qr_7 _ (List.mem_of_getElem? (i := 1) rfl)
theorem qc_X5_found : Cond.code yX5_found cX5_found 3 (some .int) ∈ wsL_law := qr_7 _ (List.mem_of_getElem? (i := 2) rfl)
theorem qf_X5_61 : Cond.fieldLink RX5 61 "BandDay$Season" "bandCount" "I" ∈ wsL_law := qr_7 _ (List.mem_of_getElem? (i := 3) rfl)
theorem qm_X5_55 : Cond.methodLink RX5 55 yX5_seatsIn ∈ wsL_law := qr_7 _ (List.mem_of_getElem? (i := 4) rfl)
theorem qt_X5_seatsIn : Cond.static yX5_seatsIn ∈ wsL_law := qr_7 _ (List.mem_of_getElem? (i := 5) rfl)
theorem qc_X5_seatsIn : Cond.code yX5_seatsIn cX5_seatsIn 4 (some .int) ∈ wsL_law := qr_7 _ (List.mem_of_getElem? (i := 6) rfl)
theorem qm_X5_66 : Cond.methodLink RX5 66 yX4_open ∈ wsL_law := qr_7 _ (List.mem_of_getElem? (i := 7) rfl)
theorem qi_X4_open : Cond.instanceMethod yX4_open ∈ wsL_law := qr_7 _ (List.mem_of_getElem? (i := 8) rfl)
theorem qs_X4_open : Cond.selects RX4 yX4_open yX4_open ∈ wsL_law := qr_7 _ (List.mem_of_getElem? (i := 9) rfl)
theorem qc_X4_open : Cond.code yX4_open cX4_open 3 (some .int) ∈ wsL_law := qr_7 _ (List.mem_of_getElem? (i := 10) rfl)
theorem qf_X4_40 : Cond.fieldLink RX4 40 "BandDay$Season" "bandCount" "I" ∈ wsL_law := qr_7 _ (List.mem_of_getElem? (i := 11) rfl)
theorem qm_X4_72 : Cond.methodLink RX4 72 yX0_furnish ∈ wsL_law := qr_7 _ (List.mem_of_getElem? (i := 12) rfl)
theorem qi_X0_furnish : Cond.instanceMethod yX0_furnish ∈ wsL_law := qr_7 _ (List.mem_of_getElem? (i := 13) rfl)
theorem qs_X0_furnish : Cond.selects RX0 yX0_furnish yX0_furnish ∈ wsL_law := qr_7 _ (List.mem_of_getElem? (i := 14) rfl)
theorem qc_X0_furnish : Cond.code yX0_furnish cX0_furnish 5 none ∈ wsL_law := qr_7 _ (List.mem_of_getElem? (i := 15) rfl)
theorem qm_X0_47 : Cond.methodLink RX0 47 Lib.Math.min.name ∈ wsL_law := qr_7 _ (List.mem_of_getElem? (i := 16) rfl)
theorem qt_Lib_Math_min_name : Cond.static Lib.Math.min.name ∈ wsL_law := qr_7 _ (List.mem_of_getElem? (i := 17) rfl)
theorem qz_Math : Cond.initialized "java/lang/Math" ∈ wsL_law := qr_7 _ (List.mem_of_getElem? (i := 18) rfl)
theorem qc_Lib_Math_min_name : Cond.code Lib.Math.min.name Lib.Math.min.code 2 (some .int) ∈ wsL_law := qr_7 _ (List.mem_of_getElem? (i := 19) rfl)
theorem qf_X0_31 : Cond.fieldLink RX0 31 "BandDay$Band" "size" "I" ∈ wsL_law := qr_7 _ (List.mem_of_getElem? (i := 20) rfl)
theorem qf_X0_53 : Cond.fieldLink RX0 53 "BandDay$Chair" "instrument" "I" ∈ wsL_law := qr_7 _ (List.mem_of_getElem? (i := 21) rfl)
theorem qm_L_87 : Cond.methodLink RL 87 yX7_found ∈ wsL_law := qr_7 _ (List.mem_of_getElem? (i := 22) rfl)
theorem qi_X7_found : Cond.instanceMethod yX7_found ∈ wsL_law := qr_7 _ (List.mem_of_getElem? (i := 23) rfl)
theorem qs_X7_found : Cond.selects RX7 yX7_found yX7_found ∈ wsL_law := qr_8 _ (List.mem_of_getElem? (i := 0) rfl)
theorem qc_X7_found : Cond.code yX7_found cX7_found 6 (some .int) ∈ wsL_law := qr_8 _ (List.mem_of_getElem? (i := 1) rfl)
theorem qd_X7_65 : Cond.constant RX7 65 (100000000) ∈ wsL_law := qr_8 _ (List.mem_of_getElem? (i := 2) rfl)
theorem qf_X7_48 : Cond.fieldLink RX7 48 "BandDayModel" "bands" "I" ∈ wsL_law := qr_8 _ (List.mem_of_getElem? (i := 3) rfl)
theorem qm_L_88 : Cond.methodLink RL 88 yL_seat ∈ wsL_law := qr_8 _ (List.mem_of_getElem? (i := 4) rfl)
theorem qt_L_seat : Cond.static yL_seat ∈ wsL_law := qr_8 _ (List.mem_of_getElem? (i := 5) rfl)
theorem qc_L_seat : Cond.codeWith yL_seat cL_seat 6 (some .int) [(0, 12, 15, 25), (0, 12, 19, 15)] ∈ wsL_law := qr_8 _ (List.mem_of_getElem? (i := 6) rfl)
theorem qk_L_25 : Cond.classLink RL 25 "java/lang/IndexOutOfBoundsException" ∈ wsL_law := qr_8 _ (List.mem_of_getElem? (i := 7) rfl)
theorem qm_L_21 : Cond.methodLink RL 21 yX5_seat ∈ wsL_law := qr_8 _ (List.mem_of_getElem? (i := 8) rfl)
theorem qi_X5_seat : Cond.instanceMethod yX5_seat ∈ wsL_law := qr_8 _ (List.mem_of_getElem? (i := 9) rfl)
theorem qs_X5_seat : Cond.selects RX5 yX5_seat yX5_seat ∈ wsL_law := qr_8 _ (List.mem_of_getElem? (i := 10) rfl)
theorem qc_X5_seat : Cond.code yX5_seat cX5_seat 6 (some .int) ∈ wsL_law := qr_8 _ (List.mem_of_getElem? (i := 11) rfl)
theorem qf_X5_78 : Cond.fieldLink RX5 78 "BandDay$Chair" "member" "I" ∈ wsL_law := qr_8 _ (List.mem_of_getElem? (i := 12) rfl)
theorem qm_X5_70 : Cond.methodLink RX5 70 yX5_needChair ∈ wsL_law := qr_8 _ (List.mem_of_getElem? (i := 13) rfl)
theorem qi_X5_needChair : Cond.instanceMethod yX5_needChair ∈ wsL_law := qr_8 _ (List.mem_of_getElem? (i := 14) rfl)
theorem qs_X5_needChair : Cond.selects RX5 yX5_needChair yX5_needChair ∈ wsL_law := qr_8 _ (List.mem_of_getElem? (i := 15) rfl)
theorem qc_X5_needChair : Cond.code yX5_needChair cX5_needChair 4 (some (.object "BandDay$Chair")) ∈ wsL_law := qr_8 _ (List.mem_of_getElem? (i := 16) rfl)
theorem qk_X5_148 : Cond.classLink RX5 148 "java/lang/IndexOutOfBoundsException" ∈ wsL_law := qr_8 _ (List.mem_of_getElem? (i := 17) rfl)
theorem qz_IndexOutOfBoundsException : Cond.initialized "java/lang/IndexOutOfBoundsException" ∈ wsL_law := qr_8 _ (List.mem_of_getElem? (i := 18) rfl)
theorem qm_X5_103 : Cond.methodLink RX5 103 yX5_needBand ∈ wsL_law := qr_8 _ (List.mem_of_getElem? (i := 19) rfl)
theorem qi_X5_needBand : Cond.instanceMethod yX5_needBand ∈ wsL_law := qr_8 _ (List.mem_of_getElem? (i := 20) rfl)
theorem qs_X5_needBand : Cond.selects RX5 yX5_needBand yX5_needBand ∈ wsL_law := qr_8 _ (List.mem_of_getElem? (i := 21) rfl)
theorem qc_X5_needBand : Cond.code yX5_needBand cX5_needBand 3 (some (.object "BandDay$Band")) ∈ wsL_law := qr_8 _ (List.mem_of_getElem? (i := 22) rfl)
theorem qm_X5_162 : Cond.methodLink RX5 162 yX4_bandAt ∈ wsL_law := qr_8 _ (List.mem_of_getElem? (i := 23) rfl)
theorem qi_X4_bandAt : Cond.instanceMethod yX4_bandAt ∈ wsL_law := qr_9 _ (List.mem_of_getElem? (i := 0) rfl)
theorem qs_X4_bandAt : Cond.selects RX4 yX4_bandAt yX4_bandAt ∈ wsL_law := qr_9 _ (List.mem_of_getElem? (i := 1) rfl)
theorem qc_X4_bandAt : Cond.code yX4_bandAt cX4_bandAt 2 (some (.object "BandDay$Band")) ∈ wsL_law := qr_9 _ (List.mem_of_getElem? (i := 2) rfl)
theorem qm_X5_196 : Cond.methodLink RX5 196 yX0_chairAt ∈ wsL_law := qr_9 _ (List.mem_of_getElem? (i := 3) rfl)
theorem qi_X0_chairAt : Cond.instanceMethod yX0_chairAt ∈ wsL_law := qr_9 _ (List.mem_of_getElem? (i := 4) rfl)
theorem qs_X0_chairAt : Cond.selects RX0 yX0_chairAt yX0_chairAt ∈ wsL_law := qr_9 _ (List.mem_of_getElem? (i := 5) rfl)
theorem qc_X0_chairAt : Cond.code yX0_chairAt cX0_chairAt 2 (some (.object "BandDay$Chair")) ∈ wsL_law := qr_9 _ (List.mem_of_getElem? (i := 6) rfl)
theorem qm_X5_74 : Cond.methodLink RX5 74 yX5_needPlayer ∈ wsL_law := qr_9 _ (List.mem_of_getElem? (i := 7) rfl)
theorem qi_X5_needPlayer : Cond.instanceMethod yX5_needPlayer ∈ wsL_law := qr_9 _ (List.mem_of_getElem? (i := 8) rfl)
theorem qs_X5_needPlayer : Cond.selects RX5 yX5_needPlayer yX5_needPlayer ∈ wsL_law := qr_9 _ (List.mem_of_getElem? (i := 9) rfl)
theorem qc_X5_needPlayer : Cond.code yX5_needPlayer cX5_needPlayer 3 (some (.object "BandDay$Player")) ∈ wsL_law := qr_9 _ (List.mem_of_getElem? (i := 10) rfl)
theorem qm_X5_189 : Cond.methodLink RX5 189 yX4_playerAt ∈ wsL_law := qr_9 _ (List.mem_of_getElem? (i := 11) rfl)
theorem qi_X4_playerAt : Cond.instanceMethod yX4_playerAt ∈ wsL_law := qr_9 _ (List.mem_of_getElem? (i := 12) rfl)
theorem qs_X4_playerAt : Cond.selects RX4 yX4_playerAt yX4_playerAt ∈ wsL_law := qr_9 _ (List.mem_of_getElem? (i := 13) rfl)
theorem qc_X4_playerAt : Cond.code yX4_playerAt cX4_playerAt 2 (some (.object "BandDay$Player")) ∈ wsL_law := qr_9 _ (List.mem_of_getElem? (i := 14) rfl)
theorem qm_X5_85 : Cond.methodLink RX5 85 yX4_leave ∈ wsL_law := qr_9 _ (List.mem_of_getElem? (i := 15) rfl)
theorem qi_X4_leave : Cond.instanceMethod yX4_leave ∈ wsL_law := qr_9 _ (List.mem_of_getElem? (i := 16) rfl)
theorem qs_X4_leave : Cond.selects RX4 yX4_leave yX4_leave ∈ wsL_law := qr_9 _ (List.mem_of_getElem? (i := 17) rfl)
theorem qc_X4_leave : Cond.code yX4_leave cX4_leave 4 none ∈ wsL_law := qr_9 _ (List.mem_of_getElem? (i := 18) rfl)
theorem qf_X4_80 : Cond.fieldLink RX4 80 "BandDay$Player" "band" "I" ∈ wsL_law := qr_9 _ (List.mem_of_getElem? (i := 19) rfl)
theorem qf_X4_83 : Cond.fieldLink RX4 83 "BandDay$Player" "seat" "I" ∈ wsL_law := qr_9 _ (List.mem_of_getElem? (i := 20) rfl)
theorem qf_X4_89 : Cond.fieldLink RX4 89 "BandDay$Chair" "member" "I" ∈ wsL_law := qr_9 _ (List.mem_of_getElem? (i := 21) rfl)
theorem qm_X4_76 : Cond.methodLink RX4 76 yX4_playerAt ∈ wsL_law := qr_9 _ (List.mem_of_getElem? (i := 22) rfl)
theorem qm_X4_86 : Cond.methodLink RX4 86 yX4_chairAt ∈ wsL_law := qr_9 _ (List.mem_of_getElem? (i := 23) rfl)
theorem qi_X4_chairAt : Cond.instanceMethod yX4_chairAt ∈ wsL_law := qr_10 _ (List.mem_of_getElem? (i := 0) rfl)
theorem qs_X4_chairAt : Cond.selects RX4 yX4_chairAt yX4_chairAt ∈ wsL_law := qr_10 _ (List.mem_of_getElem? (i := 1) rfl)
theorem qc_X4_chairAt : Cond.code yX4_chairAt cX4_chairAt 4 (some (.object "BandDay$Chair")) ∈ wsL_law := qr_10 _ (List.mem_of_getElem? (i := 2) rfl)
theorem qm_X4_61 : Cond.methodLink RX4 61 yX4_bandAt ∈ wsL_law := qr_10 _ (List.mem_of_getElem? (i := 3) rfl)
theorem qm_X4_65 : Cond.methodLink RX4 65 yX0_chairAt ∈ wsL_law := qr_10 _ (List.mem_of_getElem? (i := 4) rfl)
theorem qm_X5_89 : Cond.methodLink RX5 89 yX4_putOn ∈ wsL_law := qr_10 _ (List.mem_of_getElem? (i := 5) rfl)
theorem qi_X4_putOn : Cond.instanceMethod yX4_putOn ∈ wsL_law := qr_10 _ (List.mem_of_getElem? (i := 6) rfl)
theorem qs_X4_putOn : Cond.selects RX4 yX4_putOn yX4_putOn ∈ wsL_law := qr_10 _ (List.mem_of_getElem? (i := 7) rfl)
theorem qc_X4_putOn : Cond.code yX4_putOn cX4_putOn 6 none ∈ wsL_law := qr_10 _ (List.mem_of_getElem? (i := 8) rfl)
theorem qm_L_91 : Cond.methodLink RL 91 yX7_seat ∈ wsL_law := qr_10 _ (List.mem_of_getElem? (i := 9) rfl)
theorem qi_X7_seat : Cond.instanceMethod yX7_seat ∈ wsL_law := qr_10 _ (List.mem_of_getElem? (i := 10) rfl)
theorem qs_X7_seat : Cond.selects RX7 yX7_seat yX7_seat ∈ wsL_law := qr_10 _ (List.mem_of_getElem? (i := 11) rfl)
theorem qc_X7_seat : Cond.code yX7_seat cX7_seat 7 (some .int) ∈ wsL_law := qr_10 _ (List.mem_of_getElem? (i := 12) rfl)
theorem qm_X7_75 : Cond.methodLink RX7 75 yX7_isSeat ∈ wsL_law := qr_10 _ (List.mem_of_getElem? (i := 13) rfl)
theorem qi_X7_isSeat : Cond.instanceMethod yX7_isSeat ∈ wsL_law := qr_10 _ (List.mem_of_getElem? (i := 14) rfl)
theorem qs_X7_isSeat : Cond.selects RX7 yX7_isSeat yX7_isSeat ∈ wsL_law := qr_10 _ (List.mem_of_getElem? (i := 15) rfl)
theorem qc_X7_isSeat : Cond.code yX7_isSeat cX7_isSeat 3 (some .boolean) ∈ wsL_law := qr_10 _ (List.mem_of_getElem? (i := 16) rfl)
theorem qm_X7_51 : Cond.methodLink RX7 51 yX7_isBand ∈ wsL_law := qr_10 _ (List.mem_of_getElem? (i := 17) rfl)
theorem qi_X7_isBand : Cond.instanceMethod yX7_isBand ∈ wsL_law := qr_10 _ (List.mem_of_getElem? (i := 18) rfl)
theorem qs_X7_isBand : Cond.selects RX7 yX7_isBand yX7_isBand ∈ wsL_law := qr_10 _ (List.mem_of_getElem? (i := 19) rfl)
theorem qc_X7_isBand : Cond.code yX7_isBand cX7_isBand 2 (some .boolean) ∈ wsL_law := qr_10 _ (List.mem_of_getElem? (i := 20) rfl)
theorem qm_X7_79 : Cond.methodLink RX7 79 yX7_isPlayer ∈ wsL_law := qr_10 _ (List.mem_of_getElem? (i := 21) rfl)
theorem qi_X7_isPlayer : Cond.instanceMethod yX7_isPlayer ∈ wsL_law := qr_10 _ (List.mem_of_getElem? (i := 22) rfl)
theorem qs_X7_isPlayer : Cond.selects RX7 yX7_isPlayer yX7_isPlayer ∈ wsL_law := qr_10 _ (List.mem_of_getElem? (i := 23) rfl)
theorem qc_X7_isPlayer : Cond.code yX7_isPlayer cX7_isPlayer 2 (some .boolean) ∈ wsL_law := qr_11 _ (List.mem_of_getElem? (i := 0) rfl)
theorem qm_X7_82 : Cond.methodLink RX7 82 yX6_seatOf ∈ wsL_law := qr_11 _ (List.mem_of_getElem? (i := 1) rfl)
theorem qi_X6_seatOf : Cond.instanceMethod yX6_seatOf ∈ wsL_law := qr_11 _ (List.mem_of_getElem? (i := 2) rfl)
theorem qs_X6_seatOf : Cond.selects RX6 yX6_seatOf yX6_seatOf ∈ wsL_law := qr_11 _ (List.mem_of_getElem? (i := 3) rfl)
theorem qc_X6_seatOf : Cond.code yX6_seatOf cX6_seatOf 3 (some .int) ∈ wsL_law := qr_11 _ (List.mem_of_getElem? (i := 4) rfl)
theorem qm_L_92 : Cond.methodLink RL 92 yL_change ∈ wsL_law := qr_11 _ (List.mem_of_getElem? (i := 5) rfl)
theorem qt_L_change : Cond.static yL_change ∈ wsL_law := qr_11 _ (List.mem_of_getElem? (i := 6) rfl)
theorem qc_L_change : Cond.codeWith yL_change cL_change 6 (some .int) [(0, 12, 15, 25)] ∈ wsL_law := qr_11 _ (List.mem_of_getElem? (i := 7) rfl)
theorem qm_L_27 : Cond.methodLink RL 27 yX5_change ∈ wsL_law := qr_11 _ (List.mem_of_getElem? (i := 8) rfl)
theorem qi_X5_change : Cond.instanceMethod yX5_change ∈ wsL_law := qr_11 _ (List.mem_of_getElem? (i := 9) rfl)
theorem qs_X5_change : Cond.selects RX5 yX5_change yX5_change ∈ wsL_law := qr_11 _ (List.mem_of_getElem? (i := 10) rfl)
theorem qc_X5_change : Cond.code yX5_change cX5_change 5 (some .int) ∈ wsL_law := qr_11 _ (List.mem_of_getElem? (i := 11) rfl)
theorem qm_X5_93 : Cond.methodLink RX5 93 yX4_swapMembers ∈ wsL_law := qr_11 _ (List.mem_of_getElem? (i := 12) rfl)
theorem qi_X4_swapMembers : Cond.instanceMethod yX4_swapMembers ∈ wsL_law := qr_11 _ (List.mem_of_getElem? (i := 13) rfl)
theorem qs_X4_swapMembers : Cond.selects RX4 yX4_swapMembers yX4_swapMembers ∈ wsL_law := qr_11 _ (List.mem_of_getElem? (i := 14) rfl)
theorem qc_X4_swapMembers : Cond.code yX4_swapMembers cX4_swapMembers 8 none ∈ wsL_law := qr_11 _ (List.mem_of_getElem? (i := 15) rfl)
theorem qm_X4_94 : Cond.methodLink RX4 94 yX4_putOn ∈ wsL_law := qr_11 _ (List.mem_of_getElem? (i := 16) rfl)
theorem qm_L_94 : Cond.methodLink RL 94 yX7_change ∈ wsL_law := qr_11 _ (List.mem_of_getElem? (i := 17) rfl)
theorem qi_X7_change : Cond.instanceMethod yX7_change ∈ wsL_law := qr_11 _ (List.mem_of_getElem? (i := 18) rfl)
theorem qs_X7_change : Cond.selects RX7 yX7_change yX7_change ∈ wsL_law := qr_11 _ (List.mem_of_getElem? (i := 19) rfl)
theorem qc_X7_change : Cond.code yX7_change cX7_change 4 (some .int) ∈ wsL_law := qr_11 _ (List.mem_of_getElem? (i := 20) rfl)
theorem qm_X7_85 : Cond.methodLink RX7 85 yX7_swap ∈ wsL_law := qr_11 _ (List.mem_of_getElem? (i := 21) rfl)
theorem qt_X7_swap : Cond.static yX7_swap ∈ wsL_law := qr_11 _ (List.mem_of_getElem? (i := 22) rfl)
theorem qc_X7_swap : Cond.code yX7_swap cX7_swap 4 none ∈ wsL_law := qr_11 _ (List.mem_of_getElem? (i := 23) rfl)
theorem qm_L_95 : Cond.methodLink RL 95 yL_absent ∈ wsL_law := qr_12 _ (List.mem_of_getElem? (i := 0) rfl)
theorem qt_L_absent : Cond.static yL_absent ∈ wsL_law := qr_12 _ (List.mem_of_getElem? (i := 1) rfl)
theorem qc_L_absent : Cond.codeWith yL_absent cL_absent 5 (some .int) [(0, 10, 13, 25), (0, 10, 17, 13)] ∈ wsL_law := qr_12 _ (List.mem_of_getElem? (i := 2) rfl)
theorem qm_L_30 : Cond.methodLink RL 30 yX5_absent ∈ wsL_law := qr_12 _ (List.mem_of_getElem? (i := 3) rfl)
theorem qi_X5_absent : Cond.instanceMethod yX5_absent ∈ wsL_law := qr_12 _ (List.mem_of_getElem? (i := 4) rfl)
theorem qs_X5_absent : Cond.selects RX5 yX5_absent yX5_absent ∈ wsL_law := qr_12 _ (List.mem_of_getElem? (i := 5) rfl)
theorem qc_X5_absent : Cond.code yX5_absent cX5_absent 5 (some .int) ∈ wsL_law := qr_12 _ (List.mem_of_getElem? (i := 6) rfl)
theorem qf_X5_98 : Cond.fieldLink RX5 98 "BandDay$Player" "absences" "I" ∈ wsL_law := qr_12 _ (List.mem_of_getElem? (i := 7) rfl)
theorem qm_L_98 : Cond.methodLink RL 98 yX7_absent ∈ wsL_law := qr_12 _ (List.mem_of_getElem? (i := 8) rfl)
theorem qi_X7_absent : Cond.instanceMethod yX7_absent ∈ wsL_law := qr_12 _ (List.mem_of_getElem? (i := 9) rfl)
theorem qs_X7_absent : Cond.selects RX7 yX7_absent yX7_absent ∈ wsL_law := qr_12 _ (List.mem_of_getElem? (i := 10) rfl)
theorem qc_X7_absent : Cond.code yX7_absent cX7_absent 4 (some .int) ∈ wsL_law := qr_12 _ (List.mem_of_getElem? (i := 11) rfl)
theorem qm_L_99 : Cond.methodLink RL 99 yL_rehearse ∈ wsL_law := qr_12 _ (List.mem_of_getElem? (i := 12) rfl)
theorem qt_L_rehearse : Cond.static yL_rehearse ∈ wsL_law := qr_12 _ (List.mem_of_getElem? (i := 13) rfl)
theorem qc_L_rehearse : Cond.codeWith yL_rehearse cL_rehearse 4 (some .int) [(0, 9, 12, 25)] ∈ wsL_law := qr_12 _ (List.mem_of_getElem? (i := 14) rfl)
theorem qm_L_34 : Cond.methodLink RL 34 yX5_rehearse ∈ wsL_law := qr_12 _ (List.mem_of_getElem? (i := 15) rfl)
theorem qi_X5_rehearse : Cond.instanceMethod yX5_rehearse ∈ wsL_law := qr_12 _ (List.mem_of_getElem? (i := 16) rfl)
theorem qs_X5_rehearse : Cond.selects RX5 yX5_rehearse yX5_rehearse ∈ wsL_law := qr_12 _ (List.mem_of_getElem? (i := 17) rfl)
theorem qc_X5_rehearse : Cond.code yX5_rehearse cX5_rehearse 3 (some .int) ∈ wsL_law := qr_12 _ (List.mem_of_getElem? (i := 18) rfl)
theorem qf_X5_116 : Cond.fieldLink RX5 116 "BandDay$Band" "spirit" "I" ∈ wsL_law := qr_12 _ (List.mem_of_getElem? (i := 19) rfl)
theorem qm_X5_107 : Cond.methodLink RX5 107 yX0_raiseSpirit ∈ wsL_law := qr_12 _ (List.mem_of_getElem? (i := 20) rfl)
theorem qi_X0_raiseSpirit : Cond.instanceMethod yX0_raiseSpirit ∈ wsL_law := qr_12 _ (List.mem_of_getElem? (i := 21) rfl)
theorem qs_X0_raiseSpirit : Cond.selects RX0 yX0_raiseSpirit yX0_raiseSpirit ∈ wsL_law := qr_12 _ (List.mem_of_getElem? (i := 22) rfl)
theorem qc_X0_raiseSpirit : Cond.code yX0_raiseSpirit cX0_raiseSpirit 2 none ∈ wsL_law := qr_12 _ (List.mem_of_getElem? (i := 23) rfl)
theorem qf_X0_38 : Cond.fieldLink RX0 38 "BandDay$Band" "spirit" "I" ∈ wsL_law := qr_13 _ (List.mem_of_getElem? (i := 0) rfl)
theorem qm_X0_56 : Cond.methodLink RX0 56 Lib.Math.max.name ∈ wsL_law := qr_13 _ (List.mem_of_getElem? (i := 1) rfl)
theorem qt_Lib_Math_max_name : Cond.static Lib.Math.max.name ∈ wsL_law := qr_13 _ (List.mem_of_getElem? (i := 2) rfl)
theorem qc_Lib_Math_max_name : Cond.code Lib.Math.max.name Lib.Math.max.code 2 (some .int) ∈ wsL_law := qr_13 _ (List.mem_of_getElem? (i := 3) rfl)
theorem qm_X5_112 : Cond.methodLink RX5 112 yX4_tireMembers ∈ wsL_law := qr_13 _ (List.mem_of_getElem? (i := 4) rfl)
theorem qi_X4_tireMembers : Cond.instanceMethod yX4_tireMembers ∈ wsL_law := qr_13 _ (List.mem_of_getElem? (i := 5) rfl)
theorem qs_X4_tireMembers : Cond.selects RX4 yX4_tireMembers yX4_tireMembers ∈ wsL_law := qr_13 _ (List.mem_of_getElem? (i := 6) rfl)
theorem qc_X4_tireMembers : Cond.code yX4_tireMembers cX4_tireMembers 5 none ∈ wsL_law := qr_13 _ (List.mem_of_getElem? (i := 7) rfl)
theorem qf_X4_98 : Cond.fieldLink RX4 98 "BandDay$Band" "size" "I" ∈ wsL_law := qr_13 _ (List.mem_of_getElem? (i := 8) rfl)
theorem qf_X4_101 : Cond.fieldLink RX4 101 "BandDay$Band" "chairs" "[LBandDay$Chair;" ∈ wsL_law := qr_13 _ (List.mem_of_getElem? (i := 9) rfl)
theorem qm_X4_105 : Cond.methodLink RX4 105 yX3_isThere ∈ wsL_law := qr_13 _ (List.mem_of_getElem? (i := 10) rfl)
theorem qi_X3_isThere : Cond.instanceMethod yX3_isThere ∈ wsL_law := qr_13 _ (List.mem_of_getElem? (i := 11) rfl)
theorem qs_X3_isThere : Cond.selects RX3 yX3_isThere yX3_isThere ∈ wsL_law := qr_13 _ (List.mem_of_getElem? (i := 12) rfl)
theorem qc_X3_isThere : Cond.code yX3_isThere cX3_isThere 1 (some .boolean) ∈ wsL_law := qr_13 _ (List.mem_of_getElem? (i := 13) rfl)
theorem qf_X3_31 : Cond.fieldLink RX3 31 "BandDay$Player" "absences" "I" ∈ wsL_law := qr_13 _ (List.mem_of_getElem? (i := 14) rfl)
theorem qm_X4_109 : Cond.methodLink RX4 109 yX3_tire ∈ wsL_law := qr_13 _ (List.mem_of_getElem? (i := 15) rfl)
theorem qi_X3_tire : Cond.instanceMethod yX3_tire ∈ wsL_law := qr_13 _ (List.mem_of_getElem? (i := 16) rfl)
theorem qs_X3_tire : Cond.selects RX3 yX3_tire yX3_tire ∈ wsL_law := qr_13 _ (List.mem_of_getElem? (i := 17) rfl)
theorem qc_X3_tire : Cond.code yX3_tire cX3_tire 2 none ∈ wsL_law := qr_13 _ (List.mem_of_getElem? (i := 18) rfl)
theorem qf_X3_28 : Cond.fieldLink RX3 28 "BandDay$Player" "tired" "I" ∈ wsL_law := qr_13 _ (List.mem_of_getElem? (i := 19) rfl)
theorem qm_X3_47 : Cond.methodLink RX3 47 Lib.Math.min.name ∈ wsL_law := qr_13 _ (List.mem_of_getElem? (i := 20) rfl)
theorem qm_L_101 : Cond.methodLink RL 101 yX7_rehearse ∈ wsL_law := qr_13 _ (List.mem_of_getElem? (i := 21) rfl)
theorem qi_X7_rehearse : Cond.instanceMethod yX7_rehearse ∈ wsL_law := qr_13 _ (List.mem_of_getElem? (i := 22) rfl)
theorem qs_X7_rehearse : Cond.selects RX7 yX7_rehearse yX7_rehearse ∈ wsL_law := qr_13 _ (List.mem_of_getElem? (i := 23) rfl)
theorem qc_X7_rehearse : Cond.code yX7_rehearse cX7_rehearse 4 (some .int) ∈ wsL_law := qr_14 _ (List.mem_of_getElem? (i := 0) rfl)
theorem qm_X7_95 : Cond.methodLink RX7 95 Lib.Math.min.name ∈ wsL_law := qr_14 _ (List.mem_of_getElem? (i := 1) rfl)
theorem qm_L_102 : Cond.methodLink RL 102 yL_setPiece ∈ wsL_law := qr_14 _ (List.mem_of_getElem? (i := 2) rfl)
theorem qt_L_setPiece : Cond.static yL_setPiece ∈ wsL_law := qr_14 _ (List.mem_of_getElem? (i := 3) rfl)
theorem qc_L_setPiece : Cond.codeWith yL_setPiece cL_setPiece 5 (some .int) [(0, 10, 13, 25), (0, 10, 17, 13)] ∈ wsL_law := qr_14 _ (List.mem_of_getElem? (i := 4) rfl)
theorem qm_L_37 : Cond.methodLink RL 37 yX5_setPiece ∈ wsL_law := qr_14 _ (List.mem_of_getElem? (i := 5) rfl)
theorem qi_X5_setPiece : Cond.instanceMethod yX5_setPiece ∈ wsL_law := qr_14 _ (List.mem_of_getElem? (i := 6) rfl)
theorem qs_X5_setPiece : Cond.selects RX5 yX5_setPiece yX5_setPiece ∈ wsL_law := qr_14 _ (List.mem_of_getElem? (i := 7) rfl)
theorem qc_X5_setPiece : Cond.code yX5_setPiece cX5_setPiece 4 (some .int) ∈ wsL_law := qr_14 _ (List.mem_of_getElem? (i := 8) rfl)
theorem qf_X5_124 : Cond.fieldLink RX5 124 "BandDay$Season" "hard" "[I" ∈ wsL_law := qr_14 _ (List.mem_of_getElem? (i := 9) rfl)
theorem qm_X5_119 : Cond.methodLink RX5 119 yX5_needInstrument ∈ wsL_law := qr_14 _ (List.mem_of_getElem? (i := 10) rfl)
theorem qt_X5_needInstrument : Cond.static yX5_needInstrument ∈ wsL_law := qr_14 _ (List.mem_of_getElem? (i := 11) rfl)
theorem qc_X5_needInstrument : Cond.code yX5_needInstrument cX5_needInstrument 1 none ∈ wsL_law := qr_14 _ (List.mem_of_getElem? (i := 12) rfl)
theorem qm_L_104 : Cond.methodLink RL 104 yX7_setPiece ∈ wsL_law := qr_14 _ (List.mem_of_getElem? (i := 13) rfl)
theorem qi_X7_setPiece : Cond.instanceMethod yX7_setPiece ∈ wsL_law := qr_14 _ (List.mem_of_getElem? (i := 14) rfl)
theorem qs_X7_setPiece : Cond.selects RX7 yX7_setPiece yX7_setPiece ∈ wsL_law := qr_14 _ (List.mem_of_getElem? (i := 15) rfl)
theorem qc_X7_setPiece : Cond.code yX7_setPiece cX7_setPiece 4 (some .int) ∈ wsL_law := qr_14 _ (List.mem_of_getElem? (i := 16) rfl)
theorem qm_L_105 : Cond.methodLink RL 105 yL_setTaste ∈ wsL_law := qr_14 _ (List.mem_of_getElem? (i := 17) rfl)
theorem qt_L_setTaste : Cond.static yL_setTaste ∈ wsL_law := qr_14 _ (List.mem_of_getElem? (i := 18) rfl)
theorem qc_L_setTaste : Cond.codeWith yL_setTaste cL_setTaste 5 (some .int) [(0, 10, 13, 25), (0, 10, 17, 13)] ∈ wsL_law := qr_14 _ (List.mem_of_getElem? (i := 19) rfl)
theorem qm_L_40 : Cond.methodLink RL 40 yX5_setTaste ∈ wsL_law := qr_14 _ (List.mem_of_getElem? (i := 20) rfl)
theorem qi_X5_setTaste : Cond.instanceMethod yX5_setTaste ∈ wsL_law := qr_14 _ (List.mem_of_getElem? (i := 21) rfl)
theorem qs_X5_setTaste : Cond.selects RX5 yX5_setTaste yX5_setTaste ∈ wsL_law := qr_14 _ (List.mem_of_getElem? (i := 22) rfl)
theorem qc_X5_setTaste : Cond.code yX5_setTaste cX5_setTaste 4 (some .int) ∈ wsL_law := qr_14 _ (List.mem_of_getElem? (i := 23) rfl)
theorem qf_X5_130 : Cond.fieldLink RX5 130 "BandDay$Season" "weight" "[I" ∈ wsL_law := qr_15 _ (List.mem_of_getElem? (i := 0) rfl)
theorem qm_L_107 : Cond.methodLink RL 107 yX7_setTaste ∈ wsL_law := qr_15 _ (List.mem_of_getElem? (i := 1) rfl)
theorem qi_X7_setTaste : Cond.instanceMethod yX7_setTaste ∈ wsL_law := qr_15 _ (List.mem_of_getElem? (i := 2) rfl)
theorem qs_X7_setTaste : Cond.selects RX7 yX7_setTaste yX7_setTaste ∈ wsL_law := qr_15 _ (List.mem_of_getElem? (i := 3) rfl)
theorem qc_X7_setTaste : Cond.code yX7_setTaste cX7_setTaste 4 (some .int) ∈ wsL_law := qr_15 _ (List.mem_of_getElem? (i := 4) rfl)
theorem qm_L_108 : Cond.methodLink RL 108 yL_player ∈ wsL_law := qr_15 _ (List.mem_of_getElem? (i := 5) rfl)
theorem qt_L_player : Cond.static yL_player ∈ wsL_law := qr_15 _ (List.mem_of_getElem? (i := 6) rfl)
theorem qc_L_player : Cond.codeWith yL_player cL_player 5 (some .int) [(0, 10, 13, 25)] ∈ wsL_law := qr_15 _ (List.mem_of_getElem? (i := 7) rfl)
theorem qm_L_43 : Cond.methodLink RL 43 yX5_player ∈ wsL_law := qr_15 _ (List.mem_of_getElem? (i := 8) rfl)
theorem qi_X5_player : Cond.instanceMethod yX5_player ∈ wsL_law := qr_15 _ (List.mem_of_getElem? (i := 9) rfl)
theorem qs_X5_player : Cond.selects RX5 yX5_player yX5_player ∈ wsL_law := qr_15 _ (List.mem_of_getElem? (i := 10) rfl)
theorem qc_X5_player : Cond.code yX5_player cX5_player 4 (some .int) ∈ wsL_law := qr_15 _ (List.mem_of_getElem? (i := 11) rfl)
theorem qm_X5_133 : Cond.methodLink RX5 133 yX5_needWhat ∈ wsL_law := qr_15 _ (List.mem_of_getElem? (i := 12) rfl)
theorem qt_X5_needWhat : Cond.static yX5_needWhat ∈ wsL_law := qr_15 _ (List.mem_of_getElem? (i := 13) rfl)
theorem qc_X5_needWhat : Cond.code yX5_needWhat cX5_needWhat 2 none ∈ wsL_law := qr_15 _ (List.mem_of_getElem? (i := 14) rfl)
theorem qm_X5_137 : Cond.methodLink RX5 137 yX3_tell ∈ wsL_law := qr_15 _ (List.mem_of_getElem? (i := 15) rfl)
theorem qi_X3_tell : Cond.instanceMethod yX3_tell ∈ wsL_law := qr_15 _ (List.mem_of_getElem? (i := 16) rfl)
theorem qs_X3_tell : Cond.selects RX3 yX3_tell yX3_tell ∈ wsL_law := qr_15 _ (List.mem_of_getElem? (i := 17) rfl)
theorem qc_X3_tell : Cond.code yX3_tell cX3_tell 2 (some .int) ∈ wsL_law := qr_15 _ (List.mem_of_getElem? (i := 18) rfl)
theorem qf_X3_34 : Cond.fieldLink RX3 34 "BandDay$Player" "sittings" "I" ∈ wsL_law := qr_15 _ (List.mem_of_getElem? (i := 19) rfl)
theorem qf_X3_37 : Cond.fieldLink RX3 37 "BandDay$Player" "deputySittings" "I" ∈ wsL_law := qr_15 _ (List.mem_of_getElem? (i := 20) rfl)
theorem qm_X3_56 : Cond.methodLink RX3 56 yX3_skillFor ∈ wsL_law := qr_15 _ (List.mem_of_getElem? (i := 21) rfl)
theorem qi_X3_skillFor : Cond.instanceMethod yX3_skillFor ∈ wsL_law := qr_15 _ (List.mem_of_getElem? (i := 22) rfl)
theorem qs_X3_skillFor : Cond.selects RX3 yX3_skillFor yX3_skillFor ∈ wsL_law := qr_15 _ (List.mem_of_getElem? (i := 23) rfl)
theorem qc_X3_skillFor : Cond.code yX3_skillFor cX3_skillFor 2 (some .int) ∈ wsL_law := qr_16 _ (List.mem_of_getElem? (i := 0) rfl)
theorem qm_L_110 : Cond.methodLink RL 110 yX7_player ∈ wsL_law := qr_16 _ (List.mem_of_getElem? (i := 1) rfl)
theorem qi_X7_player : Cond.instanceMethod yX7_player ∈ wsL_law := qr_16 _ (List.mem_of_getElem? (i := 2) rfl)
theorem qs_X7_player : Cond.selects RX7 yX7_player yX7_player ∈ wsL_law := qr_16 _ (List.mem_of_getElem? (i := 3) rfl)
theorem qc_X7_player : Cond.code yX7_player cX7_player 3 (some .int) ∈ wsL_law := qr_16 _ (List.mem_of_getElem? (i := 4) rfl)
theorem qm_X7_110 : Cond.methodLink RX7 110 yX7_playerTold ∈ wsL_law := qr_16 _ (List.mem_of_getElem? (i := 5) rfl)
theorem qi_X7_playerTold : Cond.instanceMethod yX7_playerTold ∈ wsL_law := qr_16 _ (List.mem_of_getElem? (i := 6) rfl)
theorem qs_X7_playerTold : Cond.selects RX7 yX7_playerTold yX7_playerTold ∈ wsL_law := qr_16 _ (List.mem_of_getElem? (i := 7) rfl)
theorem qc_X7_playerTold : Cond.code yX7_playerTold cX7_playerTold 4 (some .int) ∈ wsL_law := qr_16 _ (List.mem_of_getElem? (i := 8) rfl)
theorem qm_L_111 : Cond.methodLink RL 111 yL_band ∈ wsL_law := qr_16 _ (List.mem_of_getElem? (i := 9) rfl)
theorem qt_L_band : Cond.static yL_band ∈ wsL_law := qr_16 _ (List.mem_of_getElem? (i := 10) rfl)
theorem qc_L_band : Cond.codeWith yL_band cL_band 5 (some .int) [(0, 10, 13, 25)] ∈ wsL_law := qr_16 _ (List.mem_of_getElem? (i := 11) rfl)
theorem qm_L_46 : Cond.methodLink RL 46 yX5_band ∈ wsL_law := qr_16 _ (List.mem_of_getElem? (i := 12) rfl)
theorem qi_X5_band : Cond.instanceMethod yX5_band ∈ wsL_law := qr_16 _ (List.mem_of_getElem? (i := 13) rfl)
theorem qs_X5_band : Cond.selects RX5 yX5_band yX5_band ∈ wsL_law := qr_16 _ (List.mem_of_getElem? (i := 14) rfl)
theorem qc_X5_band : Cond.code yX5_band cX5_band 4 (some .int) ∈ wsL_law := qr_16 _ (List.mem_of_getElem? (i := 15) rfl)
theorem qm_X5_140 : Cond.methodLink RX5 140 yX0_tell ∈ wsL_law := qr_16 _ (List.mem_of_getElem? (i := 16) rfl)
theorem qi_X0_tell : Cond.instanceMethod yX0_tell ∈ wsL_law := qr_16 _ (List.mem_of_getElem? (i := 17) rfl)
theorem qs_X0_tell : Cond.selects RX0 yX0_tell yX0_tell ∈ wsL_law := qr_16 _ (List.mem_of_getElem? (i := 18) rfl)
theorem qc_X0_tell : Cond.code yX0_tell cX0_tell 2 (some .int) ∈ wsL_law := qr_16 _ (List.mem_of_getElem? (i := 19) rfl)
theorem qf_X0_41 : Cond.fieldLink RX0 41 "BandDay$Band" "points" "I" ∈ wsL_law := qr_16 _ (List.mem_of_getElem? (i := 20) rfl)
theorem qf_X0_44 : Cond.fieldLink RX0 44 "BandDay$Band" "outs" "I" ∈ wsL_law := qr_16 _ (List.mem_of_getElem? (i := 21) rfl)
theorem qm_X0_72 : Cond.methodLink RX0 72 yX0_members ∈ wsL_law := qr_16 _ (List.mem_of_getElem? (i := 22) rfl)
theorem qi_X0_members : Cond.instanceMethod yX0_members ∈ wsL_law := qr_16 _ (List.mem_of_getElem? (i := 23) rfl)
theorem qs_X0_members : Cond.selects RX0 yX0_members yX0_members ∈ wsL_law := qr_17 _ (List.mem_of_getElem? (i := 0) rfl)
theorem qc_X0_members : Cond.code yX0_members cX0_members 3 (some .int) ∈ wsL_law := qr_17 _ (List.mem_of_getElem? (i := 1) rfl)
theorem qf_X0_59 : Cond.fieldLink RX0 59 "BandDay$Chair" "member" "I" ∈ wsL_law := qr_17 _ (List.mem_of_getElem? (i := 2) rfl)
theorem qm_L_113 : Cond.methodLink RL 113 yX7_band ∈ wsL_law := qr_17 _ (List.mem_of_getElem? (i := 3) rfl)
theorem qi_X7_band : Cond.instanceMethod yX7_band ∈ wsL_law := qr_17 _ (List.mem_of_getElem? (i := 4) rfl)
theorem qs_X7_band : Cond.selects RX7 yX7_band yX7_band ∈ wsL_law := qr_17 _ (List.mem_of_getElem? (i := 5) rfl)
theorem qc_X7_band : Cond.code yX7_band cX7_band 3 (some .int) ∈ wsL_law := qr_17 _ (List.mem_of_getElem? (i := 6) rfl)
theorem qm_X7_122 : Cond.methodLink RX7 122 yX7_bandTold ∈ wsL_law := qr_17 _ (List.mem_of_getElem? (i := 7) rfl)
theorem qi_X7_bandTold : Cond.instanceMethod yX7_bandTold ∈ wsL_law := qr_17 _ (List.mem_of_getElem? (i := 8) rfl)
theorem qs_X7_bandTold : Cond.selects RX7 yX7_bandTold yX7_bandTold ∈ wsL_law := qr_17 _ (List.mem_of_getElem? (i := 9) rfl)
theorem qc_X7_bandTold : Cond.code yX7_bandTold cX7_bandTold 4 (some .int) ∈ wsL_law := qr_17 _ (List.mem_of_getElem? (i := 10) rfl)
theorem qm_X7_113 : Cond.methodLink RX7 113 yX6_members ∈ wsL_law := qr_17 _ (List.mem_of_getElem? (i := 11) rfl)
theorem qi_X6_members : Cond.instanceMethod yX6_members ∈ wsL_law := qr_17 _ (List.mem_of_getElem? (i := 12) rfl)
theorem qs_X6_members : Cond.selects RX6 yX6_members yX6_members ∈ wsL_law := qr_17 _ (List.mem_of_getElem? (i := 13) rfl)
theorem qc_X6_members : Cond.code yX6_members cX6_members 4 (some .int) ∈ wsL_law := qr_17 _ (List.mem_of_getElem? (i := 14) rfl)
theorem qm_L_114 : Cond.methodLink RL 114 yL_chair ∈ wsL_law := qr_17 _ (List.mem_of_getElem? (i := 15) rfl)
theorem qt_L_chair : Cond.static yL_chair ∈ wsL_law := qr_17 _ (List.mem_of_getElem? (i := 16) rfl)
theorem qc_L_chair : Cond.codeWith yL_chair cL_chair 6 (some .int) [(0, 12, 15, 25)] ∈ wsL_law := qr_17 _ (List.mem_of_getElem? (i := 17) rfl)
theorem qm_L_49 : Cond.methodLink RL 49 yX5_chair ∈ wsL_law := qr_17 _ (List.mem_of_getElem? (i := 18) rfl)
theorem qi_X5_chair : Cond.instanceMethod yX5_chair ∈ wsL_law := qr_17 _ (List.mem_of_getElem? (i := 19) rfl)
theorem qs_X5_chair : Cond.selects RX5 yX5_chair yX5_chair ∈ wsL_law := qr_17 _ (List.mem_of_getElem? (i := 20) rfl)
theorem qc_X5_chair : Cond.code yX5_chair cX5_chair 5 (some .int) ∈ wsL_law := qr_17 _ (List.mem_of_getElem? (i := 21) rfl)
theorem qm_X5_141 : Cond.methodLink RX5 141 yX1_tell ∈ wsL_law := qr_17 _ (List.mem_of_getElem? (i := 22) rfl)
theorem qi_X1_tell : Cond.instanceMethod yX1_tell ∈ wsL_law := qr_17 _ (List.mem_of_getElem? (i := 23) rfl)
theorem qs_X1_tell : Cond.selects RX1 yX1_tell yX1_tell ∈ wsL_law := qr_18 _ (List.mem_of_getElem? (i := 0) rfl)
theorem qc_X1_tell : Cond.code yX1_tell cX1_tell 2 (some .int) ∈ wsL_law := qr_18 _ (List.mem_of_getElem? (i := 1) rfl)
theorem qf_X1_18 : Cond.fieldLink RX1 18 "BandDay$Chair" "instrument" "I" ∈ wsL_law := qr_18 _ (List.mem_of_getElem? (i := 2) rfl)
theorem qm_L_116 : Cond.methodLink RL 116 yX7_chair ∈ wsL_law := qr_18 _ (List.mem_of_getElem? (i := 3) rfl)
theorem qi_X7_chair : Cond.instanceMethod yX7_chair ∈ wsL_law := qr_18 _ (List.mem_of_getElem? (i := 4) rfl)
theorem qs_X7_chair : Cond.selects RX7 yX7_chair yX7_chair ∈ wsL_law := qr_18 _ (List.mem_of_getElem? (i := 5) rfl)
theorem qc_X7_chair : Cond.code yX7_chair cX7_chair 4 (some .int) ∈ wsL_law := qr_18 _ (List.mem_of_getElem? (i := 6) rfl)
theorem qm_X7_125 : Cond.methodLink RX7 125 yX7_chairTold ∈ wsL_law := qr_18 _ (List.mem_of_getElem? (i := 7) rfl)
theorem qi_X7_chairTold : Cond.instanceMethod yX7_chairTold ∈ wsL_law := qr_18 _ (List.mem_of_getElem? (i := 8) rfl)
theorem qs_X7_chairTold : Cond.selects RX7 yX7_chairTold yX7_chairTold ∈ wsL_law := qr_18 _ (List.mem_of_getElem? (i := 9) rfl)
theorem qc_X7_chairTold : Cond.code yX7_chairTold cX7_chairTold 3 (some .int) ∈ wsL_law := qr_18 _ (List.mem_of_getElem? (i := 10) rfl)
theorem qm_L_117 : Cond.methodLink RL 117 yL_contest ∈ wsL_law := qr_18 _ (List.mem_of_getElem? (i := 11) rfl)
theorem qt_L_contest : Cond.static yL_contest ∈ wsL_law := qr_18 _ (List.mem_of_getElem? (i := 12) rfl)
theorem qc_L_contest : Cond.codeWith yL_contest cL_contest 3 (some .int) [(0, 8, 11, 15)] ∈ wsL_law := qr_18 _ (List.mem_of_getElem? (i := 13) rfl)
theorem qm_L_52 : Cond.methodLink RL 52 yX5_contest ∈ wsL_law := qr_18 _ (List.mem_of_getElem? (i := 14) rfl)
theorem qi_X5_contest : Cond.instanceMethod yX5_contest ∈ wsL_law := qr_18 _ (List.mem_of_getElem? (i := 15) rfl)
theorem qs_X5_contest : Cond.selects RX5 yX5_contest yX5_contest ∈ wsL_law := qr_18 _ (List.mem_of_getElem? (i := 16) rfl)
theorem qc_X5_contest : Cond.code yX5_contest cX5_contest 1 (some .int) ∈ wsL_law := qr_18 _ (List.mem_of_getElem? (i := 17) rfl)
theorem qm_X5_144 : Cond.methodLink RX5 144 yX2_hold ∈ wsL_law := qr_18 _ (List.mem_of_getElem? (i := 18) rfl)
theorem qi_X2_hold : Cond.instanceMethod yX2_hold ∈ wsL_law := qr_18 _ (List.mem_of_getElem? (i := 19) rfl)
theorem qs_X2_hold : Cond.selects RX2 yX2_hold yX2_hold ∈ wsL_law := qr_18 _ (List.mem_of_getElem? (i := 20) rfl)
theorem qc_X2_hold : Cond.code yX2_hold cX2_hold 4 (some .int) ∈ wsL_law := qr_18 _ (List.mem_of_getElem? (i := 21) rfl)
theorem qf_X2_18 : Cond.fieldLink RX2 18 "BandDay$Season" "bandCount" "I" ∈ wsL_law := qr_18 _ (List.mem_of_getElem? (i := 22) rfl)
theorem qf_X2_36 : Cond.fieldLink RX2 36 "BandDay$Season" "bands" "[LBandDay$Band;" ∈ wsL_law := qr_18 _ (List.mem_of_getElem? (i := 23) rfl)
theorem qf_X2_51 : Cond.fieldLink RX2 51 "BandDay$Season" "playerCount" "I" ∈ wsL_law := qr_19 _ (List.mem_of_getElem? (i := 0) rfl)
theorem qf_X2_54 : Cond.fieldLink RX2 54 "BandDay$Season" "players" "[LBandDay$Player;" ∈ wsL_law := qr_19 _ (List.mem_of_getElem? (i := 1) rfl)
theorem qf_X2_58 : Cond.fieldLink RX2 58 "BandDay$Player" "absences" "I" ∈ wsL_law := qr_19 _ (List.mem_of_getElem? (i := 2) rfl)
theorem qm_X2_63 : Cond.methodLink RX2 63 Lib.Math.max.name ∈ wsL_law := qr_19 _ (List.mem_of_getElem? (i := 3) rfl)
theorem qf_X2_69 : Cond.fieldLink RX2 69 "BandDay$Season" "contests" "I" ∈ wsL_law := qr_19 _ (List.mem_of_getElem? (i := 4) rfl)
theorem qm_X2_15 : Cond.methodLink RX2 15 yX2_forgetDeputies ∈ wsL_law := qr_19 _ (List.mem_of_getElem? (i := 5) rfl)
theorem qi_X2_forgetDeputies : Cond.instanceMethod yX2_forgetDeputies ∈ wsL_law := qr_19 _ (List.mem_of_getElem? (i := 6) rfl)
theorem qs_X2_forgetDeputies : Cond.selects RX2 yX2_forgetDeputies yX2_forgetDeputies ∈ wsL_law := qr_19 _ (List.mem_of_getElem? (i := 7) rfl)
theorem qc_X2_forgetDeputies : Cond.code yX2_forgetDeputies cX2_forgetDeputies 2 none ∈ wsL_law := qr_19 _ (List.mem_of_getElem? (i := 8) rfl)
theorem qf_X2_87 : Cond.fieldLink RX2 87 "BandDay$Player" "deputyToday" "I" ∈ wsL_law := qr_19 _ (List.mem_of_getElem? (i := 9) rfl)
theorem qm_X2_24 : Cond.methodLink RX2 24 yX2_bandInTurn ∈ wsL_law := qr_19 _ (List.mem_of_getElem? (i := 10) rfl)
theorem qi_X2_bandInTurn : Cond.instanceMethod yX2_bandInTurn ∈ wsL_law := qr_19 _ (List.mem_of_getElem? (i := 11) rfl)
theorem qs_X2_bandInTurn : Cond.selects RX2 yX2_bandInTurn yX2_bandInTurn ∈ wsL_law := qr_19 _ (List.mem_of_getElem? (i := 12) rfl)
theorem qc_X2_bandInTurn : Cond.code yX2_bandInTurn cX2_bandInTurn 3 (some .int) ∈ wsL_law := qr_19 _ (List.mem_of_getElem? (i := 13) rfl)
theorem qm_X2_28 : Cond.methodLink RX2 28 yX2_play ∈ wsL_law := qr_19 _ (List.mem_of_getElem? (i := 14) rfl)
theorem qi_X2_play : Cond.instanceMethod yX2_play ∈ wsL_law := qr_19 _ (List.mem_of_getElem? (i := 15) rfl)
theorem qs_X2_play : Cond.selects RX2 yX2_play yX2_play ∈ wsL_law := qr_19 _ (List.mem_of_getElem? (i := 16) rfl)
theorem qc_X2_play : Cond.code yX2_play cX2_play 3 none ∈ wsL_law := qr_19 _ (List.mem_of_getElem? (i := 17) rfl)
theorem qf_X2_90 : Cond.fieldLink RX2 90 "BandDay$Band" "marks" "I" ∈ wsL_law := qr_19 _ (List.mem_of_getElem? (i := 18) rfl)
theorem qf_X2_93 : Cond.fieldLink RX2 93 "BandDay$Band" "deputies" "I" ∈ wsL_law := qr_19 _ (List.mem_of_getElem? (i := 19) rfl)
theorem qf_X2_99 : Cond.fieldLink RX2 99 "BandDay$Band" "empties" "I" ∈ wsL_law := qr_19 _ (List.mem_of_getElem? (i := 20) rfl)
theorem qf_X2_106 : Cond.fieldLink RX2 106 "BandDay$Band" "outs" "I" ∈ wsL_law := qr_19 _ (List.mem_of_getElem? (i := 21) rfl)
theorem qf_X2_109 : Cond.fieldLink RX2 109 "BandDay$Season" "deputies" "I" ∈ wsL_law := qr_19 _ (List.mem_of_getElem? (i := 22) rfl)
theorem qf_X2_110 : Cond.fieldLink RX2 110 "BandDay$Season" "empties" "I" ∈ wsL_law := qr_19 _ (List.mem_of_getElem? (i := 23) rfl)
theorem qm_X2_72 : Cond.methodLink RX2 72 yX4_bandAt ∈ wsL_law := qr_20 _ (List.mem_of_getElem? (i := 0) rfl)
theorem qm_X2_76 : Cond.methodLink RX2 76 yX2_marksOnceSeated ∈ wsL_law := qr_20 _ (List.mem_of_getElem? (i := 1) rfl)
theorem qi_X2_marksOnceSeated : Cond.instanceMethod yX2_marksOnceSeated ∈ wsL_law := qr_20 _ (List.mem_of_getElem? (i := 2) rfl)
theorem qs_X2_marksOnceSeated : Cond.selects RX2 yX2_marksOnceSeated yX2_marksOnceSeated ∈ wsL_law := qr_20 _ (List.mem_of_getElem? (i := 3) rfl)
theorem qc_X2_marksOnceSeated : Cond.code yX2_marksOnceSeated cX2_marksOnceSeated 3 (some .int) ∈ wsL_law := qr_20 _ (List.mem_of_getElem? (i := 4) rfl)
theorem qf_X2_118 : Cond.fieldLink RX2 118 "BandDay$Player" "sits" "Z" ∈ wsL_law := qr_20 _ (List.mem_of_getElem? (i := 5) rfl)
theorem qm_X2_122 : Cond.methodLink RX2 122 yX2_seatMembers ∈ wsL_law := qr_20 _ (List.mem_of_getElem? (i := 6) rfl)
theorem qi_X2_seatMembers : Cond.instanceMethod yX2_seatMembers ∈ wsL_law := qr_20 _ (List.mem_of_getElem? (i := 7) rfl)
theorem qs_X2_seatMembers : Cond.selects RX2 yX2_seatMembers yX2_seatMembers ∈ wsL_law := qr_20 _ (List.mem_of_getElem? (i := 8) rfl)
theorem qc_X2_seatMembers : Cond.code yX2_seatMembers cX2_seatMembers 5 none ∈ wsL_law := qr_20 _ (List.mem_of_getElem? (i := 9) rfl)
theorem qf_X2_80 : Cond.fieldLink RX2 80 "BandDay$Band" "size" "I" ∈ wsL_law := qr_20 _ (List.mem_of_getElem? (i := 10) rfl)
theorem qf_X2_131 : Cond.fieldLink RX2 131 "BandDay$Band" "chairs" "[LBandDay$Chair;" ∈ wsL_law := qr_20 _ (List.mem_of_getElem? (i := 11) rfl)
theorem qf_X2_135 : Cond.fieldLink RX2 135 "BandDay$Chair" "member" "I" ∈ wsL_law := qr_20 _ (List.mem_of_getElem? (i := 12) rfl)
theorem qf_X2_144 : Cond.fieldLink RX2 144 "BandDay$Chair" "sitter" "I" ∈ wsL_law := qr_20 _ (List.mem_of_getElem? (i := 13) rfl)
theorem qm_X2_140 : Cond.methodLink RX2 140 yX4_playerAt ∈ wsL_law := qr_20 _ (List.mem_of_getElem? (i := 14) rfl)
theorem qm_X2_147 : Cond.methodLink RX2 147 yX3_isThere ∈ wsL_law := qr_20 _ (List.mem_of_getElem? (i := 15) rfl)
theorem qm_X2_125 : Cond.methodLink RX2 125 yX2_seatDeputies ∈ wsL_law := qr_20 _ (List.mem_of_getElem? (i := 16) rfl)
theorem qi_X2_seatDeputies : Cond.instanceMethod yX2_seatDeputies ∈ wsL_law := qr_20 _ (List.mem_of_getElem? (i := 17) rfl)
theorem qs_X2_seatDeputies : Cond.selects RX2 yX2_seatDeputies yX2_seatDeputies ∈ wsL_law := qr_20 _ (List.mem_of_getElem? (i := 18) rfl)
theorem qc_X2_seatDeputies : Cond.code yX2_seatDeputies cX2_seatDeputies 5 none ∈ wsL_law := qr_20 _ (List.mem_of_getElem? (i := 19) rfl)
theorem qm_X2_151 : Cond.methodLink RX2 151 yX1_isEmpty ∈ wsL_law := qr_20 _ (List.mem_of_getElem? (i := 20) rfl)
theorem qi_X1_isEmpty : Cond.instanceMethod yX1_isEmpty ∈ wsL_law := qr_20 _ (List.mem_of_getElem? (i := 21) rfl)
theorem qs_X1_isEmpty : Cond.selects RX1 yX1_isEmpty yX1_isEmpty ∈ wsL_law := qr_20 _ (List.mem_of_getElem? (i := 22) rfl)
theorem qc_X1_isEmpty : Cond.code yX1_isEmpty cX1_isEmpty 1 (some .boolean) ∈ wsL_law := qr_20 _ (List.mem_of_getElem? (i := 23) rfl)
theorem qm_X2_154 : Cond.methodLink RX2 154 yX2_deputyFor ∈ wsL_law := qr_21 _ (List.mem_of_getElem? (i := 0) rfl)
theorem qi_X2_deputyFor : Cond.instanceMethod yX2_deputyFor ∈ wsL_law := qr_21 _ (List.mem_of_getElem? (i := 1) rfl)
theorem qs_X2_deputyFor : Cond.selects RX2 yX2_deputyFor yX2_deputyFor ∈ wsL_law := qr_21 _ (List.mem_of_getElem? (i := 2) rfl)
theorem qc_X2_deputyFor : Cond.code yX2_deputyFor cX2_deputyFor 12 (some .int) ∈ wsL_law := qr_21 _ (List.mem_of_getElem? (i := 3) rfl)
theorem qf_X2_158 : Cond.fieldLink RX2 158 "BandDay$Chair" "instrument" "I" ∈ wsL_law := qr_21 _ (List.mem_of_getElem? (i := 4) rfl)
theorem qf_X2_167 : Cond.fieldLink RX2 167 "BandDay$Player" "tired" "I" ∈ wsL_law := qr_21 _ (List.mem_of_getElem? (i := 5) rfl)
theorem qm_X2_161 : Cond.methodLink RX2 161 yX3_skillFor ∈ wsL_law := qr_21 _ (List.mem_of_getElem? (i := 6) rfl)
theorem qm_X2_164 : Cond.methodLink RX2 164 yX3_mayBeDeputy ∈ wsL_law := qr_21 _ (List.mem_of_getElem? (i := 7) rfl)
theorem qi_X3_mayBeDeputy : Cond.instanceMethod yX3_mayBeDeputy ∈ wsL_law := qr_21 _ (List.mem_of_getElem? (i := 8) rfl)
theorem qs_X3_mayBeDeputy : Cond.selects RX3 yX3_mayBeDeputy yX3_mayBeDeputy ∈ wsL_law := qr_21 _ (List.mem_of_getElem? (i := 9) rfl)
theorem qc_X3_mayBeDeputy : Cond.code yX3_mayBeDeputy cX3_mayBeDeputy 1 (some .boolean) ∈ wsL_law := qr_21 _ (List.mem_of_getElem? (i := 10) rfl)
theorem qf_X3_40 : Cond.fieldLink RX3 40 "BandDay$Player" "sits" "Z" ∈ wsL_law := qr_21 _ (List.mem_of_getElem? (i := 11) rfl)
theorem qf_X3_44 : Cond.fieldLink RX3 44 "BandDay$Player" "deputyToday" "I" ∈ wsL_law := qr_21 _ (List.mem_of_getElem? (i := 12) rfl)
theorem qm_X2_102 : Cond.methodLink RX2 102 yX2_isOut ∈ wsL_law := qr_21 _ (List.mem_of_getElem? (i := 13) rfl)
theorem qi_X2_isOut : Cond.instanceMethod yX2_isOut ∈ wsL_law := qr_21 _ (List.mem_of_getElem? (i := 14) rfl)
theorem qs_X2_isOut : Cond.selects RX2 yX2_isOut yX2_isOut ∈ wsL_law := qr_21 _ (List.mem_of_getElem? (i := 15) rfl)
theorem qc_X2_isOut : Cond.code yX2_isOut cX2_isOut 2 (some .boolean) ∈ wsL_law := qr_21 _ (List.mem_of_getElem? (i := 16) rfl)
theorem qm_X2_45 : Cond.methodLink RX2 45 yX0_deputiesSitting ∈ wsL_law := qr_21 _ (List.mem_of_getElem? (i := 17) rfl)
theorem qi_X0_deputiesSitting : Cond.instanceMethod yX0_deputiesSitting ∈ wsL_law := qr_21 _ (List.mem_of_getElem? (i := 18) rfl)
theorem qs_X0_deputiesSitting : Cond.selects RX0 yX0_deputiesSitting yX0_deputiesSitting ∈ wsL_law := qr_21 _ (List.mem_of_getElem? (i := 19) rfl)
theorem qc_X0_deputiesSitting : Cond.code yX0_deputiesSitting cX0_deputiesSitting 3 (some .int) ∈ wsL_law := qr_21 _ (List.mem_of_getElem? (i := 20) rfl)
theorem qm_X0_66 : Cond.methodLink RX0 66 yX1_hasDeputy ∈ wsL_law := qr_21 _ (List.mem_of_getElem? (i := 21) rfl)
theorem qi_X1_hasDeputy : Cond.instanceMethod yX1_hasDeputy ∈ wsL_law := qr_21 _ (List.mem_of_getElem? (i := 22) rfl)
theorem qs_X1_hasDeputy : Cond.selects RX1 yX1_hasDeputy yX1_hasDeputy ∈ wsL_law := qr_21 _ (List.mem_of_getElem? (i := 23) rfl)
theorem qc_X1_hasDeputy : Cond.code yX1_hasDeputy cX1_hasDeputy 1 (some .boolean) ∈ wsL_law := qr_22 _ (List.mem_of_getElem? (i := 0) rfl)
theorem qm_X2_128 : Cond.methodLink RX2 128 yX2_marksAsSeated ∈ wsL_law := qr_22 _ (List.mem_of_getElem? (i := 1) rfl)
theorem qi_X2_marksAsSeated : Cond.instanceMethod yX2_marksAsSeated ∈ wsL_law := qr_22 _ (List.mem_of_getElem? (i := 2) rfl)
theorem qs_X2_marksAsSeated : Cond.selects RX2 yX2_marksAsSeated yX2_marksAsSeated ∈ wsL_law := qr_22 _ (List.mem_of_getElem? (i := 3) rfl)
theorem qc_X2_marksAsSeated : Cond.code yX2_marksAsSeated cX2_marksAsSeated 6 (some .int) ∈ wsL_law := qr_22 _ (List.mem_of_getElem? (i := 4) rfl)
theorem qf_X2_170 : Cond.fieldLink RX2 170 "BandDay$Band" "spirit" "I" ∈ wsL_law := qr_22 _ (List.mem_of_getElem? (i := 5) rfl)
theorem qm_X2_173 : Cond.methodLink RX2 173 yX2_marksFor ∈ wsL_law := qr_22 _ (List.mem_of_getElem? (i := 6) rfl)
theorem qi_X2_marksFor : Cond.instanceMethod yX2_marksFor ∈ wsL_law := qr_22 _ (List.mem_of_getElem? (i := 7) rfl)
theorem qs_X2_marksFor : Cond.selects RX2 yX2_marksFor yX2_marksFor ∈ wsL_law := qr_22 _ (List.mem_of_getElem? (i := 8) rfl)
theorem qc_X2_marksFor : Cond.code yX2_marksFor cX2_marksFor 4 (some .int) ∈ wsL_law := qr_22 _ (List.mem_of_getElem? (i := 9) rfl)
theorem qm_X2_180 : Cond.methodLink RX2 180 yX4_hardFor ∈ wsL_law := qr_22 _ (List.mem_of_getElem? (i := 10) rfl)
theorem qi_X4_hardFor : Cond.instanceMethod yX4_hardFor ∈ wsL_law := qr_22 _ (List.mem_of_getElem? (i := 11) rfl)
theorem qs_X4_hardFor : Cond.selects RX4 yX4_hardFor yX4_hardFor ∈ wsL_law := qr_22 _ (List.mem_of_getElem? (i := 12) rfl)
theorem qc_X4_hardFor : Cond.code yX4_hardFor cX4_hardFor 2 (some .int) ∈ wsL_law := qr_22 _ (List.mem_of_getElem? (i := 13) rfl)
theorem qm_X2_183 : Cond.methodLink RX2 183 yX4_weightFor ∈ wsL_law := qr_22 _ (List.mem_of_getElem? (i := 14) rfl)
theorem qi_X4_weightFor : Cond.instanceMethod yX4_weightFor ∈ wsL_law := qr_22 _ (List.mem_of_getElem? (i := 15) rfl)
theorem qs_X4_weightFor : Cond.selects RX4 yX4_weightFor yX4_weightFor ∈ wsL_law := qr_22 _ (List.mem_of_getElem? (i := 16) rfl)
theorem qc_X4_weightFor : Cond.code yX4_weightFor cX4_weightFor 2 (some .int) ∈ wsL_law := qr_22 _ (List.mem_of_getElem? (i := 17) rfl)
theorem qm_X2_177 : Cond.methodLink RX2 177 yX1_hasOwn ∈ wsL_law := qr_22 _ (List.mem_of_getElem? (i := 18) rfl)
theorem qi_X1_hasOwn : Cond.instanceMethod yX1_hasOwn ∈ wsL_law := qr_22 _ (List.mem_of_getElem? (i := 19) rfl)
theorem qs_X1_hasOwn : Cond.selects RX1 yX1_hasOwn yX1_hasOwn ∈ wsL_law := qr_22 _ (List.mem_of_getElem? (i := 20) rfl)
theorem qc_X1_hasOwn : Cond.code yX1_hasOwn cX1_hasOwn 1 (some .boolean) ∈ wsL_law := qr_22 _ (List.mem_of_getElem? (i := 21) rfl)
theorem qm_X2_96 : Cond.methodLink RX2 96 yX0_emptyChairs ∈ wsL_law := qr_22 _ (List.mem_of_getElem? (i := 22) rfl)
theorem qi_X0_emptyChairs : Cond.instanceMethod yX0_emptyChairs ∈ wsL_law := qr_22 _ (List.mem_of_getElem? (i := 23) rfl)
theorem qs_X0_emptyChairs : Cond.selects RX0 yX0_emptyChairs yX0_emptyChairs ∈ wsL_law := qr_23 _ (List.mem_of_getElem? (i := 0) rfl)
theorem qc_X0_emptyChairs : Cond.code yX0_emptyChairs cX0_emptyChairs 3 (some .int) ∈ wsL_law := qr_23 _ (List.mem_of_getElem? (i := 1) rfl)
theorem qm_X0_69 : Cond.methodLink RX0 69 yX1_isEmpty ∈ wsL_law := qr_23 _ (List.mem_of_getElem? (i := 2) rfl)
theorem qm_X2_111 : Cond.methodLink RX2 111 yX2_noteSittings ∈ wsL_law := qr_23 _ (List.mem_of_getElem? (i := 3) rfl)
theorem qi_X2_noteSittings : Cond.instanceMethod yX2_noteSittings ∈ wsL_law := qr_23 _ (List.mem_of_getElem? (i := 4) rfl)
theorem qs_X2_noteSittings : Cond.selects RX2 yX2_noteSittings yX2_noteSittings ∈ wsL_law := qr_23 _ (List.mem_of_getElem? (i := 5) rfl)
theorem qc_X2_noteSittings : Cond.code yX2_noteSittings cX2_noteSittings 5 none ∈ wsL_law := qr_23 _ (List.mem_of_getElem? (i := 6) rfl)
theorem qf_X2_186 : Cond.fieldLink RX2 186 "BandDay$Player" "sittings" "I" ∈ wsL_law := qr_23 _ (List.mem_of_getElem? (i := 7) rfl)
theorem qf_X2_192 : Cond.fieldLink RX2 192 "BandDay$Player" "deputySittings" "I" ∈ wsL_law := qr_23 _ (List.mem_of_getElem? (i := 8) rfl)
theorem qm_X2_189 : Cond.methodLink RX2 189 yX1_hasDeputy ∈ wsL_law := qr_23 _ (List.mem_of_getElem? (i := 9) rfl)
theorem qm_X2_115 : Cond.methodLink RX2 115 yX2_moveLips ∈ wsL_law := qr_23 _ (List.mem_of_getElem? (i := 10) rfl)
theorem qi_X2_moveLips : Cond.instanceMethod yX2_moveLips ∈ wsL_law := qr_23 _ (List.mem_of_getElem? (i := 11) rfl)
theorem qs_X2_moveLips : Cond.selects RX2 yX2_moveLips yX2_moveLips ∈ wsL_law := qr_23 _ (List.mem_of_getElem? (i := 12) rfl)
theorem qc_X2_moveLips : Cond.code yX2_moveLips cX2_moveLips 3 none ∈ wsL_law := qr_23 _ (List.mem_of_getElem? (i := 13) rfl)
theorem qm_X2_195 : Cond.methodLink RX2 195 yX3_tire ∈ wsL_law := qr_23 _ (List.mem_of_getElem? (i := 14) rfl)
theorem qm_X2_198 : Cond.methodLink RX2 198 yX3_rest ∈ wsL_law := qr_23 _ (List.mem_of_getElem? (i := 15) rfl)
theorem qi_X3_rest : Cond.instanceMethod yX3_rest ∈ wsL_law := qr_23 _ (List.mem_of_getElem? (i := 16) rfl)
theorem qs_X3_rest : Cond.selects RX3 yX3_rest yX3_rest ∈ wsL_law := qr_23 _ (List.mem_of_getElem? (i := 17) rfl)
theorem qc_X3_rest : Cond.code yX3_rest cX3_rest 2 none ∈ wsL_law := qr_23 _ (List.mem_of_getElem? (i := 18) rfl)
theorem qm_X3_53 : Cond.methodLink RX3 53 Lib.Math.max.name ∈ wsL_law := qr_23 _ (List.mem_of_getElem? (i := 19) rfl)
theorem qm_X2_32 : Cond.methodLink RX2 32 yX2_givePlaces ∈ wsL_law := qr_23 _ (List.mem_of_getElem? (i := 20) rfl)
theorem qi_X2_givePlaces : Cond.instanceMethod yX2_givePlaces ∈ wsL_law := qr_23 _ (List.mem_of_getElem? (i := 21) rfl)
theorem qs_X2_givePlaces : Cond.selects RX2 yX2_givePlaces yX2_givePlaces ∈ wsL_law := qr_23 _ (List.mem_of_getElem? (i := 22) rfl)
theorem qc_X2_givePlaces : Cond.code yX2_givePlaces cX2_givePlaces 4 (some .int) ∈ wsL_law := qr_23 _ (List.mem_of_getElem? (i := 23) rfl)
theorem qf_X2_204 : Cond.fieldLink RX2 204 "BandDay$Band" "place" "I" ∈ wsL_law := qr_24 _ (List.mem_of_getElem? (i := 0) rfl)
theorem qf_X2_207 : Cond.fieldLink RX2 207 "BandDay$Band" "points" "I" ∈ wsL_law := qr_24 _ (List.mem_of_getElem? (i := 1) rfl)
theorem qm_X2_201 : Cond.methodLink RX2 201 yX2_aheadByMarks ∈ wsL_law := qr_24 _ (List.mem_of_getElem? (i := 2) rfl)
theorem qi_X2_aheadByMarks : Cond.instanceMethod yX2_aheadByMarks ∈ wsL_law := qr_24 _ (List.mem_of_getElem? (i := 3) rfl)
theorem qs_X2_aheadByMarks : Cond.selects RX2 yX2_aheadByMarks yX2_aheadByMarks ∈ wsL_law := qr_24 _ (List.mem_of_getElem? (i := 4) rfl)
theorem qc_X2_aheadByMarks : Cond.code yX2_aheadByMarks cX2_aheadByMarks 4 (some .int) ∈ wsL_law := qr_24 _ (List.mem_of_getElem? (i := 5) rfl)
theorem qm_X2_213 : Cond.methodLink RX2 213 yX2_isAhead ∈ wsL_law := qr_24 _ (List.mem_of_getElem? (i := 6) rfl)
theorem qi_X2_isAhead : Cond.instanceMethod yX2_isAhead ∈ wsL_law := qr_24 _ (List.mem_of_getElem? (i := 7) rfl)
theorem qs_X2_isAhead : Cond.selects RX2 yX2_isAhead yX2_isAhead ∈ wsL_law := qr_24 _ (List.mem_of_getElem? (i := 8) rfl)
theorem qc_X2_isAhead : Cond.code yX2_isAhead cX2_isAhead 5 (some .boolean) ∈ wsL_law := qr_24 _ (List.mem_of_getElem? (i := 9) rfl)
theorem qm_X2_210 : Cond.methodLink RX2 210 yX2_pointsFor ∈ wsL_law := qr_24 _ (List.mem_of_getElem? (i := 10) rfl)
theorem qt_X2_pointsFor : Cond.static yX2_pointsFor ∈ wsL_law := qr_24 _ (List.mem_of_getElem? (i := 11) rfl)
theorem qc_X2_pointsFor : Cond.code yX2_pointsFor cX2_pointsFor 1 (some .int) ∈ wsL_law := qr_24 _ (List.mem_of_getElem? (i := 12) rfl)
theorem qm_X2_40 : Cond.methodLink RX2 40 yX0_ownSitting ∈ wsL_law := qr_24 _ (List.mem_of_getElem? (i := 13) rfl)
theorem qi_X0_ownSitting : Cond.instanceMethod yX0_ownSitting ∈ wsL_law := qr_24 _ (List.mem_of_getElem? (i := 14) rfl)
theorem qs_X0_ownSitting : Cond.selects RX0 yX0_ownSitting yX0_ownSitting ∈ wsL_law := qr_24 _ (List.mem_of_getElem? (i := 15) rfl)
theorem qc_X0_ownSitting : Cond.code yX0_ownSitting cX0_ownSitting 3 (some .int) ∈ wsL_law := qr_24 _ (List.mem_of_getElem? (i := 16) rfl)
theorem qm_X0_62 : Cond.methodLink RX0 62 yX1_hasOwn ∈ wsL_law := qr_24 _ (List.mem_of_getElem? (i := 17) rfl)
theorem qm_X2_48 : Cond.methodLink RX2 48 yX0_raiseSpirit ∈ wsL_law := qr_24 _ (List.mem_of_getElem? (i := 18) rfl)
theorem qm_L_120 : Cond.methodLink RL 120 yX7_contest ∈ wsL_law := qr_24 _ (List.mem_of_getElem? (i := 19) rfl)
theorem qi_X7_contest : Cond.instanceMethod yX7_contest ∈ wsL_law := qr_24 _ (List.mem_of_getElem? (i := 20) rfl)
theorem qs_X7_contest : Cond.selects RX7 yX7_contest yX7_contest ∈ wsL_law := qr_24 _ (List.mem_of_getElem? (i := 21) rfl)
theorem qc_X7_contest : Cond.code yX7_contest cX7_contest 1 (some .int) ∈ wsL_law := qr_24 _ (List.mem_of_getElem? (i := 22) rfl)
theorem qm_X7_128 : Cond.methodLink RX7 128 yX6_contest ∈ wsL_law := qr_24 _ (List.mem_of_getElem? (i := 23) rfl)
theorem qi_X6_contest : Cond.instanceMethod yX6_contest ∈ wsL_law := qr_25 _ (List.mem_of_getElem? (i := 0) rfl)
theorem qs_X6_contest : Cond.selects RX6 yX6_contest yX6_contest ∈ wsL_law := qr_25 _ (List.mem_of_getElem? (i := 1) rfl)
theorem qc_X6_contest : Cond.code yX6_contest cX6_contest 6 (some .int) ∈ wsL_law := qr_25 _ (List.mem_of_getElem? (i := 2) rfl)
theorem qf_X6_55 : Cond.fieldLink RX6 55 "BandDayModel$State" "contests" "I" ∈ wsL_law := qr_25 _ (List.mem_of_getElem? (i := 3) rfl)
theorem qm_X6_100 : Cond.methodLink RX6 100 Lib.Math.min.name ∈ wsL_law := qr_25 _ (List.mem_of_getElem? (i := 4) rfl)
theorem qm_X6_95 : Cond.methodLink RX6 95 Lib.Math.max.name ∈ wsL_law := qr_25 _ (List.mem_of_getElem? (i := 5) rfl)
theorem qm_X6_106 : Cond.methodLink RX6 106 yX6_play ∈ wsL_law := qr_25 _ (List.mem_of_getElem? (i := 6) rfl)
theorem qi_X6_play : Cond.instanceMethod yX6_play ∈ wsL_law := qr_25 _ (List.mem_of_getElem? (i := 7) rfl)
theorem qs_X6_play : Cond.selects RX6 yX6_play yX6_play ∈ wsL_law := qr_25 _ (List.mem_of_getElem? (i := 8) rfl)
theorem qc_X6_play : Cond.code yX6_play cX6_play 12 none ∈ wsL_law := qr_25 _ (List.mem_of_getElem? (i := 9) rfl)
theorem qm_X6_49 : Cond.methodLink RX6 49 arraycopyName ∈ wsL_law := qr_25 _ (List.mem_of_getElem? (i := 10) rfl)
theorem qf_X6_59 : Cond.fieldLink RX6 59 "BandDayModel$State" "deputies" "I" ∈ wsL_law := qr_25 _ (List.mem_of_getElem? (i := 11) rfl)
theorem qf_X6_62 : Cond.fieldLink RX6 62 "BandDayModel$State" "empties" "I" ∈ wsL_law := qr_25 _ (List.mem_of_getElem? (i := 12) rfl)
theorem qm_X6_85 : Cond.methodLink RX6 85 yX6_find ∈ wsL_law := qr_25 _ (List.mem_of_getElem? (i := 13) rfl)
theorem qi_X6_find : Cond.instanceMethod yX6_find ∈ wsL_law := qr_25 _ (List.mem_of_getElem? (i := 14) rfl)
theorem qs_X6_find : Cond.selects RX6 yX6_find yX6_find ∈ wsL_law := qr_25 _ (List.mem_of_getElem? (i := 15) rfl)
theorem qc_X6_find : Cond.code yX6_find cX6_find 9 (some .int) ∈ wsL_law := qr_25 _ (List.mem_of_getElem? (i := 16) rfl)
theorem qm_X6_81 : Cond.methodLink RX6 81 yX6_sits ∈ wsL_law := qr_25 _ (List.mem_of_getElem? (i := 17) rfl)
theorem qi_X6_sits : Cond.instanceMethod yX6_sits ∈ wsL_law := qr_25 _ (List.mem_of_getElem? (i := 18) rfl)
theorem qs_X6_sits : Cond.selects RX6 yX6_sits yX6_sits ∈ wsL_law := qr_25 _ (List.mem_of_getElem? (i := 19) rfl)
theorem qc_X6_sits : Cond.code yX6_sits cX6_sits 5 (some .boolean) ∈ wsL_law := qr_25 _ (List.mem_of_getElem? (i := 20) rfl)
theorem qm_X6_110 : Cond.methodLink RX6 110 yX6_isAhead ∈ wsL_law := qr_25 _ (List.mem_of_getElem? (i := 21) rfl)
theorem qi_X6_isAhead : Cond.instanceMethod yX6_isAhead ∈ wsL_law := qr_25 _ (List.mem_of_getElem? (i := 22) rfl)
theorem qs_X6_isAhead : Cond.selects RX6 yX6_isAhead yX6_isAhead ∈ wsL_law := qr_25 _ (List.mem_of_getElem? (i := 23) rfl)
theorem qc_X6_isAhead : Cond.code yX6_isAhead cX6_isAhead 3 (some .boolean) ∈ wsL_law := qr_26 _ (List.mem_of_getElem? (i := 0) rfl)
theorem qm_L_121 : Cond.methodLink RL 121 yL_rank ∈ wsL_law := qr_26 _ (List.mem_of_getElem? (i := 1) rfl)
theorem qt_L_rank : Cond.static yL_rank ∈ wsL_law := qr_26 _ (List.mem_of_getElem? (i := 2) rfl)
theorem qc_L_rank : Cond.codeWith yL_rank cL_rank 4 (some .int) [(0, 9, 12, 25)] ∈ wsL_law := qr_26 _ (List.mem_of_getElem? (i := 3) rfl)
theorem qm_L_56 : Cond.methodLink RL 56 yX5_rank ∈ wsL_law := qr_26 _ (List.mem_of_getElem? (i := 4) rfl)
theorem qi_X5_rank : Cond.instanceMethod yX5_rank ∈ wsL_law := qr_26 _ (List.mem_of_getElem? (i := 5) rfl)
theorem qs_X5_rank : Cond.selects RX5 yX5_rank yX5_rank ∈ wsL_law := qr_26 _ (List.mem_of_getElem? (i := 6) rfl)
theorem qc_X5_rank : Cond.code yX5_rank cX5_rank 2 (some .int) ∈ wsL_law := qr_26 _ (List.mem_of_getElem? (i := 7) rfl)
theorem qm_X5_153 : Cond.methodLink RX5 153 yX4_bandByPoints ∈ wsL_law := qr_26 _ (List.mem_of_getElem? (i := 8) rfl)
theorem qi_X4_bandByPoints : Cond.instanceMethod yX4_bandByPoints ∈ wsL_law := qr_26 _ (List.mem_of_getElem? (i := 9) rfl)
theorem qs_X4_bandByPoints : Cond.selects RX4 yX4_bandByPoints yX4_bandByPoints ∈ wsL_law := qr_26 _ (List.mem_of_getElem? (i := 10) rfl)
theorem qc_X4_bandByPoints : Cond.code yX4_bandByPoints cX4_bandByPoints 3 (some .int) ∈ wsL_law := qr_26 _ (List.mem_of_getElem? (i := 11) rfl)
theorem qm_X4_123 : Cond.methodLink RX4 123 yX4_aheadByPoints ∈ wsL_law := qr_26 _ (List.mem_of_getElem? (i := 12) rfl)
theorem qi_X4_aheadByPoints : Cond.instanceMethod yX4_aheadByPoints ∈ wsL_law := qr_26 _ (List.mem_of_getElem? (i := 13) rfl)
theorem qs_X4_aheadByPoints : Cond.selects RX4 yX4_aheadByPoints yX4_aheadByPoints ∈ wsL_law := qr_26 _ (List.mem_of_getElem? (i := 14) rfl)
theorem qc_X4_aheadByPoints : Cond.code yX4_aheadByPoints cX4_aheadByPoints 5 (some .int) ∈ wsL_law := qr_26 _ (List.mem_of_getElem? (i := 15) rfl)
theorem qf_X4_127 : Cond.fieldLink RX4 127 "BandDay$Band" "points" "I" ∈ wsL_law := qr_26 _ (List.mem_of_getElem? (i := 16) rfl)
theorem qm_L_123 : Cond.methodLink RL 123 yX7_rank ∈ wsL_law := qr_26 _ (List.mem_of_getElem? (i := 17) rfl)
theorem qi_X7_rank : Cond.instanceMethod yX7_rank ∈ wsL_law := qr_26 _ (List.mem_of_getElem? (i := 18) rfl)
theorem qs_X7_rank : Cond.selects RX7 yX7_rank yX7_rank ∈ wsL_law := qr_26 _ (List.mem_of_getElem? (i := 19) rfl)
theorem qc_X7_rank : Cond.code yX7_rank cX7_rank 5 (some .int) ∈ wsL_law := qr_26 _ (List.mem_of_getElem? (i := 20) rfl)
theorem qm_L_124 : Cond.methodLink RL 124 yL_count ∈ wsL_law := qr_26 _ (List.mem_of_getElem? (i := 21) rfl)
theorem qt_L_count : Cond.static yL_count ∈ wsL_law := qr_26 _ (List.mem_of_getElem? (i := 22) rfl)
theorem qc_L_count : Cond.codeWith yL_count cL_count 4 (some .int) [(0, 9, 12, 25)] ∈ wsL_law := qr_26 _ (List.mem_of_getElem? (i := 23) rfl)
theorem qm_L_59 : Cond.methodLink RL 59 yX5_count ∈ wsL_law := qr_27 _ (List.mem_of_getElem? (i := 0) rfl)
theorem qi_X5_count : Cond.instanceMethod yX5_count ∈ wsL_law := qr_27 _ (List.mem_of_getElem? (i := 1) rfl)
theorem qs_X5_count : Cond.selects RX5 yX5_count yX5_count ∈ wsL_law := qr_27 _ (List.mem_of_getElem? (i := 2) rfl)
theorem qc_X5_count : Cond.code yX5_count cX5_count 2 (some .int) ∈ wsL_law := qr_27 _ (List.mem_of_getElem? (i := 3) rfl)
theorem qm_X5_156 : Cond.methodLink RX5 156 yX4_tell ∈ wsL_law := qr_27 _ (List.mem_of_getElem? (i := 4) rfl)
theorem qi_X4_tell : Cond.instanceMethod yX4_tell ∈ wsL_law := qr_27 _ (List.mem_of_getElem? (i := 5) rfl)
theorem qs_X4_tell : Cond.selects RX4 yX4_tell yX4_tell ∈ wsL_law := qr_27 _ (List.mem_of_getElem? (i := 6) rfl)
theorem qc_X4_tell : Cond.code yX4_tell cX4_tell 2 (some .int) ∈ wsL_law := qr_27 _ (List.mem_of_getElem? (i := 7) rfl)
theorem qf_X4_52 : Cond.fieldLink RX4 52 "BandDay$Season" "contests" "I" ∈ wsL_law := qr_27 _ (List.mem_of_getElem? (i := 8) rfl)
theorem qf_X4_55 : Cond.fieldLink RX4 55 "BandDay$Season" "deputies" "I" ∈ wsL_law := qr_27 _ (List.mem_of_getElem? (i := 9) rfl)
theorem qf_X4_58 : Cond.fieldLink RX4 58 "BandDay$Season" "empties" "I" ∈ wsL_law := qr_27 _ (List.mem_of_getElem? (i := 10) rfl)
theorem qm_X4_117 : Cond.methodLink RX4 117 yX4_membersInAll ∈ wsL_law := qr_27 _ (List.mem_of_getElem? (i := 11) rfl)
theorem qi_X4_membersInAll : Cond.instanceMethod yX4_membersInAll ∈ wsL_law := qr_27 _ (List.mem_of_getElem? (i := 12) rfl)
theorem qs_X4_membersInAll : Cond.selects RX4 yX4_membersInAll yX4_membersInAll ∈ wsL_law := qr_27 _ (List.mem_of_getElem? (i := 13) rfl)
theorem qc_X4_membersInAll : Cond.code yX4_membersInAll cX4_membersInAll 3 (some .int) ∈ wsL_law := qr_27 _ (List.mem_of_getElem? (i := 14) rfl)
theorem qm_X4_113 : Cond.methodLink RX4 113 yX0_members ∈ wsL_law := qr_27 _ (List.mem_of_getElem? (i := 15) rfl)
theorem qm_X4_120 : Cond.methodLink RX4 120 yX4_absentInAll ∈ wsL_law := qr_27 _ (List.mem_of_getElem? (i := 16) rfl)
theorem qi_X4_absentInAll : Cond.instanceMethod yX4_absentInAll ∈ wsL_law := qr_27 _ (List.mem_of_getElem? (i := 17) rfl)
theorem qs_X4_absentInAll : Cond.selects RX4 yX4_absentInAll yX4_absentInAll ∈ wsL_law := qr_27 _ (List.mem_of_getElem? (i := 18) rfl)
theorem qc_X4_absentInAll : Cond.code yX4_absentInAll cX4_absentInAll 3 (some .int) ∈ wsL_law := qr_27 _ (List.mem_of_getElem? (i := 19) rfl)
theorem qm_L_126 : Cond.methodLink RL 126 yX7_count ∈ wsL_law := qr_27 _ (List.mem_of_getElem? (i := 20) rfl)
theorem qi_X7_count : Cond.instanceMethod yX7_count ∈ wsL_law := qr_27 _ (List.mem_of_getElem? (i := 21) rfl)
theorem qs_X7_count : Cond.selects RX7 yX7_count yX7_count ∈ wsL_law := qr_27 _ (List.mem_of_getElem? (i := 22) rfl)
theorem qc_X7_count : Cond.code yX7_count cX7_count 2 (some .int) ∈ wsL_law := qr_27 _ (List.mem_of_getElem? (i := 23) rfl)
theorem qm_X7_141 : Cond.methodLink RX7 141 yX7_counted ∈ wsL_law := qr_28 _ (List.mem_of_getElem? (i := 0) rfl)
theorem qi_X7_counted : Cond.instanceMethod yX7_counted ∈ wsL_law := qr_28 _ (List.mem_of_getElem? (i := 1) rfl)
theorem qs_X7_counted : Cond.selects RX7 yX7_counted yX7_counted ∈ wsL_law := qr_28 _ (List.mem_of_getElem? (i := 2) rfl)
theorem qc_X7_counted : Cond.code yX7_counted cX7_counted 5 (some .int) ∈ wsL_law := qr_28 _ (List.mem_of_getElem? (i := 3) rfl)
theorem qm_L_127 : Cond.methodLink RL 127 yL_foresee ∈ wsL_law := qr_28 _ (List.mem_of_getElem? (i := 4) rfl)
theorem qt_L_foresee : Cond.static yL_foresee ∈ wsL_law := qr_28 _ (List.mem_of_getElem? (i := 5) rfl)
theorem qc_L_foresee : Cond.codeWith yL_foresee cL_foresee 6 (some .int) [(0, 12, 15, 25), (0, 12, 19, 13)] ∈ wsL_law := qr_28 _ (List.mem_of_getElem? (i := 6) rfl)
theorem qm_L_62 : Cond.methodLink RL 62 yX5_foresee ∈ wsL_law := qr_28 _ (List.mem_of_getElem? (i := 7) rfl)
theorem qi_X5_foresee : Cond.instanceMethod yX5_foresee ∈ wsL_law := qr_28 _ (List.mem_of_getElem? (i := 8) rfl)
theorem qs_X5_foresee : Cond.selects RX5 yX5_foresee yX5_foresee ∈ wsL_law := qr_28 _ (List.mem_of_getElem? (i := 9) rfl)
theorem qc_X5_foresee : Cond.code yX5_foresee cX5_foresee 5 (some .int) ∈ wsL_law := qr_28 _ (List.mem_of_getElem? (i := 10) rfl)
theorem qm_X5_159 : Cond.methodLink RX5 159 yX4_copyFrom ∈ wsL_law := qr_28 _ (List.mem_of_getElem? (i := 11) rfl)
theorem qi_X4_copyFrom : Cond.instanceMethod yX4_copyFrom ∈ wsL_law := qr_28 _ (List.mem_of_getElem? (i := 12) rfl)
theorem qs_X4_copyFrom : Cond.selects RX4 yX4_copyFrom yX4_copyFrom ∈ wsL_law := qr_28 _ (List.mem_of_getElem? (i := 13) rfl)
theorem qc_X4_copyFrom : Cond.code yX4_copyFrom cX4_copyFrom 3 none ∈ wsL_law := qr_28 _ (List.mem_of_getElem? (i := 14) rfl)
theorem qm_X4_46 : Cond.methodLink RX4 46 arraycopyName ∈ wsL_law := qr_28 _ (List.mem_of_getElem? (i := 15) rfl)
theorem qm_X4_36 : Cond.methodLink RX4 36 yX3_copyFrom ∈ wsL_law := qr_28 _ (List.mem_of_getElem? (i := 16) rfl)
theorem qi_X3_copyFrom : Cond.instanceMethod yX3_copyFrom ∈ wsL_law := qr_28 _ (List.mem_of_getElem? (i := 17) rfl)
theorem qs_X3_copyFrom : Cond.selects RX3 yX3_copyFrom yX3_copyFrom ∈ wsL_law := qr_28 _ (List.mem_of_getElem? (i := 18) rfl)
theorem qc_X3_copyFrom : Cond.code yX3_copyFrom cX3_copyFrom 2 none ∈ wsL_law := qr_28 _ (List.mem_of_getElem? (i := 19) rfl)
theorem qm_X3_22 : Cond.methodLink RX3 22 arraycopyName ∈ wsL_law := qr_28 _ (List.mem_of_getElem? (i := 20) rfl)
theorem qm_X4_43 : Cond.methodLink RX4 43 yX0_copyFrom ∈ wsL_law := qr_28 _ (List.mem_of_getElem? (i := 21) rfl)
theorem qi_X0_copyFrom : Cond.instanceMethod yX0_copyFrom ∈ wsL_law := qr_28 _ (List.mem_of_getElem? (i := 22) rfl)
theorem qs_X0_copyFrom : Cond.selects RX0 yX0_copyFrom yX0_copyFrom ∈ wsL_law := qr_28 _ (List.mem_of_getElem? (i := 23) rfl)
theorem qc_X0_copyFrom : Cond.code yX0_copyFrom cX0_copyFrom 3 none ∈ wsL_law := qr_29 _ (List.mem_of_getElem? (i := 0) rfl)
theorem qm_X0_34 : Cond.methodLink RX0 34 yX1_copyFrom ∈ wsL_law := qr_29 _ (List.mem_of_getElem? (i := 1) rfl)
theorem qi_X1_copyFrom : Cond.instanceMethod yX1_copyFrom ∈ wsL_law := qr_29 _ (List.mem_of_getElem? (i := 2) rfl)
theorem qs_X1_copyFrom : Cond.selects RX1 yX1_copyFrom yX1_copyFrom ∈ wsL_law := qr_29 _ (List.mem_of_getElem? (i := 3) rfl)
theorem qc_X1_copyFrom : Cond.code yX1_copyFrom cX1_copyFrom 2 none ∈ wsL_law := qr_29 _ (List.mem_of_getElem? (i := 4) rfl)
theorem qm_X5_165 : Cond.methodLink RX5 165 yX0_outlook ∈ wsL_law := qr_29 _ (List.mem_of_getElem? (i := 5) rfl)
theorem qi_X0_outlook : Cond.instanceMethod yX0_outlook ∈ wsL_law := qr_29 _ (List.mem_of_getElem? (i := 6) rfl)
theorem qs_X0_outlook : Cond.selects RX0 yX0_outlook yX0_outlook ∈ wsL_law := qr_29 _ (List.mem_of_getElem? (i := 7) rfl)
theorem qc_X0_outlook : Cond.code yX0_outlook cX0_outlook 2 (some .int) ∈ wsL_law := qr_29 _ (List.mem_of_getElem? (i := 8) rfl)
theorem qm_L_129 : Cond.methodLink RL 129 yX7_foresee ∈ wsL_law := qr_29 _ (List.mem_of_getElem? (i := 9) rfl)
theorem qi_X7_foresee : Cond.instanceMethod yX7_foresee ∈ wsL_law := qr_29 _ (List.mem_of_getElem? (i := 10) rfl)
theorem qs_X7_foresee : Cond.selects RX7 yX7_foresee yX7_foresee ∈ wsL_law := qr_29 _ (List.mem_of_getElem? (i := 11) rfl)
theorem qc_X7_foresee : Cond.code yX7_foresee cX7_foresee 5 (some .int) ∈ wsL_law := qr_29 _ (List.mem_of_getElem? (i := 12) rfl)
theorem qm_X7_144 : Cond.methodLink RX7 144 yX6_become ∈ wsL_law := qr_29 _ (List.mem_of_getElem? (i := 13) rfl)
theorem qi_X6_become : Cond.instanceMethod yX6_become ∈ wsL_law := qr_29 _ (List.mem_of_getElem? (i := 14) rfl)
theorem qs_X6_become : Cond.selects RX6 yX6_become yX6_become ∈ wsL_law := qr_29 _ (List.mem_of_getElem? (i := 15) rfl)
theorem qc_X6_become : Cond.code yX6_become cX6_become 2 none ∈ wsL_law := qr_29 _ (List.mem_of_getElem? (i := 16) rfl)
theorem qm_X6_65 : Cond.methodLink RX6 65 yX6_copy ∈ wsL_law := qr_29 _ (List.mem_of_getElem? (i := 17) rfl)
theorem qi_X6_copy : Cond.instanceMethod yX6_copy ∈ wsL_law := qr_29 _ (List.mem_of_getElem? (i := 18) rfl)
theorem qs_X6_copy : Cond.selects RX6 yX6_copy yX6_copy ∈ wsL_law := qr_29 _ (List.mem_of_getElem? (i := 19) rfl)
theorem qc_X6_copy : Cond.code yX6_copy cX6_copy 3 none ∈ wsL_law := qr_29 _ (List.mem_of_getElem? (i := 20) rfl)
theorem qm_L_130 : Cond.methodLink RL 130 yL_advise ∈ wsL_law := qr_29 _ (List.mem_of_getElem? (i := 21) rfl)
theorem qt_L_advise : Cond.static yL_advise ∈ wsL_law := qr_29 _ (List.mem_of_getElem? (i := 22) rfl)
theorem qc_L_advise : Cond.codeWith yL_advise cL_advise 4 (some .int) [(0, 9, 12, 25)] ∈ wsL_law := qr_29 _ (List.mem_of_getElem? (i := 23) rfl)
theorem qm_L_65 : Cond.methodLink RL 65 yX5_advise ∈ wsL_law := qr_30 _ (List.mem_of_getElem? (i := 0) rfl)
theorem qi_X5_advise : Cond.instanceMethod yX5_advise ∈ wsL_law := qr_30 _ (List.mem_of_getElem? (i := 1) rfl)
theorem qs_X5_advise : Cond.selects RX5 yX5_advise yX5_advise ∈ wsL_law := qr_30 _ (List.mem_of_getElem? (i := 2) rfl)
theorem qc_X5_advise : Cond.code yX5_advise cX5_advise 2 (some .int) ∈ wsL_law := qr_30 _ (List.mem_of_getElem? (i := 3) rfl)
theorem qm_X5_168 : Cond.methodLink RX5 168 yX2_playAllAheadOf ∈ wsL_law := qr_30 _ (List.mem_of_getElem? (i := 4) rfl)
theorem qi_X2_playAllAheadOf : Cond.instanceMethod yX2_playAllAheadOf ∈ wsL_law := qr_30 _ (List.mem_of_getElem? (i := 5) rfl)
theorem qs_X2_playAllAheadOf : Cond.selects RX2 yX2_playAllAheadOf yX2_playAllAheadOf ∈ wsL_law := qr_30 _ (List.mem_of_getElem? (i := 6) rfl)
theorem qc_X2_playAllAheadOf : Cond.code yX2_playAllAheadOf cX2_playAllAheadOf 4 none ∈ wsL_law := qr_30 _ (List.mem_of_getElem? (i := 7) rfl)
theorem qm_X5_171 : Cond.methodLink RX5 171 yX2_bestChange ∈ wsL_law := qr_30 _ (List.mem_of_getElem? (i := 8) rfl)
theorem qi_X2_bestChange : Cond.instanceMethod yX2_bestChange ∈ wsL_law := qr_30 _ (List.mem_of_getElem? (i := 9) rfl)
theorem qs_X2_bestChange : Cond.selects RX2 yX2_bestChange yX2_bestChange ∈ wsL_law := qr_30 _ (List.mem_of_getElem? (i := 10) rfl)
theorem qc_X2_bestChange : Cond.code yX2_bestChange cX2_bestChange 8 (some .int) ∈ wsL_law := qr_30 _ (List.mem_of_getElem? (i := 11) rfl)
theorem qm_X2_83 : Cond.methodLink RX2 83 yX4_swapMembers ∈ wsL_law := qr_30 _ (List.mem_of_getElem? (i := 12) rfl)
theorem qm_L_132 : Cond.methodLink RL 132 yX7_advise ∈ wsL_law := qr_30 _ (List.mem_of_getElem? (i := 13) rfl)
theorem qi_X7_advise : Cond.instanceMethod yX7_advise ∈ wsL_law := qr_30 _ (List.mem_of_getElem? (i := 14) rfl)
theorem qs_X7_advise : Cond.selects RX7 yX7_advise yX7_advise ∈ wsL_law := qr_30 _ (List.mem_of_getElem? (i := 15) rfl)
theorem qc_X7_advise : Cond.code yX7_advise cX7_advise 6 (some .int) ∈ wsL_law := qr_30 _ (List.mem_of_getElem? (i := 16) rfl)
theorem qm_L_133 : Cond.methodLink RL 133 yL_free ∈ wsL_law := qr_30 _ (List.mem_of_getElem? (i := 17) rfl)
theorem qt_L_free : Cond.static yL_free ∈ wsL_law := qr_30 _ (List.mem_of_getElem? (i := 18) rfl)
theorem qc_L_free : Cond.codeWith yL_free cL_free 4 (some .int) [(0, 9, 12, 25)] ∈ wsL_law := qr_30 _ (List.mem_of_getElem? (i := 19) rfl)
theorem qm_L_68 : Cond.methodLink RL 68 yX5_free ∈ wsL_law := qr_30 _ (List.mem_of_getElem? (i := 20) rfl)
theorem qi_X5_free : Cond.instanceMethod yX5_free ∈ wsL_law := qr_30 _ (List.mem_of_getElem? (i := 21) rfl)
theorem qs_X5_free : Cond.selects RX5 yX5_free yX5_free ∈ wsL_law := qr_30 _ (List.mem_of_getElem? (i := 22) rfl)
theorem qc_X5_free : Cond.code yX5_free cX5_free 2 (some .int) ∈ wsL_law := qr_30 _ (List.mem_of_getElem? (i := 23) rfl)
theorem qm_X5_174 : Cond.methodLink RX5 174 yX4_bestFree ∈ wsL_law := qr_31 _ (List.mem_of_getElem? (i := 0) rfl)
theorem qi_X4_bestFree : Cond.instanceMethod yX4_bestFree ∈ wsL_law := qr_31 _ (List.mem_of_getElem? (i := 1) rfl)
theorem qs_X4_bestFree : Cond.selects RX4 yX4_bestFree yX4_bestFree ∈ wsL_law := qr_31 _ (List.mem_of_getElem? (i := 2) rfl)
theorem qc_X4_bestFree : Cond.code yX4_bestFree cX4_bestFree 6 (some .int) ∈ wsL_law := qr_31 _ (List.mem_of_getElem? (i := 3) rfl)
theorem qm_X4_130 : Cond.methodLink RX4 130 yX3_skillFor ∈ wsL_law := qr_31 _ (List.mem_of_getElem? (i := 4) rfl)
theorem qm_L_135 : Cond.methodLink RL 135 yX7_free ∈ wsL_law := qr_31 _ (List.mem_of_getElem? (i := 5) rfl)
theorem qi_X7_free : Cond.instanceMethod yX7_free ∈ wsL_law := qr_31 _ (List.mem_of_getElem? (i := 6) rfl)
theorem qs_X7_free : Cond.selects RX7 yX7_free yX7_free ∈ wsL_law := qr_31 _ (List.mem_of_getElem? (i := 7) rfl)
theorem qc_X7_free : Cond.code yX7_free cX7_free 4 (some .int) ∈ wsL_law := qr_31 _ (List.mem_of_getElem? (i := 8) rfl)
theorem qm_L_136 : Cond.methodLink RL 136 yX5_mean ∈ wsL_law := qr_31 _ (List.mem_of_getElem? (i := 9) rfl)
theorem qi_X5_mean : Cond.instanceMethod yX5_mean ∈ wsL_law := qr_31 _ (List.mem_of_getElem? (i := 10) rfl)
theorem qs_X5_mean : Cond.selects RX5 yX5_mean yX5_mean ∈ wsL_law := qr_31 _ (List.mem_of_getElem? (i := 11) rfl)
theorem qc_X5_mean : Cond.code yX5_mean cX5_mean 1 (some .double) ∈ wsL_law := qr_31 _ (List.mem_of_getElem? (i := 12) rfl)
theorem qm_X5_177 : Cond.methodLink RX5 177 yX4_meanMarks ∈ wsL_law := qr_31 _ (List.mem_of_getElem? (i := 13) rfl)
theorem qi_X4_meanMarks : Cond.instanceMethod yX4_meanMarks ∈ wsL_law := qr_31 _ (List.mem_of_getElem? (i := 14) rfl)
theorem qs_X4_meanMarks : Cond.selects RX4 yX4_meanMarks yX4_meanMarks ∈ wsL_law := qr_31 _ (List.mem_of_getElem? (i := 15) rfl)
theorem qc_X4_meanMarks : Cond.code yX4_meanMarks cX4_meanMarks 4 (some .double) ∈ wsL_law := qr_31 _ (List.mem_of_getElem? (i := 16) rfl)
theorem qf_X4_133 : Cond.fieldLink RX4 133 "BandDay$Band" "marks" "I" ∈ wsL_law := qr_31 _ (List.mem_of_getElem? (i := 17) rfl)
theorem qm_L_140 : Cond.methodLink RL 140 yX7_mean ∈ wsL_law := qr_31 _ (List.mem_of_getElem? (i := 18) rfl)
theorem qi_X7_mean : Cond.instanceMethod yX7_mean ∈ wsL_law := qr_31 _ (List.mem_of_getElem? (i := 19) rfl)
theorem qs_X7_mean : Cond.selects RX7 yX7_mean yX7_mean ∈ wsL_law := qr_31 _ (List.mem_of_getElem? (i := 20) rfl)
theorem qc_X7_mean : Cond.code yX7_mean cX7_mean 4 (some .double) ∈ wsL_law := qr_31 _ (List.mem_of_getElem? (i := 21) rfl)
theorem qm_L_141 : Cond.methodLink RL 141 yX5_digest ∈ wsL_law := qr_31 _ (List.mem_of_getElem? (i := 22) rfl)
theorem qi_X5_digest : Cond.instanceMethod yX5_digest ∈ wsL_law := qr_31 _ (List.mem_of_getElem? (i := 23) rfl)
theorem qs_X5_digest : Cond.selects RX5 yX5_digest yX5_digest ∈ wsL_law := qr_32 _ (List.mem_of_getElem? (i := 0) rfl)
theorem qc_X5_digest : Cond.code yX5_digest cX5_digest 1 (some .long) ∈ wsL_law := qr_32 _ (List.mem_of_getElem? (i := 1) rfl)
theorem qm_X5_181 : Cond.methodLink RX5 181 yX4_checksum ∈ wsL_law := qr_32 _ (List.mem_of_getElem? (i := 2) rfl)
theorem qi_X4_checksum : Cond.instanceMethod yX4_checksum ∈ wsL_law := qr_32 _ (List.mem_of_getElem? (i := 3) rfl)
theorem qs_X4_checksum : Cond.selects RX4 yX4_checksum yX4_checksum ∈ wsL_law := qr_32 _ (List.mem_of_getElem? (i := 4) rfl)
theorem qc_X4_checksum : Cond.code yX4_checksum cX4_checksum 5 (some .long) ∈ wsL_law := qr_32 _ (List.mem_of_getElem? (i := 5) rfl)
theorem qd_X4_136 : Cond.constantLong RX4 136 (613) ∈ wsL_law := qr_32 _ (List.mem_of_getElem? (i := 6) rfl)
theorem qd_X4_138 : Cond.constantLong RX4 138 (31) ∈ wsL_law := qr_32 _ (List.mem_of_getElem? (i := 7) rfl)
theorem qm_X4_140 : Cond.methodLink RX4 140 yX4_tell ∈ wsL_law := qr_32 _ (List.mem_of_getElem? (i := 8) rfl)
theorem qm_X4_143 : Cond.methodLink RX4 143 yX3_tell ∈ wsL_law := qr_32 _ (List.mem_of_getElem? (i := 9) rfl)
theorem qm_X4_144 : Cond.methodLink RX4 144 yX4_withBand ∈ wsL_law := qr_32 _ (List.mem_of_getElem? (i := 10) rfl)
theorem qi_X4_withBand : Cond.instanceMethod yX4_withBand ∈ wsL_law := qr_32 _ (List.mem_of_getElem? (i := 11) rfl)
theorem qs_X4_withBand : Cond.selects RX4 yX4_withBand yX4_withBand ∈ wsL_law := qr_32 _ (List.mem_of_getElem? (i := 12) rfl)
theorem qc_X4_withBand : Cond.code yX4_withBand cX4_withBand 8 (some .long) ∈ wsL_law := qr_32 _ (List.mem_of_getElem? (i := 13) rfl)
theorem qm_X4_148 : Cond.methodLink RX4 148 yX0_tell ∈ wsL_law := qr_32 _ (List.mem_of_getElem? (i := 14) rfl)
theorem qm_X4_149 : Cond.methodLink RX4 149 yX1_tell ∈ wsL_law := qr_32 _ (List.mem_of_getElem? (i := 15) rfl)
theorem qm_L_145 : Cond.methodLink RL 145 yX7_digest ∈ wsL_law := qr_32 _ (List.mem_of_getElem? (i := 16) rfl)
theorem qi_X7_digest : Cond.instanceMethod yX7_digest ∈ wsL_law := qr_32 _ (List.mem_of_getElem? (i := 17) rfl)
theorem qs_X7_digest : Cond.selects RX7 yX7_digest yX7_digest ∈ wsL_law := qr_32 _ (List.mem_of_getElem? (i := 18) rfl)
theorem qc_X7_digest : Cond.code yX7_digest cX7_digest 6 (some .long) ∈ wsL_law := qr_32 _ (List.mem_of_getElem? (i := 19) rfl)
theorem qd_X7_148 : Cond.constantLong RX7 148 (613) ∈ wsL_law := qr_32 _ (List.mem_of_getElem? (i := 20) rfl)
theorem qd_X7_150 : Cond.constantLong RX7 150 (31) ∈ wsL_law := qr_32 _ (List.mem_of_getElem? (i := 21) rfl)
end
section
/-! THE WORLD: the class's objects and the reference's, at addresses that never change, over two memories of ints.
xm: the class's memory (field, season, place), ym: the reference's, om: the law's row of one long. -/
abbrev bd_M : Type := Nat → Nat → Nat → Int32
def bd_up (x : bd_M) (f w k : Nat) (v : Int32) : bd_M := fun f' w' k' => if f' = f ∧ w' = w ∧ k' = k then v else x f' w' k'
/-- classes' numbers, places of the fields, classes of the arrays, addresses, the heap's size at the law's start -/
abbrev bd_E : Type := (Nat → ClassId) × (Nat → Nat → Nat) × (Nat → ClassId) × (Nat → Nat → Nat → Nat) × Nat
abbrev bd_eD (E : bd_E) : va_G := (E.1, E.2.1)
abbrev bd_eK (E : bd_E) : Nat → ClassId := E.2.2.1
abbrev bd_ea (E : bd_E) : Nat → Nat → Nat → Nat := E.2.2.2.1
abbrev bd_A (E : bd_E) : Nat → Prop := fun q => E.2.2.2.2 ≤ q
abbrev bd_ty (E : bd_E) : List (ClassId × FieldType) := [(bd_eK E 0, .int), (bd_eK E 1, .object "BandDay$Player"), (bd_eK E 2, .object "BandDay$Band"), (bd_eK E 3, .object "BandDay$Chair"), (bd_eK E 4, .long)]
abbrev bd_iA (E : bd_E) (n : Nat) (f : Nat → Int32) : va_E := .inl (bd_eK E 0, n, .inl f)
abbrev bd_rA (E : bd_E) (t n : Nat) (f : Nat → Option Nat) : va_E := .inl (bd_eK E t, n, .inr (.inr (.inr (.inr f))))
/-- what stands in the cell k of the family f of the season w -/
def bd_ce (E : bd_E) (xm ym : bd_M) (om : Nat → Int64) : Nat → Nat → Nat → va_E
  | 0, _, _ => .inr (5, [.ref (bd_ea E 1 0 0), .ref (bd_ea E 2 0 0), .ref (bd_ea E 1 1 0), .ref (bd_ea E 2 1 0)])
  | 1, w, _ => .inr (4, [.ref (bd_ea E 3 w 0), .ref (bd_ea E 4 w 0), .ref (bd_ea E 5 w 0), .ref (bd_ea E 6 w 0), .int (xm 30 w 0), .int (xm 31 w 0), .int (xm 32 w 0), .int (xm 33 w 0), .int (xm 34 w 0)])
  | 2, w, _ => .inr (2, [.ref (bd_ea E 1 w 0)])
  | 3, w, _ => bd_rA E 1 24 (fun j => some (bd_ea E 7 w j))
  | 4, w, _ => bd_rA E 2 6 (fun j => some (bd_ea E 9 w j))
  | 5, w, _ => bd_iA E 4 (fun j => xm 35 w j)
  | 6, w, _ => bd_iA E 4 (fun j => xm 36 w j)
  | 7, w, k => .inr (3, [.ref (bd_ea E 8 w k), .int (xm 0 w k), .int (xm 1 w k), .int (xm 2 w k), .int (xm 3 w k), .int (xm 4 w k), .int (xm 5 w k), .int (xm 6 w k), .int (xm 7 w k)])
  | 8, w, k => bd_iA E 4 (fun j => xm (j + 1000) w k)
  | 9, w, k => .inr (0, [.ref (bd_ea E 10 w k), .int (xm 20 w k), .int (xm 21 w k), .int (xm 22 w k), .int (xm 23 w k), .int (xm 24 w k), .int (xm 25 w k), .int (xm 26 w k), .int (xm 27 w k)])
  | 10, w, k => bd_rA E 3 8 (fun j => some (bd_ea E 11 w (8 * k + j)))
  | 11, w, k => .inr (1, [.int (xm 10 w k), .int (xm 11 w k), .int (xm 12 w k)])
  | 12, _, _ => .inr (7, [.int (ym 0 0 0), .int (ym 1 0 0), .ref (bd_ea E 13 0 0), .int (ym 2 0 0), .ref (bd_ea E 14 0 0), .ref (bd_ea E 15 0 0), .ref (bd_ea E 16 0 0), .ref (bd_ea E 17 0 0), .ref (bd_ea E 18 0 0), .ref (bd_ea E 18 1 0)])
  | 13, w, _ => bd_iA E 96 (fun j => ym 13 w j)
  | 14, w, _ => bd_iA E 6 (fun j => ym 14 w j)
  | 15, w, _ => bd_iA E 48 (fun j => ym 15 w j)
  | 16, w, _ => bd_iA E 4 (fun j => ym 16 w j)
  | 17, w, _ => bd_iA E 4 (fun j => ym 17 w j)
  | 18, w, _ => .inr (6, [.int (ym 10 w 0), .int (ym 11 w 0), .int (ym 12 w 0), .ref (bd_ea E 19 w 0), .ref (bd_ea E 20 w 0), .ref (bd_ea E 21 w 0), .ref (bd_ea E 22 w 0), .ref (bd_ea E 23 w 0), .ref (bd_ea E 24 w 0), .ref (bd_ea E 25 w 0), .ref (bd_ea E 26 w 0), .ref (bd_ea E 27 w 0), .ref (bd_ea E 28 w 0), .ref (bd_ea E 29 w 0), .ref (bd_ea E 12 0 0)])
  | 19, w, _ => bd_iA E 24 (fun j => ym 19 w j)
  | 20, w, _ => bd_iA E 24 (fun j => ym 20 w j)
  | 21, w, _ => bd_iA E 24 (fun j => ym 21 w j)
  | 22, w, _ => bd_iA E 24 (fun j => ym 22 w j)
  | 23, w, _ => bd_iA E 48 (fun j => ym 23 w j)
  | 24, w, _ => bd_iA E 48 (fun j => ym 24 w j)
  | 25, w, _ => bd_iA E 6 (fun j => ym 25 w j)
  | 26, w, _ => bd_iA E 6 (fun j => ym 26 w j)
  | 27, w, _ => bd_iA E 6 (fun j => ym 27 w j)
  | 28, w, _ => bd_iA E 24 (fun j => ym 28 w j)
  | 29, w, _ => bd_iA E 24 (fun j => ym 29 w j)
  | _, _, _ => .inl (bd_eK E 4, 1, .inr (.inl om))
/-- how many seasons a family has, and how many cells in each -/
def bd_wN : Nat → Nat
  | 0 | 12 | 13 | 14 | 15 | 16 | 17 | 30 => 1
  | _ => 2
def bd_kN : Nat → Nat
  | 7 | 8 => 24
  | 9 | 10 => 6
  | 11 => 48
  | _ => 1
def bd_dm (f w k : Nat) : Prop := f < 31 ∧ w < bd_wN f ∧ k < bd_kN f
def bd_idx : List (Nat × Nat × Nat) := (List.range 31).flatMap (fun f => (List.range (bd_wN f)).flatMap (fun w => (List.range (bd_kN f)).map (fun k => (f, w, k))))
def bd_ws (E : bd_E) (xm ym : bd_M) (om : Nat → Int64) : va_W := bd_idx.map (fun q => (bd_ea E q.1 q.2.1 q.2.2, bd_ce E xm ym om q.1 q.2.1 q.2.2))
def bd_Inj (E : bd_E) : Prop := ∀ f w k f' w' k', bd_dm f w k → bd_dm f' w' k' → bd_ea E f w k = bd_ea E f' w' k' → f = f' ∧ w = w' ∧ k = k'
def bd_Rep (E : bd_E) (xm ym : bd_M) (om : Nat → Int64) (H : Heap) : Prop := bd_Inj E ∧ (∀ f w k, bd_dm f w k → bd_A E (bd_ea E f w k)) ∧ ∀ f w k, bd_dm f w k → va_at (bd_eD E) vwCl (bd_ea E f w k, bd_ce E xm ym om f w k) H
theorem bd_mem {f w k : Nat} : (f, w, k) ∈ bd_idx ↔ bd_dm f w k := by
  simp only [bd_idx, bd_dm, List.mem_flatMap, List.mem_map, List.mem_range, Prod.mk.injEq]
  refine ⟨fun ⟨a, h1, b, h2, d, h3, e1, e2, e3⟩ => ?_, fun ⟨h1, h2, h3⟩ => ⟨f, h1, w, h2, k, h3, rfl, rfl, rfl⟩⟩
  subst e1; subst e2; subst e3
  exact ⟨h1, h2, h3⟩
theorem bd_pos {f w k : Nat} (h : bd_dm f w k) : ∃ q : Nat, bd_idx[q]? = some (f, w, k) := List.getElem?_of_mem (bd_mem.mpr h)
theorem bd_ws_at {E : bd_E} {xm ym : bd_M} {om : Nat → Int64} {q f w k : Nat} (h : bd_idx[q]? = some (f, w, k)) : (bd_ws E xm ym om)[q]? = some (bd_ea E f w k, bd_ce E xm ym om f w k) := by
  simp [bd_ws, h]
theorem bd_ws_of {E : bd_E} {xm ym : bd_M} {om : Nat → Int64} {q : Nat} {z : Nat × va_E} (h : (bd_ws E xm ym om)[q]? = some z) : ∃ f w k, bd_idx[q]? = some (f, w, k) ∧ bd_dm f w k ∧ z = (bd_ea E f w k, bd_ce E xm ym om f w k) := by
  simp only [bd_ws, List.getElem?_map, Option.map_eq_some_iff] at h
  obtain ⟨⟨f, w, k⟩, h1, h2⟩ := h
  exact ⟨f, w, k, h1, bd_mem.mp (List.mem_of_getElem? h1), h2.symm⟩
theorem bd_nodup : bd_idx.Nodup := by decide +kernel
theorem bd_Rep.P {E : bd_E} {xm ym : bd_M} {om : Nat → Int64} {H : Heap} (h : bd_Rep E xm ym om H) : va_P (bd_eD E) vwCl (bd_ws E xm ym om) H := by
  intro q z hz
  obtain ⟨f, w, k, -, h2, rfl⟩ := bd_ws_of hz
  exact h.2.2 f w k h2
theorem bd_Rep.D {E : bd_E} {xm ym : bd_M} {om : Nat → Int64} {H : Heap} (h : bd_Rep E xm ym om H) : va_D (bd_A E) (bd_ws E xm ym om) := by
  refine ⟨fun i j p q hp hq hpq => ?_, fun k q hk => ?_⟩
  · obtain ⟨f, w, k, a1, a2, rfl⟩ := bd_ws_of hp
    obtain ⟨f', w', k', b1, b2, rfl⟩ := bd_ws_of hq
    obtain ⟨rfl, rfl, rfl⟩ := h.1 f w k f' w' k' a2 b2 hpq
    exact (List.getElem?_inj (List.getElem?_eq_some_iff.mp a1).1 bd_nodup).mp (a1.trans b1.symm)
  · obtain ⟨f, w, k', -, h2, rfl⟩ := bd_ws_of hk
    exact h.2.1 f w k' h2
/-- one cell of the world becomes another one, and the others stay -/
def bd_Up (E : bd_E) (xm ym : bd_M) (om : Nat → Int64) (xm' ym' : bd_M) (om' : Nat → Int64) (f w k : Nat) (e : va_E) : Prop := bd_ce E xm' ym' om' f w k = e ∧ ∀ f' w' k', bd_dm f' w' k' → ¬ (f' = f ∧ w' = w ∧ k' = k) → bd_ce E xm' ym' om' f' w' k' = bd_ce E xm ym om f' w' k'
theorem bd_back {E : bd_E} {xm ym xm' ym' : bd_M} {om om' : Nat → Int64} {H H1 : Heap} {f w k q : Nat} {e : va_E} (h : bd_Rep E xm ym om H) (hq : bd_idx[q]? = some (f, w, k)) (hU : bd_Up E xm ym om xm' ym' om' f w k e)
    (hP : va_P (bd_eD E) vwCl ((bd_ws E xm ym om).set q (bd_ea E f w k, e)) H1) : bd_Rep E xm' ym' om' H1 := by
  refine ⟨h.1, h.2.1, fun f' w' k' hd => ?_⟩
  have hl : q < (bd_ws E xm ym om).length := by rw [bd_ws, List.length_map]; exact (List.getElem?_eq_some_iff.mp hq).1
  by_cases hc : f' = f ∧ w' = w ∧ k' = k
  · obtain ⟨rfl, rfl, rfl⟩ := hc
    rw [hU.1]
    exact hP q _ (List.getElem?_set_self hl)
  · rw [hU.2 f' w' k' hd hc]
    obtain ⟨q', hq'⟩ := bd_pos hd
    refine hP q' _ ?_
    rw [List.getElem?_set_ne, bd_ws_at hq']
    intro e1
    subst e1
    rw [hq] at hq'
    cases hq'
    exact hc ⟨rfl, rfl, rfl⟩
theorem bd_Rep.kept {E : bd_E} {xm ym : bd_M} {om : Nat → Int64} {H H1 : Heap} (h : bd_Rep E xm ym om H) (hk : ∀ q : Nat, q < H.size → H1[q]? = H[q]?) : bd_Rep E xm ym om H1 := ⟨h.1, h.2.1, fun f w k hd => (h.2.2 f w k hd).kept (hk _ (h.2.2 f w k hd).lt)⟩
theorem bd_Rep.lt {E : bd_E} {xm ym : bd_M} {om : Nat → Int64} {H : Heap} (h : bd_Rep E xm ym om H) {f w k : Nat} (hd : bd_dm f w k) : bd_ea E f w k < H.size := (h.2.2 f w k hd).lt
theorem bd_Rep.sz {E : bd_E} {xm ym : bd_M} {om : Nat → Int64} {H : Heap} (h : bd_Rep E xm ym om H) : E.2.2.2.2 ≤ H.size := Nat.le_of_lt (Nat.lt_of_le_of_lt (h.2.1 0 0 0 ⟨by decide, by decide, by decide⟩) (h.lt (f := 0) (w := 0) (k := 0) ⟨by decide, by decide, by decide⟩))
/-- the links among nest mates -/
def bd_N : List Cond := [.fieldLinkNest RX7 101 RX6 "tired" "[I" RX7, .fieldLinkNest RX7 104 RX6 "sat" "[I" RX7, .fieldLinkNest RX7 107 RX6 "deputy" "[I" RX7, .fieldLinkNest RX7 116 RX6 "points" "[I" RX7, .fieldLinkNest RX7 119 RX6 "outs" "[I" RX7, .fieldLinkNest RX7 132 RX6 "contests" "I" RX7, .fieldLinkNest RX7 135 RX6 "deputies" "I" RX7, .fieldLinkNest RX7 138 RX6 "empties" "I" RX7, .fieldLinkNest RX7 66 RX6 "member" "[I" RX7, .fieldLinkNest RX7 69 RX6 "who" "[I" RX7, .fieldLinkNest RX7 72 RX6 "latest" "[I" RX7, .fieldLinkNest RX7 89 RX6 "absent" "[I" RX7, .fieldLinkNest RX7 92 RX6 "spirit" "[I" RX7, .fieldLinkNest RX6 103 RX7 "bands" "I" RX7, .fieldLinkNest RX6 69 RX7 "seats" "[I" RX7, .fieldLinkNest RX6 72 RX7 "instrument" "[I" RX7, .fieldLinkNest RX6 75 RX7 "skill" "[I" RX7, .fieldLinkNest RX6 78 RX7 "players" "I" RX7, .fieldLinkNest RX6 89 RX7 "weight" "[I" RX7, .fieldLinkNest RX6 92 RX7 "hard" "[I" RX7]
def bd_NM : List Cond := [.methodLinkNest RX0 30 yX1_init "BandDay", .methodLinkNest RX4 30 yX3_init "BandDay", .methodLinkNest RX7 27 yX6_init "BandDayModel"]
def bd_KK (E : bd_E) (U : State) : Prop := va_K (bd_eD E) vwCl (bd_ty E) U ∧ (∀ w ∈ bd_N, va_Nw w U) ∧ (∀ w ∈ bd_NM, va_Nw w U)
theorem bd_KK.warm {E : bd_E} {s U : State} (hW : s.WarmedH U.vm) (h : bd_KK E s) : bd_KK E U := by
  refine ⟨va_K.moved hW.alike h.1, fun w hw => ?_, fun w hw => ?_⟩
  · have h2 := h.2.1 w hw
    simp only [bd_N, List.mem_cons, List.not_mem_nil, or_false] at hw
    rcases hw with rfl | rfl | rfl | rfl | rfl | rfl | rfl | rfl | rfl | rfl | rfl | rfl | rfl | rfl | rfl | rfl | rfl | rfl | rfl | rfl <;> exact va_Nw.warmF hW h2
  · have h2 := h.2.2 w hw
    simp only [bd_NM, List.mem_cons, List.not_mem_nil, or_false] at hw
    rcases hw with rfl | rfl | rfl <;> exact va_Nw.warmM hW h2
theorem bd_KK.same {E : bd_E} {s U : State} (hv : s.vm = U.vm) (h : bd_KK E s) : bd_KK E U := by
  refine ⟨va_K.moved (by rw [← hv]; exact Vm.Alike.refl _) h.1, fun w hw => ?_, fun w hw => ?_⟩
  · have h2 := h.2.1 w hw
    simp only [bd_N, List.mem_cons, List.not_mem_nil, or_false] at hw
    rcases hw with rfl | rfl | rfl | rfl | rfl | rfl | rfl | rfl | rfl | rfl | rfl | rfl | rfl | rfl | rfl | rfl | rfl | rfl | rfl | rfl <;> exact va_Nw.same rfl hv h2
  · have h2 := h.2.2 w hw
    simp only [bd_NM, List.mem_cons, List.not_mem_nil, or_false] at hw
    rcases hw with rfl | rfl | rfl <;> exact va_Nw.same rfl hv h2
end
section
/-! ROWS: one instruction each, over the world bd_Rep (printed by wip/whole/tools/mkrows.py) -/
/-- the family in which a field of the class's memory stands -/
def bd_fam (f : Nat) : Nat := if f ≤ 7 then 7 else if f ≤ 12 then 11 else if f ≤ 27 then 9 else if f ≤ 34 then 1 else if f = 35 then 5 else if f = 36 then 6 else 8
/-- families of many objects a season -/
def bd_ob (f : Nat) : Bool := f == 7 || f == 8 || f == 9 || f == 11
theorem bd_up_s {x : bd_M} {f w k : Nat} {v : Int32} : bd_up x f w k v f w k = v := by simp [bd_up]
theorem bd_up_n {x : bd_M} {f w k f' w' k' : Nat} {v : Int32} (h : ¬ (f' = f ∧ w' = w ∧ k' = k)) : bd_up x f w k v f' w' k' = x f' w' k' := if_neg h
theorem bd_up_f {x : bd_M} {f w k f' w' k' : Nat} {v : Int32} (h : f' ≠ f) : bd_up x f w k v f' w' k' = x f' w' k' := if_neg (fun q => h q.1)
theorem bd_ceX {E : bd_E} {xm xm' ym : bd_M} {om : Nat → Int64} {f w k : Nat} (hd : bd_dm f w k) (h : ∀ F k2, bd_fam F = f → (bd_ob f = true → k2 = k) → xm' F w k2 = xm F w k2) : bd_ce E xm' ym om f w k = bd_ce E xm ym om f w k := by
  obtain ⟨h1, h2, h3⟩ := hd
  match f, h1, h2, h3, h with

  | 0, _, _, _, _ => rfl
  | 1, _, h2, h3, h => have e : k = 0 := Nat.lt_one_iff.mp h3; subst e; simp only [bd_ce]; rw [h 30 0 (by decide) (by decide), h 31 0 (by decide) (by decide), h 32 0 (by decide) (by decide), h 33 0 (by decide) (by decide), h 34 0 (by decide) (by decide)]
  | 2, _, _, _, _ => rfl
  | 3, _, _, _, _ => rfl
  | 4, _, _, _, _ => rfl
  | 5, _, _, _, h => have e : (fun j => xm' 35 w j) = (fun j => xm 35 w j) := funext fun j => h 35 j (by decide) (fun q => absurd q (by decide)); simp only [bd_ce]; rw [e]
  | 6, _, _, _, h => have e : (fun j => xm' 36 w j) = (fun j => xm 36 w j) := funext fun j => h 36 j (by decide) (fun q => absurd q (by decide)); simp only [bd_ce]; rw [e]
  | 7, _, _, _, h => simp only [bd_ce]; rw [h 0 k (by decide) (fun _ => rfl), h 1 k (by decide) (fun _ => rfl), h 2 k (by decide) (fun _ => rfl), h 3 k (by decide) (fun _ => rfl), h 4 k (by decide) (fun _ => rfl), h 5 k (by decide) (fun _ => rfl), h 6 k (by decide) (fun _ => rfl), h 7 k (by decide) (fun _ => rfl)]
  | 8, _, _, _, h => have e : (fun j => xm' (j + 1000) w k) = (fun j => xm (j + 1000) w k) := funext fun j => h (j + 1000) k (by simp only [bd_fam]; repeat (first | rw [if_neg (by omega)] | rfl)) (fun _ => rfl); simp only [bd_ce]; rw [e]
  | 9, _, _, _, h => simp only [bd_ce]; rw [h 20 k (by decide) (fun _ => rfl), h 21 k (by decide) (fun _ => rfl), h 22 k (by decide) (fun _ => rfl), h 23 k (by decide) (fun _ => rfl), h 24 k (by decide) (fun _ => rfl), h 25 k (by decide) (fun _ => rfl), h 26 k (by decide) (fun _ => rfl), h 27 k (by decide) (fun _ => rfl)]
  | 10, _, _, _, _ => rfl
  | 11, _, _, _, h => simp only [bd_ce]; rw [h 10 k (by decide) (fun _ => rfl), h 11 k (by decide) (fun _ => rfl), h 12 k (by decide) (fun _ => rfl)]
  | 12, _, _, _, _ => rfl
  | 13, _, _, _, _ => rfl
  | 14, _, _, _, _ => rfl
  | 15, _, _, _, _ => rfl
  | 16, _, _, _, _ => rfl
  | 17, _, _, _, _ => rfl
  | 18, _, _, _, _ => rfl
  | 19, _, _, _, _ => rfl
  | 20, _, _, _, _ => rfl
  | 21, _, _, _, _ => rfl
  | 22, _, _, _, _ => rfl
  | 23, _, _, _, _ => rfl
  | 24, _, _, _, _ => rfl
  | 25, _, _, _, _ => rfl
  | 26, _, _, _, _ => rfl
  | 27, _, _, _, _ => rfl
  | 28, _, _, _, _ => rfl
  | 29, _, _, _, _ => rfl
  | 30, _, _, _, _ => rfl
  | n + 31, h1, _, _, _ => exact absurd h1 (by omega)
theorem bd_upX {E : bd_E} {xm ym : bd_M} {om : Nat → Int64} {F w kk kc : Nat} {v : Int32} {e : va_E} (hc : bd_ce E (bd_up xm F w kk v) ym om (bd_fam F) w kc = e) (h1 : bd_ob (bd_fam F) = true → kc = kk) (h2 : bd_ob (bd_fam F) = false → kc = 0 ∧ bd_kN (bd_fam F) = 1) : bd_Up E xm ym om (bd_up xm F w kk v) ym om (bd_fam F) w kc e := by
  refine ⟨hc, fun f' w' k' hd hn => bd_ceX hd fun F2 k2 hF hk => bd_up_n (fun q => hn ?_)⟩
  obtain ⟨rfl, rfl, rfl⟩ := q
  subst hF
  refine ⟨rfl, rfl, ?_⟩
  cases hb : bd_ob (bd_fam F2) with
  | true => rw [h1 hb, hk hb]
  | false =>
    obtain ⟨a1, a2⟩ := h2 hb
    have h3 := hd.2.2
    rw [a2] at h3
    omega
def bd_fmY (f : Nat) : Nat := if f ≤ 2 then 12 else if f ≤ 12 then 18 else f
theorem bd_ceY {E : bd_E} {xm ym ym' : bd_M} {om : Nat → Int64} {f w k : Nat} (hd : bd_dm f w k) (h : ∀ F k2, bd_fmY F = f → ym' F w k2 = ym F w k2) : bd_ce E xm ym' om f w k = bd_ce E xm ym om f w k := by
  obtain ⟨h1, h2, h3⟩ := hd
  match f, h1, h2, h3, h with
  | 0, _, _, _, _ => rfl
  | 1, _, _, _, _ => rfl
  | 2, _, _, _, _ => rfl
  | 3, _, _, _, _ => rfl
  | 4, _, _, _, _ => rfl
  | 5, _, _, _, _ => rfl
  | 6, _, _, _, _ => rfl
  | 7, _, _, _, _ => rfl
  | 8, _, _, _, _ => rfl
  | 9, _, _, _, _ => rfl
  | 10, _, _, _, _ => rfl
  | 11, _, _, _, _ => rfl
  | 12, _, h2, _, h => have e : w = 0 := Nat.lt_one_iff.mp h2; subst e; simp only [bd_ce]; rw [h 0 0 (by decide), h 1 0 (by decide), h 2 0 (by decide)]
  | 13, _, _, _, h => have e : (fun j => ym' 13 w j) = (fun j => ym 13 w j) := funext fun j => h 13 j (by decide); simp only [bd_ce]; rw [e]
  | 14, _, _, _, h => have e : (fun j => ym' 14 w j) = (fun j => ym 14 w j) := funext fun j => h 14 j (by decide); simp only [bd_ce]; rw [e]
  | 15, _, _, _, h => have e : (fun j => ym' 15 w j) = (fun j => ym 15 w j) := funext fun j => h 15 j (by decide); simp only [bd_ce]; rw [e]
  | 16, _, _, _, h => have e : (fun j => ym' 16 w j) = (fun j => ym 16 w j) := funext fun j => h 16 j (by decide); simp only [bd_ce]; rw [e]
  | 17, _, _, _, h => have e : (fun j => ym' 17 w j) = (fun j => ym 17 w j) := funext fun j => h 17 j (by decide); simp only [bd_ce]; rw [e]
  | 18, _, _, _, h => simp only [bd_ce]; rw [h 10 0 (by decide), h 11 0 (by decide), h 12 0 (by decide)]
  | 19, _, _, _, h => have e : (fun j => ym' 19 w j) = (fun j => ym 19 w j) := funext fun j => h 19 j (by decide); simp only [bd_ce]; rw [e]
  | 20, _, _, _, h => have e : (fun j => ym' 20 w j) = (fun j => ym 20 w j) := funext fun j => h 20 j (by decide); simp only [bd_ce]; rw [e]
  | 21, _, _, _, h => have e : (fun j => ym' 21 w j) = (fun j => ym 21 w j) := funext fun j => h 21 j (by decide); simp only [bd_ce]; rw [e]
  | 22, _, _, _, h => have e : (fun j => ym' 22 w j) = (fun j => ym 22 w j) := funext fun j => h 22 j (by decide); simp only [bd_ce]; rw [e]
  | 23, _, _, _, h => have e : (fun j => ym' 23 w j) = (fun j => ym 23 w j) := funext fun j => h 23 j (by decide); simp only [bd_ce]; rw [e]
  | 24, _, _, _, h => have e : (fun j => ym' 24 w j) = (fun j => ym 24 w j) := funext fun j => h 24 j (by decide); simp only [bd_ce]; rw [e]
  | 25, _, _, _, h => have e : (fun j => ym' 25 w j) = (fun j => ym 25 w j) := funext fun j => h 25 j (by decide); simp only [bd_ce]; rw [e]
  | 26, _, _, _, h => have e : (fun j => ym' 26 w j) = (fun j => ym 26 w j) := funext fun j => h 26 j (by decide); simp only [bd_ce]; rw [e]
  | 27, _, _, _, h => have e : (fun j => ym' 27 w j) = (fun j => ym 27 w j) := funext fun j => h 27 j (by decide); simp only [bd_ce]; rw [e]
  | 28, _, _, _, h => have e : (fun j => ym' 28 w j) = (fun j => ym 28 w j) := funext fun j => h 28 j (by decide); simp only [bd_ce]; rw [e]
  | 29, _, _, _, h => have e : (fun j => ym' 29 w j) = (fun j => ym 29 w j) := funext fun j => h 29 j (by decide); simp only [bd_ce]; rw [e]
  | 30, _, _, _, _ => rfl
  | n + 31, h1, _, _, _ => exact absurd h1 (by omega)
theorem bd_upY {E : bd_E} {xm ym : bd_M} {om : Nat → Int64} {F w kk : Nat} {v : Int32} {e : va_E} (hc : bd_ce E xm (bd_up ym F w kk v) om (bd_fmY F) w 0 = e) (h2 : bd_kN (bd_fmY F) = 1) : bd_Up E xm ym om xm (bd_up ym F w kk v) om (bd_fmY F) w 0 e := by
  refine ⟨hc, fun f' w' k' hd hn => bd_ceY hd fun F2 k2 hF => bd_up_n (fun q => hn ?_)⟩
  obtain ⟨rfl, rfl, rfl⟩ := q
  subst hF
  have h3 := hd.2.2
  rw [h2] at h3
  exact ⟨rfl, rfl, by omega⟩
/-- a row of one season becomes another one -/
def bd_ro (x : bd_M) (f w : Nat) (g : Nat → Int32) : bd_M := fun f' w' k' => if f' = f ∧ w' = w then g k' else x f' w' k'
/-- the skills of a player become others -/
def bd_sk (x : bd_M) (w k : Nat) (g : Nat → Int32) : bd_M := fun f' w' k' => if 1000 ≤ f' ∧ w' = w ∧ k' = k then g (f' - 1000) else x f' w' k'
theorem bd_roY {E : bd_E} {xm ym : bd_M} {om : Nat → Int64} {F w : Nat} {g : Nat → Int32} {e : va_E} (hc : bd_ce E xm (bd_ro ym F w g) om (bd_fmY F) w 0 = e) (h2 : bd_kN (bd_fmY F) = 1) : bd_Up E xm ym om xm (bd_ro ym F w g) om (bd_fmY F) w 0 e := by
  refine ⟨hc, fun f' w' k' hd hn => bd_ceY hd fun F2 k2 hF => if_neg (fun q => hn ?_)⟩
  obtain ⟨rfl, rfl⟩ := q
  subst hF
  have h3 := hd.2.2
  rw [h2] at h3
  exact ⟨rfl, rfl, by omega⟩
theorem bd_roX {E : bd_E} {xm ym : bd_M} {om : Nat → Int64} {F w : Nat} {g : Nat → Int32} {e : va_E} (hc : bd_ce E (bd_ro xm F w g) ym om (bd_fam F) w 0 = e) (h2 : bd_kN (bd_fam F) = 1) : bd_Up E xm ym om (bd_ro xm F w g) ym om (bd_fam F) w 0 e := by
  refine ⟨hc, fun f' w' k' hd hn => bd_ceX hd fun F2 k2 hF _ => if_neg (fun q => hn ?_)⟩
  obtain ⟨rfl, rfl⟩ := q
  subst hF
  have h3 := hd.2.2
  rw [h2] at h3
  exact ⟨rfl, rfl, by omega⟩
theorem bd_skX {E : bd_E} {xm ym : bd_M} {om : Nat → Int64} {w k : Nat} {g : Nat → Int32} : bd_Up E xm ym om (bd_sk xm w k g) ym om 8 w k (bd_iA E 4 g) := by
  refine ⟨?_, fun f' w' k' hd hn => bd_ceX hd fun F2 k2 hF hk => if_neg (fun q => hn ?_)⟩
  · have e : (fun j => bd_sk xm w k g (j + 1000) w k) = g := funext fun j => by simp [bd_sk]
    simp only [bd_ce]
    rw [e]
  · obtain ⟨a1, rfl, a2⟩ := q
    have hf : bd_fam F2 = 8 := by
      simp only [bd_fam]
      repeat (first | rw [if_neg (by omega)] | rfl)
    rw [hf] at hF
    subst hF
    exact ⟨rfl, rfl, by rw [← hk (by decide), a2]⟩
/-- what a method's rows stand on -/
abbrev bd_Cx (E : bd_E) (p : Program) (m : MethodId) (c : Code) (cc : ByteArray) (nL : Nat) (s : State) (args : Array Value) (own : String) : Prop := CallFix p m c cc nL s args wsL_law own ∧ bd_KK E s
section BDR
variable {p : Program} {l : Launch} {e : Env} {R : Room} {s : State} {m : MethodId} {args : Array Value} {below : List Frame} {meth : Method} {c : Code} {H H0 : Heap} {locs : List Loc} {cells slots : Nat} {Q : State → Prop}
variable {cc : ByteArray} {pc nL : Nat} {ls : Array Slot} {rest : List Value} {E : bd_E} {xm ym : bd_M} {om : Nat → Int64} {own : String} {w k i : Nat}
theorem bd_g_X0_chairs (C : bd_Cx E p m c cc nL s args own) (hR : bd_Rep E xm ym om H) (hw : w < 2) (hk : k < 6) (hl : Cond.fieldLink own i "BandDay$Band" "chairs" "[LBandDay$Chair;" ∈ wsL_law) (hdg : decode cc pc = .ok (.getfield i, 3)) (kk : W p l e R s m args below meth c H locs cells slots Q (F0 m (pc + 3) ls (.ref (bd_ea E 10 w k) :: rest))) : W p l e R s m args below meth c H locs cells slots Q (F0 m pc ls (.ref (bd_ea E 9 w k) :: rest)) := by
  obtain ⟨q, hq⟩ := bd_pos (f := 9) (w := w) (k := k) ⟨by decide, hw, hk⟩
  exact va_get (D := bd_eD E) (ci := 0) (C := RX0) (T := TX0) (N := 9) C.1.1 C.1.2.1 C.1.2.2.2.2 inlX0 C.1.2.2.2.1 C.2.1 hR.P q (bd_ws_at hq) rfl 0 (by decide) (C.1.2.2.2.2 _ hl) (fun _ h => h) rfl hdg kk
theorem bd_g_X0_size (C : bd_Cx E p m c cc nL s args own) (hR : bd_Rep E xm ym om H) (hw : w < 2) (hk : k < 6) (hl : Cond.fieldLink own i "BandDay$Band" "size" "I" ∈ wsL_law) (hdg : decode cc pc = .ok (.getfield i, 3)) (kk : W p l e R s m args below meth c H locs cells slots Q (F0 m (pc + 3) ls (.int (xm 20 w k) :: rest))) : W p l e R s m args below meth c H locs cells slots Q (F0 m pc ls (.ref (bd_ea E 9 w k) :: rest)) := by
  obtain ⟨q, hq⟩ := bd_pos (f := 9) (w := w) (k := k) ⟨by decide, hw, hk⟩
  exact va_get (D := bd_eD E) (ci := 0) (C := RX0) (T := TX0) (N := 9) C.1.1 C.1.2.1 C.1.2.2.2.2 inlX0 C.1.2.2.2.1 C.2.1 hR.P q (bd_ws_at hq) rfl 1 (by decide) (C.1.2.2.2.2 _ hl) (fun _ h => h) rfl hdg kk
theorem bd_p_X0_size (C : bd_Cx E p m c cc nL s args own) (hR : bd_Rep E xm ym om H) (hS : va_S (bd_A E) H0 H locs) (hw : w < 2) (hk : k < 6) (hl : Cond.fieldLink own i "BandDay$Band" "size" "I" ∈ wsL_law) (hdg : decode cc pc = .ok (.putfield i, 3)) {v : Int32} (kk : ∀ (H1 : Heap) (locs1 : List Loc), bd_Rep E (bd_up xm 20 w k v) ym om H1 → va_S (bd_A E) H0 H1 locs1 → W p l e R s m args below meth c H1 locs1 cells slots Q (F0 m (pc + 3) ls rest)) : W p l e R s m args below meth c H locs cells slots Q (F0 m pc ls (.int v :: .ref (bd_ea E 9 w k) :: rest)) := by
  obtain ⟨q, hq⟩ := bd_pos (f := 9) (w := w) (k := k) ⟨by decide, hw, hk⟩
  exact va_put (D := bd_eD E) (ci := 0) (v := .int v) (ty := .int) (C := RX0) (T := TX0) (N := 9) C.1.1 C.1.2.1 C.1.2.2.2.2 inlX0 tyX0 tyX0_ok nmX0 C.1.2.2.2.1 C.2.1 hR.P hR.D hS q (bd_ws_at hq) rfl 1 (by decide) (C.1.2.2.2.2 _ hl) (fun _ h => h) rfl (by decide +kernel) rfl rfl (Nat.le_of_ble_eq_true rfl) hdg (fun H1 locs1 hP _ hS1 => kk H1 locs1 (bd_back hR hq (bd_upX (F := 20) (by simp [bd_ce, bd_up, bd_fam, bd_fmY]) (fun _ => rfl) (fun h => absurd h (by decide))) hP) hS1)
theorem bd_g_X0_spirit (C : bd_Cx E p m c cc nL s args own) (hR : bd_Rep E xm ym om H) (hw : w < 2) (hk : k < 6) (hl : Cond.fieldLink own i "BandDay$Band" "spirit" "I" ∈ wsL_law) (hdg : decode cc pc = .ok (.getfield i, 3)) (kk : W p l e R s m args below meth c H locs cells slots Q (F0 m (pc + 3) ls (.int (xm 21 w k) :: rest))) : W p l e R s m args below meth c H locs cells slots Q (F0 m pc ls (.ref (bd_ea E 9 w k) :: rest)) := by
  obtain ⟨q, hq⟩ := bd_pos (f := 9) (w := w) (k := k) ⟨by decide, hw, hk⟩
  exact va_get (D := bd_eD E) (ci := 0) (C := RX0) (T := TX0) (N := 9) C.1.1 C.1.2.1 C.1.2.2.2.2 inlX0 C.1.2.2.2.1 C.2.1 hR.P q (bd_ws_at hq) rfl 2 (by decide) (C.1.2.2.2.2 _ hl) (fun _ h => h) rfl hdg kk
theorem bd_p_X0_spirit (C : bd_Cx E p m c cc nL s args own) (hR : bd_Rep E xm ym om H) (hS : va_S (bd_A E) H0 H locs) (hw : w < 2) (hk : k < 6) (hl : Cond.fieldLink own i "BandDay$Band" "spirit" "I" ∈ wsL_law) (hdg : decode cc pc = .ok (.putfield i, 3)) {v : Int32} (kk : ∀ (H1 : Heap) (locs1 : List Loc), bd_Rep E (bd_up xm 21 w k v) ym om H1 → va_S (bd_A E) H0 H1 locs1 → W p l e R s m args below meth c H1 locs1 cells slots Q (F0 m (pc + 3) ls rest)) : W p l e R s m args below meth c H locs cells slots Q (F0 m pc ls (.int v :: .ref (bd_ea E 9 w k) :: rest)) := by
  obtain ⟨q, hq⟩ := bd_pos (f := 9) (w := w) (k := k) ⟨by decide, hw, hk⟩
  exact va_put (D := bd_eD E) (ci := 0) (v := .int v) (ty := .int) (C := RX0) (T := TX0) (N := 9) C.1.1 C.1.2.1 C.1.2.2.2.2 inlX0 tyX0 tyX0_ok nmX0 C.1.2.2.2.1 C.2.1 hR.P hR.D hS q (bd_ws_at hq) rfl 2 (by decide) (C.1.2.2.2.2 _ hl) (fun _ h => h) rfl (by decide +kernel) rfl rfl (Nat.le_of_ble_eq_true rfl) hdg (fun H1 locs1 hP _ hS1 => kk H1 locs1 (bd_back hR hq (bd_upX (F := 21) (by simp [bd_ce, bd_up, bd_fam, bd_fmY]) (fun _ => rfl) (fun h => absurd h (by decide))) hP) hS1)
theorem bd_g_X0_marks (C : bd_Cx E p m c cc nL s args own) (hR : bd_Rep E xm ym om H) (hw : w < 2) (hk : k < 6) (hl : Cond.fieldLink own i "BandDay$Band" "marks" "I" ∈ wsL_law) (hdg : decode cc pc = .ok (.getfield i, 3)) (kk : W p l e R s m args below meth c H locs cells slots Q (F0 m (pc + 3) ls (.int (xm 22 w k) :: rest))) : W p l e R s m args below meth c H locs cells slots Q (F0 m pc ls (.ref (bd_ea E 9 w k) :: rest)) := by
  obtain ⟨q, hq⟩ := bd_pos (f := 9) (w := w) (k := k) ⟨by decide, hw, hk⟩
  exact va_get (D := bd_eD E) (ci := 0) (C := RX0) (T := TX0) (N := 9) C.1.1 C.1.2.1 C.1.2.2.2.2 inlX0 C.1.2.2.2.1 C.2.1 hR.P q (bd_ws_at hq) rfl 3 (by decide) (C.1.2.2.2.2 _ hl) (fun _ h => h) rfl hdg kk
theorem bd_p_X0_marks (C : bd_Cx E p m c cc nL s args own) (hR : bd_Rep E xm ym om H) (hS : va_S (bd_A E) H0 H locs) (hw : w < 2) (hk : k < 6) (hl : Cond.fieldLink own i "BandDay$Band" "marks" "I" ∈ wsL_law) (hdg : decode cc pc = .ok (.putfield i, 3)) {v : Int32} (kk : ∀ (H1 : Heap) (locs1 : List Loc), bd_Rep E (bd_up xm 22 w k v) ym om H1 → va_S (bd_A E) H0 H1 locs1 → W p l e R s m args below meth c H1 locs1 cells slots Q (F0 m (pc + 3) ls rest)) : W p l e R s m args below meth c H locs cells slots Q (F0 m pc ls (.int v :: .ref (bd_ea E 9 w k) :: rest)) := by
  obtain ⟨q, hq⟩ := bd_pos (f := 9) (w := w) (k := k) ⟨by decide, hw, hk⟩
  exact va_put (D := bd_eD E) (ci := 0) (v := .int v) (ty := .int) (C := RX0) (T := TX0) (N := 9) C.1.1 C.1.2.1 C.1.2.2.2.2 inlX0 tyX0 tyX0_ok nmX0 C.1.2.2.2.1 C.2.1 hR.P hR.D hS q (bd_ws_at hq) rfl 3 (by decide) (C.1.2.2.2.2 _ hl) (fun _ h => h) rfl (by decide +kernel) rfl rfl (Nat.le_of_ble_eq_true rfl) hdg (fun H1 locs1 hP _ hS1 => kk H1 locs1 (bd_back hR hq (bd_upX (F := 22) (by simp [bd_ce, bd_up, bd_fam, bd_fmY]) (fun _ => rfl) (fun h => absurd h (by decide))) hP) hS1)
theorem bd_g_X0_place (C : bd_Cx E p m c cc nL s args own) (hR : bd_Rep E xm ym om H) (hw : w < 2) (hk : k < 6) (hl : Cond.fieldLink own i "BandDay$Band" "place" "I" ∈ wsL_law) (hdg : decode cc pc = .ok (.getfield i, 3)) (kk : W p l e R s m args below meth c H locs cells slots Q (F0 m (pc + 3) ls (.int (xm 23 w k) :: rest))) : W p l e R s m args below meth c H locs cells slots Q (F0 m pc ls (.ref (bd_ea E 9 w k) :: rest)) := by
  obtain ⟨q, hq⟩ := bd_pos (f := 9) (w := w) (k := k) ⟨by decide, hw, hk⟩
  exact va_get (D := bd_eD E) (ci := 0) (C := RX0) (T := TX0) (N := 9) C.1.1 C.1.2.1 C.1.2.2.2.2 inlX0 C.1.2.2.2.1 C.2.1 hR.P q (bd_ws_at hq) rfl 4 (by decide) (C.1.2.2.2.2 _ hl) (fun _ h => h) rfl hdg kk
theorem bd_p_X0_place (C : bd_Cx E p m c cc nL s args own) (hR : bd_Rep E xm ym om H) (hS : va_S (bd_A E) H0 H locs) (hw : w < 2) (hk : k < 6) (hl : Cond.fieldLink own i "BandDay$Band" "place" "I" ∈ wsL_law) (hdg : decode cc pc = .ok (.putfield i, 3)) {v : Int32} (kk : ∀ (H1 : Heap) (locs1 : List Loc), bd_Rep E (bd_up xm 23 w k v) ym om H1 → va_S (bd_A E) H0 H1 locs1 → W p l e R s m args below meth c H1 locs1 cells slots Q (F0 m (pc + 3) ls rest)) : W p l e R s m args below meth c H locs cells slots Q (F0 m pc ls (.int v :: .ref (bd_ea E 9 w k) :: rest)) := by
  obtain ⟨q, hq⟩ := bd_pos (f := 9) (w := w) (k := k) ⟨by decide, hw, hk⟩
  exact va_put (D := bd_eD E) (ci := 0) (v := .int v) (ty := .int) (C := RX0) (T := TX0) (N := 9) C.1.1 C.1.2.1 C.1.2.2.2.2 inlX0 tyX0 tyX0_ok nmX0 C.1.2.2.2.1 C.2.1 hR.P hR.D hS q (bd_ws_at hq) rfl 4 (by decide) (C.1.2.2.2.2 _ hl) (fun _ h => h) rfl (by decide +kernel) rfl rfl (Nat.le_of_ble_eq_true rfl) hdg (fun H1 locs1 hP _ hS1 => kk H1 locs1 (bd_back hR hq (bd_upX (F := 23) (by simp [bd_ce, bd_up, bd_fam, bd_fmY]) (fun _ => rfl) (fun h => absurd h (by decide))) hP) hS1)
theorem bd_g_X0_deputies (C : bd_Cx E p m c cc nL s args own) (hR : bd_Rep E xm ym om H) (hw : w < 2) (hk : k < 6) (hl : Cond.fieldLink own i "BandDay$Band" "deputies" "I" ∈ wsL_law) (hdg : decode cc pc = .ok (.getfield i, 3)) (kk : W p l e R s m args below meth c H locs cells slots Q (F0 m (pc + 3) ls (.int (xm 24 w k) :: rest))) : W p l e R s m args below meth c H locs cells slots Q (F0 m pc ls (.ref (bd_ea E 9 w k) :: rest)) := by
  obtain ⟨q, hq⟩ := bd_pos (f := 9) (w := w) (k := k) ⟨by decide, hw, hk⟩
  exact va_get (D := bd_eD E) (ci := 0) (C := RX0) (T := TX0) (N := 9) C.1.1 C.1.2.1 C.1.2.2.2.2 inlX0 C.1.2.2.2.1 C.2.1 hR.P q (bd_ws_at hq) rfl 5 (by decide) (C.1.2.2.2.2 _ hl) (fun _ h => h) rfl hdg kk
theorem bd_p_X0_deputies (C : bd_Cx E p m c cc nL s args own) (hR : bd_Rep E xm ym om H) (hS : va_S (bd_A E) H0 H locs) (hw : w < 2) (hk : k < 6) (hl : Cond.fieldLink own i "BandDay$Band" "deputies" "I" ∈ wsL_law) (hdg : decode cc pc = .ok (.putfield i, 3)) {v : Int32} (kk : ∀ (H1 : Heap) (locs1 : List Loc), bd_Rep E (bd_up xm 24 w k v) ym om H1 → va_S (bd_A E) H0 H1 locs1 → W p l e R s m args below meth c H1 locs1 cells slots Q (F0 m (pc + 3) ls rest)) : W p l e R s m args below meth c H locs cells slots Q (F0 m pc ls (.int v :: .ref (bd_ea E 9 w k) :: rest)) := by
  obtain ⟨q, hq⟩ := bd_pos (f := 9) (w := w) (k := k) ⟨by decide, hw, hk⟩
  exact va_put (D := bd_eD E) (ci := 0) (v := .int v) (ty := .int) (C := RX0) (T := TX0) (N := 9) C.1.1 C.1.2.1 C.1.2.2.2.2 inlX0 tyX0 tyX0_ok nmX0 C.1.2.2.2.1 C.2.1 hR.P hR.D hS q (bd_ws_at hq) rfl 5 (by decide) (C.1.2.2.2.2 _ hl) (fun _ h => h) rfl (by decide +kernel) rfl rfl (Nat.le_of_ble_eq_true rfl) hdg (fun H1 locs1 hP _ hS1 => kk H1 locs1 (bd_back hR hq (bd_upX (F := 24) (by simp [bd_ce, bd_up, bd_fam, bd_fmY]) (fun _ => rfl) (fun h => absurd h (by decide))) hP) hS1)
theorem bd_g_X0_empties (C : bd_Cx E p m c cc nL s args own) (hR : bd_Rep E xm ym om H) (hw : w < 2) (hk : k < 6) (hl : Cond.fieldLink own i "BandDay$Band" "empties" "I" ∈ wsL_law) (hdg : decode cc pc = .ok (.getfield i, 3)) (kk : W p l e R s m args below meth c H locs cells slots Q (F0 m (pc + 3) ls (.int (xm 25 w k) :: rest))) : W p l e R s m args below meth c H locs cells slots Q (F0 m pc ls (.ref (bd_ea E 9 w k) :: rest)) := by
  obtain ⟨q, hq⟩ := bd_pos (f := 9) (w := w) (k := k) ⟨by decide, hw, hk⟩
  exact va_get (D := bd_eD E) (ci := 0) (C := RX0) (T := TX0) (N := 9) C.1.1 C.1.2.1 C.1.2.2.2.2 inlX0 C.1.2.2.2.1 C.2.1 hR.P q (bd_ws_at hq) rfl 6 (by decide) (C.1.2.2.2.2 _ hl) (fun _ h => h) rfl hdg kk
theorem bd_p_X0_empties (C : bd_Cx E p m c cc nL s args own) (hR : bd_Rep E xm ym om H) (hS : va_S (bd_A E) H0 H locs) (hw : w < 2) (hk : k < 6) (hl : Cond.fieldLink own i "BandDay$Band" "empties" "I" ∈ wsL_law) (hdg : decode cc pc = .ok (.putfield i, 3)) {v : Int32} (kk : ∀ (H1 : Heap) (locs1 : List Loc), bd_Rep E (bd_up xm 25 w k v) ym om H1 → va_S (bd_A E) H0 H1 locs1 → W p l e R s m args below meth c H1 locs1 cells slots Q (F0 m (pc + 3) ls rest)) : W p l e R s m args below meth c H locs cells slots Q (F0 m pc ls (.int v :: .ref (bd_ea E 9 w k) :: rest)) := by
  obtain ⟨q, hq⟩ := bd_pos (f := 9) (w := w) (k := k) ⟨by decide, hw, hk⟩
  exact va_put (D := bd_eD E) (ci := 0) (v := .int v) (ty := .int) (C := RX0) (T := TX0) (N := 9) C.1.1 C.1.2.1 C.1.2.2.2.2 inlX0 tyX0 tyX0_ok nmX0 C.1.2.2.2.1 C.2.1 hR.P hR.D hS q (bd_ws_at hq) rfl 6 (by decide) (C.1.2.2.2.2 _ hl) (fun _ h => h) rfl (by decide +kernel) rfl rfl (Nat.le_of_ble_eq_true rfl) hdg (fun H1 locs1 hP _ hS1 => kk H1 locs1 (bd_back hR hq (bd_upX (F := 25) (by simp [bd_ce, bd_up, bd_fam, bd_fmY]) (fun _ => rfl) (fun h => absurd h (by decide))) hP) hS1)
theorem bd_g_X0_points (C : bd_Cx E p m c cc nL s args own) (hR : bd_Rep E xm ym om H) (hw : w < 2) (hk : k < 6) (hl : Cond.fieldLink own i "BandDay$Band" "points" "I" ∈ wsL_law) (hdg : decode cc pc = .ok (.getfield i, 3)) (kk : W p l e R s m args below meth c H locs cells slots Q (F0 m (pc + 3) ls (.int (xm 26 w k) :: rest))) : W p l e R s m args below meth c H locs cells slots Q (F0 m pc ls (.ref (bd_ea E 9 w k) :: rest)) := by
  obtain ⟨q, hq⟩ := bd_pos (f := 9) (w := w) (k := k) ⟨by decide, hw, hk⟩
  exact va_get (D := bd_eD E) (ci := 0) (C := RX0) (T := TX0) (N := 9) C.1.1 C.1.2.1 C.1.2.2.2.2 inlX0 C.1.2.2.2.1 C.2.1 hR.P q (bd_ws_at hq) rfl 7 (by decide) (C.1.2.2.2.2 _ hl) (fun _ h => h) rfl hdg kk
theorem bd_p_X0_points (C : bd_Cx E p m c cc nL s args own) (hR : bd_Rep E xm ym om H) (hS : va_S (bd_A E) H0 H locs) (hw : w < 2) (hk : k < 6) (hl : Cond.fieldLink own i "BandDay$Band" "points" "I" ∈ wsL_law) (hdg : decode cc pc = .ok (.putfield i, 3)) {v : Int32} (kk : ∀ (H1 : Heap) (locs1 : List Loc), bd_Rep E (bd_up xm 26 w k v) ym om H1 → va_S (bd_A E) H0 H1 locs1 → W p l e R s m args below meth c H1 locs1 cells slots Q (F0 m (pc + 3) ls rest)) : W p l e R s m args below meth c H locs cells slots Q (F0 m pc ls (.int v :: .ref (bd_ea E 9 w k) :: rest)) := by
  obtain ⟨q, hq⟩ := bd_pos (f := 9) (w := w) (k := k) ⟨by decide, hw, hk⟩
  exact va_put (D := bd_eD E) (ci := 0) (v := .int v) (ty := .int) (C := RX0) (T := TX0) (N := 9) C.1.1 C.1.2.1 C.1.2.2.2.2 inlX0 tyX0 tyX0_ok nmX0 C.1.2.2.2.1 C.2.1 hR.P hR.D hS q (bd_ws_at hq) rfl 7 (by decide) (C.1.2.2.2.2 _ hl) (fun _ h => h) rfl (by decide +kernel) rfl rfl (Nat.le_of_ble_eq_true rfl) hdg (fun H1 locs1 hP _ hS1 => kk H1 locs1 (bd_back hR hq (bd_upX (F := 26) (by simp [bd_ce, bd_up, bd_fam, bd_fmY]) (fun _ => rfl) (fun h => absurd h (by decide))) hP) hS1)
theorem bd_g_X0_outs (C : bd_Cx E p m c cc nL s args own) (hR : bd_Rep E xm ym om H) (hw : w < 2) (hk : k < 6) (hl : Cond.fieldLink own i "BandDay$Band" "outs" "I" ∈ wsL_law) (hdg : decode cc pc = .ok (.getfield i, 3)) (kk : W p l e R s m args below meth c H locs cells slots Q (F0 m (pc + 3) ls (.int (xm 27 w k) :: rest))) : W p l e R s m args below meth c H locs cells slots Q (F0 m pc ls (.ref (bd_ea E 9 w k) :: rest)) := by
  obtain ⟨q, hq⟩ := bd_pos (f := 9) (w := w) (k := k) ⟨by decide, hw, hk⟩
  exact va_get (D := bd_eD E) (ci := 0) (C := RX0) (T := TX0) (N := 9) C.1.1 C.1.2.1 C.1.2.2.2.2 inlX0 C.1.2.2.2.1 C.2.1 hR.P q (bd_ws_at hq) rfl 8 (by decide) (C.1.2.2.2.2 _ hl) (fun _ h => h) rfl hdg kk
theorem bd_p_X0_outs (C : bd_Cx E p m c cc nL s args own) (hR : bd_Rep E xm ym om H) (hS : va_S (bd_A E) H0 H locs) (hw : w < 2) (hk : k < 6) (hl : Cond.fieldLink own i "BandDay$Band" "outs" "I" ∈ wsL_law) (hdg : decode cc pc = .ok (.putfield i, 3)) {v : Int32} (kk : ∀ (H1 : Heap) (locs1 : List Loc), bd_Rep E (bd_up xm 27 w k v) ym om H1 → va_S (bd_A E) H0 H1 locs1 → W p l e R s m args below meth c H1 locs1 cells slots Q (F0 m (pc + 3) ls rest)) : W p l e R s m args below meth c H locs cells slots Q (F0 m pc ls (.int v :: .ref (bd_ea E 9 w k) :: rest)) := by
  obtain ⟨q, hq⟩ := bd_pos (f := 9) (w := w) (k := k) ⟨by decide, hw, hk⟩
  exact va_put (D := bd_eD E) (ci := 0) (v := .int v) (ty := .int) (C := RX0) (T := TX0) (N := 9) C.1.1 C.1.2.1 C.1.2.2.2.2 inlX0 tyX0 tyX0_ok nmX0 C.1.2.2.2.1 C.2.1 hR.P hR.D hS q (bd_ws_at hq) rfl 8 (by decide) (C.1.2.2.2.2 _ hl) (fun _ h => h) rfl (by decide +kernel) rfl rfl (Nat.le_of_ble_eq_true rfl) hdg (fun H1 locs1 hP _ hS1 => kk H1 locs1 (bd_back hR hq (bd_upX (F := 27) (by simp [bd_ce, bd_up, bd_fam, bd_fmY]) (fun _ => rfl) (fun h => absurd h (by decide))) hP) hS1)
theorem bd_g_X1_instrument (C : bd_Cx E p m c cc nL s args own) (hR : bd_Rep E xm ym om H) (hw : w < 2) (hk : k < 48) (hl : Cond.fieldLink own i "BandDay$Chair" "instrument" "I" ∈ wsL_law) (hdg : decode cc pc = .ok (.getfield i, 3)) (kk : W p l e R s m args below meth c H locs cells slots Q (F0 m (pc + 3) ls (.int (xm 10 w k) :: rest))) : W p l e R s m args below meth c H locs cells slots Q (F0 m pc ls (.ref (bd_ea E 11 w k) :: rest)) := by
  obtain ⟨q, hq⟩ := bd_pos (f := 11) (w := w) (k := k) ⟨by decide, hw, hk⟩
  exact va_get (D := bd_eD E) (ci := 1) (C := RX1) (T := TX1) (N := 3) C.1.1 C.1.2.1 C.1.2.2.2.2 inlX1 C.1.2.2.2.1 C.2.1 hR.P q (bd_ws_at hq) rfl 0 (by decide) (C.1.2.2.2.2 _ hl) (fun _ h => h) rfl hdg kk
theorem bd_p_X1_instrument (C : bd_Cx E p m c cc nL s args own) (hR : bd_Rep E xm ym om H) (hS : va_S (bd_A E) H0 H locs) (hw : w < 2) (hk : k < 48) (hl : Cond.fieldLink own i "BandDay$Chair" "instrument" "I" ∈ wsL_law) (hdg : decode cc pc = .ok (.putfield i, 3)) {v : Int32} (kk : ∀ (H1 : Heap) (locs1 : List Loc), bd_Rep E (bd_up xm 10 w k v) ym om H1 → va_S (bd_A E) H0 H1 locs1 → W p l e R s m args below meth c H1 locs1 cells slots Q (F0 m (pc + 3) ls rest)) : W p l e R s m args below meth c H locs cells slots Q (F0 m pc ls (.int v :: .ref (bd_ea E 11 w k) :: rest)) := by
  obtain ⟨q, hq⟩ := bd_pos (f := 11) (w := w) (k := k) ⟨by decide, hw, hk⟩
  exact va_put (D := bd_eD E) (ci := 1) (v := .int v) (ty := .int) (C := RX1) (T := TX1) (N := 3) C.1.1 C.1.2.1 C.1.2.2.2.2 inlX1 tyX1 tyX1_ok nmX1 C.1.2.2.2.1 C.2.1 hR.P hR.D hS q (bd_ws_at hq) rfl 0 (by decide) (C.1.2.2.2.2 _ hl) (fun _ h => h) rfl (by decide +kernel) rfl rfl (Nat.le_of_ble_eq_true rfl) hdg (fun H1 locs1 hP _ hS1 => kk H1 locs1 (bd_back hR hq (bd_upX (F := 10) (by simp [bd_ce, bd_up, bd_fam, bd_fmY]) (fun _ => rfl) (fun h => absurd h (by decide))) hP) hS1)
theorem bd_g_X1_member (C : bd_Cx E p m c cc nL s args own) (hR : bd_Rep E xm ym om H) (hw : w < 2) (hk : k < 48) (hl : Cond.fieldLink own i "BandDay$Chair" "member" "I" ∈ wsL_law) (hdg : decode cc pc = .ok (.getfield i, 3)) (kk : W p l e R s m args below meth c H locs cells slots Q (F0 m (pc + 3) ls (.int (xm 11 w k) :: rest))) : W p l e R s m args below meth c H locs cells slots Q (F0 m pc ls (.ref (bd_ea E 11 w k) :: rest)) := by
  obtain ⟨q, hq⟩ := bd_pos (f := 11) (w := w) (k := k) ⟨by decide, hw, hk⟩
  exact va_get (D := bd_eD E) (ci := 1) (C := RX1) (T := TX1) (N := 3) C.1.1 C.1.2.1 C.1.2.2.2.2 inlX1 C.1.2.2.2.1 C.2.1 hR.P q (bd_ws_at hq) rfl 1 (by decide) (C.1.2.2.2.2 _ hl) (fun _ h => h) rfl hdg kk
theorem bd_p_X1_member (C : bd_Cx E p m c cc nL s args own) (hR : bd_Rep E xm ym om H) (hS : va_S (bd_A E) H0 H locs) (hw : w < 2) (hk : k < 48) (hl : Cond.fieldLink own i "BandDay$Chair" "member" "I" ∈ wsL_law) (hdg : decode cc pc = .ok (.putfield i, 3)) {v : Int32} (kk : ∀ (H1 : Heap) (locs1 : List Loc), bd_Rep E (bd_up xm 11 w k v) ym om H1 → va_S (bd_A E) H0 H1 locs1 → W p l e R s m args below meth c H1 locs1 cells slots Q (F0 m (pc + 3) ls rest)) : W p l e R s m args below meth c H locs cells slots Q (F0 m pc ls (.int v :: .ref (bd_ea E 11 w k) :: rest)) := by
  obtain ⟨q, hq⟩ := bd_pos (f := 11) (w := w) (k := k) ⟨by decide, hw, hk⟩
  exact va_put (D := bd_eD E) (ci := 1) (v := .int v) (ty := .int) (C := RX1) (T := TX1) (N := 3) C.1.1 C.1.2.1 C.1.2.2.2.2 inlX1 tyX1 tyX1_ok nmX1 C.1.2.2.2.1 C.2.1 hR.P hR.D hS q (bd_ws_at hq) rfl 1 (by decide) (C.1.2.2.2.2 _ hl) (fun _ h => h) rfl (by decide +kernel) rfl rfl (Nat.le_of_ble_eq_true rfl) hdg (fun H1 locs1 hP _ hS1 => kk H1 locs1 (bd_back hR hq (bd_upX (F := 11) (by simp [bd_ce, bd_up, bd_fam, bd_fmY]) (fun _ => rfl) (fun h => absurd h (by decide))) hP) hS1)
theorem bd_g_X1_sitter (C : bd_Cx E p m c cc nL s args own) (hR : bd_Rep E xm ym om H) (hw : w < 2) (hk : k < 48) (hl : Cond.fieldLink own i "BandDay$Chair" "sitter" "I" ∈ wsL_law) (hdg : decode cc pc = .ok (.getfield i, 3)) (kk : W p l e R s m args below meth c H locs cells slots Q (F0 m (pc + 3) ls (.int (xm 12 w k) :: rest))) : W p l e R s m args below meth c H locs cells slots Q (F0 m pc ls (.ref (bd_ea E 11 w k) :: rest)) := by
  obtain ⟨q, hq⟩ := bd_pos (f := 11) (w := w) (k := k) ⟨by decide, hw, hk⟩
  exact va_get (D := bd_eD E) (ci := 1) (C := RX1) (T := TX1) (N := 3) C.1.1 C.1.2.1 C.1.2.2.2.2 inlX1 C.1.2.2.2.1 C.2.1 hR.P q (bd_ws_at hq) rfl 2 (by decide) (C.1.2.2.2.2 _ hl) (fun _ h => h) rfl hdg kk
theorem bd_p_X1_sitter (C : bd_Cx E p m c cc nL s args own) (hR : bd_Rep E xm ym om H) (hS : va_S (bd_A E) H0 H locs) (hw : w < 2) (hk : k < 48) (hl : Cond.fieldLink own i "BandDay$Chair" "sitter" "I" ∈ wsL_law) (hdg : decode cc pc = .ok (.putfield i, 3)) {v : Int32} (kk : ∀ (H1 : Heap) (locs1 : List Loc), bd_Rep E (bd_up xm 12 w k v) ym om H1 → va_S (bd_A E) H0 H1 locs1 → W p l e R s m args below meth c H1 locs1 cells slots Q (F0 m (pc + 3) ls rest)) : W p l e R s m args below meth c H locs cells slots Q (F0 m pc ls (.int v :: .ref (bd_ea E 11 w k) :: rest)) := by
  obtain ⟨q, hq⟩ := bd_pos (f := 11) (w := w) (k := k) ⟨by decide, hw, hk⟩
  exact va_put (D := bd_eD E) (ci := 1) (v := .int v) (ty := .int) (C := RX1) (T := TX1) (N := 3) C.1.1 C.1.2.1 C.1.2.2.2.2 inlX1 tyX1 tyX1_ok nmX1 C.1.2.2.2.1 C.2.1 hR.P hR.D hS q (bd_ws_at hq) rfl 2 (by decide) (C.1.2.2.2.2 _ hl) (fun _ h => h) rfl (by decide +kernel) rfl rfl (Nat.le_of_ble_eq_true rfl) hdg (fun H1 locs1 hP _ hS1 => kk H1 locs1 (bd_back hR hq (bd_upX (F := 12) (by simp [bd_ce, bd_up, bd_fam, bd_fmY]) (fun _ => rfl) (fun h => absurd h (by decide))) hP) hS1)
theorem bd_g_X2_season (C : bd_Cx E p m c cc nL s args own) (hR : bd_Rep E xm ym om H) (hw : w < 2) (hl : Cond.fieldLink own i "BandDay$Contest" "season" "LBandDay$Season;" ∈ wsL_law) (hdg : decode cc pc = .ok (.getfield i, 3)) (kk : W p l e R s m args below meth c H locs cells slots Q (F0 m (pc + 3) ls (.ref (bd_ea E 1 w 0) :: rest))) : W p l e R s m args below meth c H locs cells slots Q (F0 m pc ls (.ref (bd_ea E 2 w 0) :: rest)) := by
  obtain ⟨q, hq⟩ := bd_pos (f := 2) (w := w) (k := 0) ⟨by decide, hw, by decide⟩
  exact va_get (D := bd_eD E) (ci := 2) (C := RX2) (T := TX2) (N := 1) C.1.1 C.1.2.1 C.1.2.2.2.2 inlX2 C.1.2.2.2.1 C.2.1 hR.P q (bd_ws_at hq) rfl 0 (by decide) (C.1.2.2.2.2 _ hl) (fun _ h => h) rfl hdg kk
theorem bd_g_X3_skills (C : bd_Cx E p m c cc nL s args own) (hR : bd_Rep E xm ym om H) (hw : w < 2) (hk : k < 24) (hl : Cond.fieldLink own i "BandDay$Player" "skills" "[I" ∈ wsL_law) (hdg : decode cc pc = .ok (.getfield i, 3)) (kk : W p l e R s m args below meth c H locs cells slots Q (F0 m (pc + 3) ls (.ref (bd_ea E 8 w k) :: rest))) : W p l e R s m args below meth c H locs cells slots Q (F0 m pc ls (.ref (bd_ea E 7 w k) :: rest)) := by
  obtain ⟨q, hq⟩ := bd_pos (f := 7) (w := w) (k := k) ⟨by decide, hw, hk⟩
  exact va_get (D := bd_eD E) (ci := 3) (C := RX3) (T := TX3) (N := 9) C.1.1 C.1.2.1 C.1.2.2.2.2 inlX3 C.1.2.2.2.1 C.2.1 hR.P q (bd_ws_at hq) rfl 0 (by decide) (C.1.2.2.2.2 _ hl) (fun _ h => h) rfl hdg kk
theorem bd_g_X3_tired (C : bd_Cx E p m c cc nL s args own) (hR : bd_Rep E xm ym om H) (hw : w < 2) (hk : k < 24) (hl : Cond.fieldLink own i "BandDay$Player" "tired" "I" ∈ wsL_law) (hdg : decode cc pc = .ok (.getfield i, 3)) (kk : W p l e R s m args below meth c H locs cells slots Q (F0 m (pc + 3) ls (.int (xm 0 w k) :: rest))) : W p l e R s m args below meth c H locs cells slots Q (F0 m pc ls (.ref (bd_ea E 7 w k) :: rest)) := by
  obtain ⟨q, hq⟩ := bd_pos (f := 7) (w := w) (k := k) ⟨by decide, hw, hk⟩
  exact va_get (D := bd_eD E) (ci := 3) (C := RX3) (T := TX3) (N := 9) C.1.1 C.1.2.1 C.1.2.2.2.2 inlX3 C.1.2.2.2.1 C.2.1 hR.P q (bd_ws_at hq) rfl 1 (by decide) (C.1.2.2.2.2 _ hl) (fun _ h => h) rfl hdg kk
theorem bd_p_X3_tired (C : bd_Cx E p m c cc nL s args own) (hR : bd_Rep E xm ym om H) (hS : va_S (bd_A E) H0 H locs) (hw : w < 2) (hk : k < 24) (hl : Cond.fieldLink own i "BandDay$Player" "tired" "I" ∈ wsL_law) (hdg : decode cc pc = .ok (.putfield i, 3)) {v : Int32} (kk : ∀ (H1 : Heap) (locs1 : List Loc), bd_Rep E (bd_up xm 0 w k v) ym om H1 → va_S (bd_A E) H0 H1 locs1 → W p l e R s m args below meth c H1 locs1 cells slots Q (F0 m (pc + 3) ls rest)) : W p l e R s m args below meth c H locs cells slots Q (F0 m pc ls (.int v :: .ref (bd_ea E 7 w k) :: rest)) := by
  obtain ⟨q, hq⟩ := bd_pos (f := 7) (w := w) (k := k) ⟨by decide, hw, hk⟩
  exact va_put (D := bd_eD E) (ci := 3) (v := .int v) (ty := .int) (C := RX3) (T := TX3) (N := 9) C.1.1 C.1.2.1 C.1.2.2.2.2 inlX3 tyX3 tyX3_ok nmX3 C.1.2.2.2.1 C.2.1 hR.P hR.D hS q (bd_ws_at hq) rfl 1 (by decide) (C.1.2.2.2.2 _ hl) (fun _ h => h) rfl (by decide +kernel) rfl rfl (Nat.le_of_ble_eq_true rfl) hdg (fun H1 locs1 hP _ hS1 => kk H1 locs1 (bd_back hR hq (bd_upX (F := 0) (by simp [bd_ce, bd_up, bd_fam, bd_fmY]) (fun _ => rfl) (fun h => absurd h (by decide))) hP) hS1)
theorem bd_g_X3_absences (C : bd_Cx E p m c cc nL s args own) (hR : bd_Rep E xm ym om H) (hw : w < 2) (hk : k < 24) (hl : Cond.fieldLink own i "BandDay$Player" "absences" "I" ∈ wsL_law) (hdg : decode cc pc = .ok (.getfield i, 3)) (kk : W p l e R s m args below meth c H locs cells slots Q (F0 m (pc + 3) ls (.int (xm 1 w k) :: rest))) : W p l e R s m args below meth c H locs cells slots Q (F0 m pc ls (.ref (bd_ea E 7 w k) :: rest)) := by
  obtain ⟨q, hq⟩ := bd_pos (f := 7) (w := w) (k := k) ⟨by decide, hw, hk⟩
  exact va_get (D := bd_eD E) (ci := 3) (C := RX3) (T := TX3) (N := 9) C.1.1 C.1.2.1 C.1.2.2.2.2 inlX3 C.1.2.2.2.1 C.2.1 hR.P q (bd_ws_at hq) rfl 2 (by decide) (C.1.2.2.2.2 _ hl) (fun _ h => h) rfl hdg kk
theorem bd_p_X3_absences (C : bd_Cx E p m c cc nL s args own) (hR : bd_Rep E xm ym om H) (hS : va_S (bd_A E) H0 H locs) (hw : w < 2) (hk : k < 24) (hl : Cond.fieldLink own i "BandDay$Player" "absences" "I" ∈ wsL_law) (hdg : decode cc pc = .ok (.putfield i, 3)) {v : Int32} (kk : ∀ (H1 : Heap) (locs1 : List Loc), bd_Rep E (bd_up xm 1 w k v) ym om H1 → va_S (bd_A E) H0 H1 locs1 → W p l e R s m args below meth c H1 locs1 cells slots Q (F0 m (pc + 3) ls rest)) : W p l e R s m args below meth c H locs cells slots Q (F0 m pc ls (.int v :: .ref (bd_ea E 7 w k) :: rest)) := by
  obtain ⟨q, hq⟩ := bd_pos (f := 7) (w := w) (k := k) ⟨by decide, hw, hk⟩
  exact va_put (D := bd_eD E) (ci := 3) (v := .int v) (ty := .int) (C := RX3) (T := TX3) (N := 9) C.1.1 C.1.2.1 C.1.2.2.2.2 inlX3 tyX3 tyX3_ok nmX3 C.1.2.2.2.1 C.2.1 hR.P hR.D hS q (bd_ws_at hq) rfl 2 (by decide) (C.1.2.2.2.2 _ hl) (fun _ h => h) rfl (by decide +kernel) rfl rfl (Nat.le_of_ble_eq_true rfl) hdg (fun H1 locs1 hP _ hS1 => kk H1 locs1 (bd_back hR hq (bd_upX (F := 1) (by simp [bd_ce, bd_up, bd_fam, bd_fmY]) (fun _ => rfl) (fun h => absurd h (by decide))) hP) hS1)
theorem bd_g_X3_band (C : bd_Cx E p m c cc nL s args own) (hR : bd_Rep E xm ym om H) (hw : w < 2) (hk : k < 24) (hl : Cond.fieldLink own i "BandDay$Player" "band" "I" ∈ wsL_law) (hdg : decode cc pc = .ok (.getfield i, 3)) (kk : W p l e R s m args below meth c H locs cells slots Q (F0 m (pc + 3) ls (.int (xm 2 w k) :: rest))) : W p l e R s m args below meth c H locs cells slots Q (F0 m pc ls (.ref (bd_ea E 7 w k) :: rest)) := by
  obtain ⟨q, hq⟩ := bd_pos (f := 7) (w := w) (k := k) ⟨by decide, hw, hk⟩
  exact va_get (D := bd_eD E) (ci := 3) (C := RX3) (T := TX3) (N := 9) C.1.1 C.1.2.1 C.1.2.2.2.2 inlX3 C.1.2.2.2.1 C.2.1 hR.P q (bd_ws_at hq) rfl 3 (by decide) (C.1.2.2.2.2 _ hl) (fun _ h => h) rfl hdg kk
theorem bd_p_X3_band (C : bd_Cx E p m c cc nL s args own) (hR : bd_Rep E xm ym om H) (hS : va_S (bd_A E) H0 H locs) (hw : w < 2) (hk : k < 24) (hl : Cond.fieldLink own i "BandDay$Player" "band" "I" ∈ wsL_law) (hdg : decode cc pc = .ok (.putfield i, 3)) {v : Int32} (kk : ∀ (H1 : Heap) (locs1 : List Loc), bd_Rep E (bd_up xm 2 w k v) ym om H1 → va_S (bd_A E) H0 H1 locs1 → W p l e R s m args below meth c H1 locs1 cells slots Q (F0 m (pc + 3) ls rest)) : W p l e R s m args below meth c H locs cells slots Q (F0 m pc ls (.int v :: .ref (bd_ea E 7 w k) :: rest)) := by
  obtain ⟨q, hq⟩ := bd_pos (f := 7) (w := w) (k := k) ⟨by decide, hw, hk⟩
  exact va_put (D := bd_eD E) (ci := 3) (v := .int v) (ty := .int) (C := RX3) (T := TX3) (N := 9) C.1.1 C.1.2.1 C.1.2.2.2.2 inlX3 tyX3 tyX3_ok nmX3 C.1.2.2.2.1 C.2.1 hR.P hR.D hS q (bd_ws_at hq) rfl 3 (by decide) (C.1.2.2.2.2 _ hl) (fun _ h => h) rfl (by decide +kernel) rfl rfl (Nat.le_of_ble_eq_true rfl) hdg (fun H1 locs1 hP _ hS1 => kk H1 locs1 (bd_back hR hq (bd_upX (F := 2) (by simp [bd_ce, bd_up, bd_fam, bd_fmY]) (fun _ => rfl) (fun h => absurd h (by decide))) hP) hS1)
theorem bd_g_X3_seat (C : bd_Cx E p m c cc nL s args own) (hR : bd_Rep E xm ym om H) (hw : w < 2) (hk : k < 24) (hl : Cond.fieldLink own i "BandDay$Player" "seat" "I" ∈ wsL_law) (hdg : decode cc pc = .ok (.getfield i, 3)) (kk : W p l e R s m args below meth c H locs cells slots Q (F0 m (pc + 3) ls (.int (xm 3 w k) :: rest))) : W p l e R s m args below meth c H locs cells slots Q (F0 m pc ls (.ref (bd_ea E 7 w k) :: rest)) := by
  obtain ⟨q, hq⟩ := bd_pos (f := 7) (w := w) (k := k) ⟨by decide, hw, hk⟩
  exact va_get (D := bd_eD E) (ci := 3) (C := RX3) (T := TX3) (N := 9) C.1.1 C.1.2.1 C.1.2.2.2.2 inlX3 C.1.2.2.2.1 C.2.1 hR.P q (bd_ws_at hq) rfl 4 (by decide) (C.1.2.2.2.2 _ hl) (fun _ h => h) rfl hdg kk
theorem bd_p_X3_seat (C : bd_Cx E p m c cc nL s args own) (hR : bd_Rep E xm ym om H) (hS : va_S (bd_A E) H0 H locs) (hw : w < 2) (hk : k < 24) (hl : Cond.fieldLink own i "BandDay$Player" "seat" "I" ∈ wsL_law) (hdg : decode cc pc = .ok (.putfield i, 3)) {v : Int32} (kk : ∀ (H1 : Heap) (locs1 : List Loc), bd_Rep E (bd_up xm 3 w k v) ym om H1 → va_S (bd_A E) H0 H1 locs1 → W p l e R s m args below meth c H1 locs1 cells slots Q (F0 m (pc + 3) ls rest)) : W p l e R s m args below meth c H locs cells slots Q (F0 m pc ls (.int v :: .ref (bd_ea E 7 w k) :: rest)) := by
  obtain ⟨q, hq⟩ := bd_pos (f := 7) (w := w) (k := k) ⟨by decide, hw, hk⟩
  exact va_put (D := bd_eD E) (ci := 3) (v := .int v) (ty := .int) (C := RX3) (T := TX3) (N := 9) C.1.1 C.1.2.1 C.1.2.2.2.2 inlX3 tyX3 tyX3_ok nmX3 C.1.2.2.2.1 C.2.1 hR.P hR.D hS q (bd_ws_at hq) rfl 4 (by decide) (C.1.2.2.2.2 _ hl) (fun _ h => h) rfl (by decide +kernel) rfl rfl (Nat.le_of_ble_eq_true rfl) hdg (fun H1 locs1 hP _ hS1 => kk H1 locs1 (bd_back hR hq (bd_upX (F := 3) (by simp [bd_ce, bd_up, bd_fam, bd_fmY]) (fun _ => rfl) (fun h => absurd h (by decide))) hP) hS1)
theorem bd_g_X3_sittings (C : bd_Cx E p m c cc nL s args own) (hR : bd_Rep E xm ym om H) (hw : w < 2) (hk : k < 24) (hl : Cond.fieldLink own i "BandDay$Player" "sittings" "I" ∈ wsL_law) (hdg : decode cc pc = .ok (.getfield i, 3)) (kk : W p l e R s m args below meth c H locs cells slots Q (F0 m (pc + 3) ls (.int (xm 4 w k) :: rest))) : W p l e R s m args below meth c H locs cells slots Q (F0 m pc ls (.ref (bd_ea E 7 w k) :: rest)) := by
  obtain ⟨q, hq⟩ := bd_pos (f := 7) (w := w) (k := k) ⟨by decide, hw, hk⟩
  exact va_get (D := bd_eD E) (ci := 3) (C := RX3) (T := TX3) (N := 9) C.1.1 C.1.2.1 C.1.2.2.2.2 inlX3 C.1.2.2.2.1 C.2.1 hR.P q (bd_ws_at hq) rfl 5 (by decide) (C.1.2.2.2.2 _ hl) (fun _ h => h) rfl hdg kk
theorem bd_p_X3_sittings (C : bd_Cx E p m c cc nL s args own) (hR : bd_Rep E xm ym om H) (hS : va_S (bd_A E) H0 H locs) (hw : w < 2) (hk : k < 24) (hl : Cond.fieldLink own i "BandDay$Player" "sittings" "I" ∈ wsL_law) (hdg : decode cc pc = .ok (.putfield i, 3)) {v : Int32} (kk : ∀ (H1 : Heap) (locs1 : List Loc), bd_Rep E (bd_up xm 4 w k v) ym om H1 → va_S (bd_A E) H0 H1 locs1 → W p l e R s m args below meth c H1 locs1 cells slots Q (F0 m (pc + 3) ls rest)) : W p l e R s m args below meth c H locs cells slots Q (F0 m pc ls (.int v :: .ref (bd_ea E 7 w k) :: rest)) := by
  obtain ⟨q, hq⟩ := bd_pos (f := 7) (w := w) (k := k) ⟨by decide, hw, hk⟩
  exact va_put (D := bd_eD E) (ci := 3) (v := .int v) (ty := .int) (C := RX3) (T := TX3) (N := 9) C.1.1 C.1.2.1 C.1.2.2.2.2 inlX3 tyX3 tyX3_ok nmX3 C.1.2.2.2.1 C.2.1 hR.P hR.D hS q (bd_ws_at hq) rfl 5 (by decide) (C.1.2.2.2.2 _ hl) (fun _ h => h) rfl (by decide +kernel) rfl rfl (Nat.le_of_ble_eq_true rfl) hdg (fun H1 locs1 hP _ hS1 => kk H1 locs1 (bd_back hR hq (bd_upX (F := 4) (by simp [bd_ce, bd_up, bd_fam, bd_fmY]) (fun _ => rfl) (fun h => absurd h (by decide))) hP) hS1)
theorem bd_g_X3_deputySittings (C : bd_Cx E p m c cc nL s args own) (hR : bd_Rep E xm ym om H) (hw : w < 2) (hk : k < 24) (hl : Cond.fieldLink own i "BandDay$Player" "deputySittings" "I" ∈ wsL_law) (hdg : decode cc pc = .ok (.getfield i, 3)) (kk : W p l e R s m args below meth c H locs cells slots Q (F0 m (pc + 3) ls (.int (xm 5 w k) :: rest))) : W p l e R s m args below meth c H locs cells slots Q (F0 m pc ls (.ref (bd_ea E 7 w k) :: rest)) := by
  obtain ⟨q, hq⟩ := bd_pos (f := 7) (w := w) (k := k) ⟨by decide, hw, hk⟩
  exact va_get (D := bd_eD E) (ci := 3) (C := RX3) (T := TX3) (N := 9) C.1.1 C.1.2.1 C.1.2.2.2.2 inlX3 C.1.2.2.2.1 C.2.1 hR.P q (bd_ws_at hq) rfl 6 (by decide) (C.1.2.2.2.2 _ hl) (fun _ h => h) rfl hdg kk
theorem bd_p_X3_deputySittings (C : bd_Cx E p m c cc nL s args own) (hR : bd_Rep E xm ym om H) (hS : va_S (bd_A E) H0 H locs) (hw : w < 2) (hk : k < 24) (hl : Cond.fieldLink own i "BandDay$Player" "deputySittings" "I" ∈ wsL_law) (hdg : decode cc pc = .ok (.putfield i, 3)) {v : Int32} (kk : ∀ (H1 : Heap) (locs1 : List Loc), bd_Rep E (bd_up xm 5 w k v) ym om H1 → va_S (bd_A E) H0 H1 locs1 → W p l e R s m args below meth c H1 locs1 cells slots Q (F0 m (pc + 3) ls rest)) : W p l e R s m args below meth c H locs cells slots Q (F0 m pc ls (.int v :: .ref (bd_ea E 7 w k) :: rest)) := by
  obtain ⟨q, hq⟩ := bd_pos (f := 7) (w := w) (k := k) ⟨by decide, hw, hk⟩
  exact va_put (D := bd_eD E) (ci := 3) (v := .int v) (ty := .int) (C := RX3) (T := TX3) (N := 9) C.1.1 C.1.2.1 C.1.2.2.2.2 inlX3 tyX3 tyX3_ok nmX3 C.1.2.2.2.1 C.2.1 hR.P hR.D hS q (bd_ws_at hq) rfl 6 (by decide) (C.1.2.2.2.2 _ hl) (fun _ h => h) rfl (by decide +kernel) rfl rfl (Nat.le_of_ble_eq_true rfl) hdg (fun H1 locs1 hP _ hS1 => kk H1 locs1 (bd_back hR hq (bd_upX (F := 5) (by simp [bd_ce, bd_up, bd_fam, bd_fmY]) (fun _ => rfl) (fun h => absurd h (by decide))) hP) hS1)
theorem bd_g_X3_deputyToday (C : bd_Cx E p m c cc nL s args own) (hR : bd_Rep E xm ym om H) (hw : w < 2) (hk : k < 24) (hl : Cond.fieldLink own i "BandDay$Player" "deputyToday" "I" ∈ wsL_law) (hdg : decode cc pc = .ok (.getfield i, 3)) (kk : W p l e R s m args below meth c H locs cells slots Q (F0 m (pc + 3) ls (.int (xm 6 w k) :: rest))) : W p l e R s m args below meth c H locs cells slots Q (F0 m pc ls (.ref (bd_ea E 7 w k) :: rest)) := by
  obtain ⟨q, hq⟩ := bd_pos (f := 7) (w := w) (k := k) ⟨by decide, hw, hk⟩
  exact va_get (D := bd_eD E) (ci := 3) (C := RX3) (T := TX3) (N := 9) C.1.1 C.1.2.1 C.1.2.2.2.2 inlX3 C.1.2.2.2.1 C.2.1 hR.P q (bd_ws_at hq) rfl 7 (by decide) (C.1.2.2.2.2 _ hl) (fun _ h => h) rfl hdg kk
theorem bd_p_X3_deputyToday (C : bd_Cx E p m c cc nL s args own) (hR : bd_Rep E xm ym om H) (hS : va_S (bd_A E) H0 H locs) (hw : w < 2) (hk : k < 24) (hl : Cond.fieldLink own i "BandDay$Player" "deputyToday" "I" ∈ wsL_law) (hdg : decode cc pc = .ok (.putfield i, 3)) {v : Int32} (kk : ∀ (H1 : Heap) (locs1 : List Loc), bd_Rep E (bd_up xm 6 w k v) ym om H1 → va_S (bd_A E) H0 H1 locs1 → W p l e R s m args below meth c H1 locs1 cells slots Q (F0 m (pc + 3) ls rest)) : W p l e R s m args below meth c H locs cells slots Q (F0 m pc ls (.int v :: .ref (bd_ea E 7 w k) :: rest)) := by
  obtain ⟨q, hq⟩ := bd_pos (f := 7) (w := w) (k := k) ⟨by decide, hw, hk⟩
  exact va_put (D := bd_eD E) (ci := 3) (v := .int v) (ty := .int) (C := RX3) (T := TX3) (N := 9) C.1.1 C.1.2.1 C.1.2.2.2.2 inlX3 tyX3 tyX3_ok nmX3 C.1.2.2.2.1 C.2.1 hR.P hR.D hS q (bd_ws_at hq) rfl 7 (by decide) (C.1.2.2.2.2 _ hl) (fun _ h => h) rfl (by decide +kernel) rfl rfl (Nat.le_of_ble_eq_true rfl) hdg (fun H1 locs1 hP _ hS1 => kk H1 locs1 (bd_back hR hq (bd_upX (F := 6) (by simp [bd_ce, bd_up, bd_fam, bd_fmY]) (fun _ => rfl) (fun h => absurd h (by decide))) hP) hS1)
theorem bd_g_X3_sits (C : bd_Cx E p m c cc nL s args own) (hR : bd_Rep E xm ym om H) (hw : w < 2) (hk : k < 24) (hl : Cond.fieldLink own i "BandDay$Player" "sits" "Z" ∈ wsL_law) (hdg : decode cc pc = .ok (.getfield i, 3)) (kk : W p l e R s m args below meth c H locs cells slots Q (F0 m (pc + 3) ls (.int (xm 7 w k) :: rest))) : W p l e R s m args below meth c H locs cells slots Q (F0 m pc ls (.ref (bd_ea E 7 w k) :: rest)) := by
  obtain ⟨q, hq⟩ := bd_pos (f := 7) (w := w) (k := k) ⟨by decide, hw, hk⟩
  exact va_get (D := bd_eD E) (ci := 3) (C := RX3) (T := TX3) (N := 9) C.1.1 C.1.2.1 C.1.2.2.2.2 inlX3 C.1.2.2.2.1 C.2.1 hR.P q (bd_ws_at hq) rfl 8 (by decide) (C.1.2.2.2.2 _ hl) (fun _ h => h) rfl hdg kk
theorem bd_p_X3_sits (C : bd_Cx E p m c cc nL s args own) (hR : bd_Rep E xm ym om H) (hS : va_S (bd_A E) H0 H locs) (hw : w < 2) (hk : k < 24) (hl : Cond.fieldLink own i "BandDay$Player" "sits" "Z" ∈ wsL_law) (hdg : decode cc pc = .ok (.putfield i, 3)) {v : Int32} (hv : narrow .boolean (.int v) = .int v) (hf : fits .boolean (.int v) = true) (kk : ∀ (H1 : Heap) (locs1 : List Loc), bd_Rep E (bd_up xm 7 w k v) ym om H1 → va_S (bd_A E) H0 H1 locs1 → W p l e R s m args below meth c H1 locs1 cells slots Q (F0 m (pc + 3) ls rest)) : W p l e R s m args below meth c H locs cells slots Q (F0 m pc ls (.int v :: .ref (bd_ea E 7 w k) :: rest)) := by
  obtain ⟨q, hq⟩ := bd_pos (f := 7) (w := w) (k := k) ⟨by decide, hw, hk⟩
  exact va_put (D := bd_eD E) (ci := 3) (v := .int v) (ty := .boolean) (C := RX3) (T := TX3) (N := 9) C.1.1 C.1.2.1 C.1.2.2.2.2 inlX3 tyX3 tyX3_ok nmX3 C.1.2.2.2.1 C.2.1 hR.P hR.D hS q (bd_ws_at hq) rfl 8 (by decide) (C.1.2.2.2.2 _ hl) (fun _ h => h) rfl (by decide +kernel) hv hf (Nat.le_of_ble_eq_true rfl) hdg (fun H1 locs1 hP _ hS1 => kk H1 locs1 (bd_back hR hq (bd_upX (F := 7) (by simp [bd_ce, bd_up, bd_fam, bd_fmY]) (fun _ => rfl) (fun h => absurd h (by decide))) hP) hS1)
theorem bd_g_X4_players (C : bd_Cx E p m c cc nL s args own) (hR : bd_Rep E xm ym om H) (hw : w < 2) (hl : Cond.fieldLink own i "BandDay$Season" "players" "[LBandDay$Player;" ∈ wsL_law) (hdg : decode cc pc = .ok (.getfield i, 3)) (kk : W p l e R s m args below meth c H locs cells slots Q (F0 m (pc + 3) ls (.ref (bd_ea E 3 w 0) :: rest))) : W p l e R s m args below meth c H locs cells slots Q (F0 m pc ls (.ref (bd_ea E 1 w 0) :: rest)) := by
  obtain ⟨q, hq⟩ := bd_pos (f := 1) (w := w) (k := 0) ⟨by decide, hw, by decide⟩
  exact va_get (D := bd_eD E) (ci := 4) (C := RX4) (T := TX4) (N := 9) C.1.1 C.1.2.1 C.1.2.2.2.2 inlX4 C.1.2.2.2.1 C.2.1 hR.P q (bd_ws_at hq) rfl 0 (by decide) (C.1.2.2.2.2 _ hl) (fun _ h => h) rfl hdg kk
theorem bd_g_X4_bands (C : bd_Cx E p m c cc nL s args own) (hR : bd_Rep E xm ym om H) (hw : w < 2) (hl : Cond.fieldLink own i "BandDay$Season" "bands" "[LBandDay$Band;" ∈ wsL_law) (hdg : decode cc pc = .ok (.getfield i, 3)) (kk : W p l e R s m args below meth c H locs cells slots Q (F0 m (pc + 3) ls (.ref (bd_ea E 4 w 0) :: rest))) : W p l e R s m args below meth c H locs cells slots Q (F0 m pc ls (.ref (bd_ea E 1 w 0) :: rest)) := by
  obtain ⟨q, hq⟩ := bd_pos (f := 1) (w := w) (k := 0) ⟨by decide, hw, by decide⟩
  exact va_get (D := bd_eD E) (ci := 4) (C := RX4) (T := TX4) (N := 9) C.1.1 C.1.2.1 C.1.2.2.2.2 inlX4 C.1.2.2.2.1 C.2.1 hR.P q (bd_ws_at hq) rfl 1 (by decide) (C.1.2.2.2.2 _ hl) (fun _ h => h) rfl hdg kk
theorem bd_g_X4_hard (C : bd_Cx E p m c cc nL s args own) (hR : bd_Rep E xm ym om H) (hw : w < 2) (hl : Cond.fieldLink own i "BandDay$Season" "hard" "[I" ∈ wsL_law) (hdg : decode cc pc = .ok (.getfield i, 3)) (kk : W p l e R s m args below meth c H locs cells slots Q (F0 m (pc + 3) ls (.ref (bd_ea E 5 w 0) :: rest))) : W p l e R s m args below meth c H locs cells slots Q (F0 m pc ls (.ref (bd_ea E 1 w 0) :: rest)) := by
  obtain ⟨q, hq⟩ := bd_pos (f := 1) (w := w) (k := 0) ⟨by decide, hw, by decide⟩
  exact va_get (D := bd_eD E) (ci := 4) (C := RX4) (T := TX4) (N := 9) C.1.1 C.1.2.1 C.1.2.2.2.2 inlX4 C.1.2.2.2.1 C.2.1 hR.P q (bd_ws_at hq) rfl 2 (by decide) (C.1.2.2.2.2 _ hl) (fun _ h => h) rfl hdg kk
theorem bd_g_X4_weight (C : bd_Cx E p m c cc nL s args own) (hR : bd_Rep E xm ym om H) (hw : w < 2) (hl : Cond.fieldLink own i "BandDay$Season" "weight" "[I" ∈ wsL_law) (hdg : decode cc pc = .ok (.getfield i, 3)) (kk : W p l e R s m args below meth c H locs cells slots Q (F0 m (pc + 3) ls (.ref (bd_ea E 6 w 0) :: rest))) : W p l e R s m args below meth c H locs cells slots Q (F0 m pc ls (.ref (bd_ea E 1 w 0) :: rest)) := by
  obtain ⟨q, hq⟩ := bd_pos (f := 1) (w := w) (k := 0) ⟨by decide, hw, by decide⟩
  exact va_get (D := bd_eD E) (ci := 4) (C := RX4) (T := TX4) (N := 9) C.1.1 C.1.2.1 C.1.2.2.2.2 inlX4 C.1.2.2.2.1 C.2.1 hR.P q (bd_ws_at hq) rfl 3 (by decide) (C.1.2.2.2.2 _ hl) (fun _ h => h) rfl hdg kk
theorem bd_g_X4_playerCount (C : bd_Cx E p m c cc nL s args own) (hR : bd_Rep E xm ym om H) (hw : w < 2) (hl : Cond.fieldLink own i "BandDay$Season" "playerCount" "I" ∈ wsL_law) (hdg : decode cc pc = .ok (.getfield i, 3)) (kk : W p l e R s m args below meth c H locs cells slots Q (F0 m (pc + 3) ls (.int (xm 30 w 0) :: rest))) : W p l e R s m args below meth c H locs cells slots Q (F0 m pc ls (.ref (bd_ea E 1 w 0) :: rest)) := by
  obtain ⟨q, hq⟩ := bd_pos (f := 1) (w := w) (k := 0) ⟨by decide, hw, by decide⟩
  exact va_get (D := bd_eD E) (ci := 4) (C := RX4) (T := TX4) (N := 9) C.1.1 C.1.2.1 C.1.2.2.2.2 inlX4 C.1.2.2.2.1 C.2.1 hR.P q (bd_ws_at hq) rfl 4 (by decide) (C.1.2.2.2.2 _ hl) (fun _ h => h) rfl hdg kk
theorem bd_p_X4_playerCount (C : bd_Cx E p m c cc nL s args own) (hR : bd_Rep E xm ym om H) (hS : va_S (bd_A E) H0 H locs) (hw : w < 2) (hl : Cond.fieldLink own i "BandDay$Season" "playerCount" "I" ∈ wsL_law) (hdg : decode cc pc = .ok (.putfield i, 3)) {v : Int32} (kk : ∀ (H1 : Heap) (locs1 : List Loc), bd_Rep E (bd_up xm 30 w 0 v) ym om H1 → va_S (bd_A E) H0 H1 locs1 → W p l e R s m args below meth c H1 locs1 cells slots Q (F0 m (pc + 3) ls rest)) : W p l e R s m args below meth c H locs cells slots Q (F0 m pc ls (.int v :: .ref (bd_ea E 1 w 0) :: rest)) := by
  obtain ⟨q, hq⟩ := bd_pos (f := 1) (w := w) (k := 0) ⟨by decide, hw, by decide⟩
  exact va_put (D := bd_eD E) (ci := 4) (v := .int v) (ty := .int) (C := RX4) (T := TX4) (N := 9) C.1.1 C.1.2.1 C.1.2.2.2.2 inlX4 tyX4 tyX4_ok nmX4 C.1.2.2.2.1 C.2.1 hR.P hR.D hS q (bd_ws_at hq) rfl 4 (by decide) (C.1.2.2.2.2 _ hl) (fun _ h => h) rfl (by decide +kernel) rfl rfl (Nat.le_of_ble_eq_true rfl) hdg (fun H1 locs1 hP _ hS1 => kk H1 locs1 (bd_back hR hq (bd_upX (F := 30) (by simp [bd_ce, bd_up, bd_fam, bd_fmY]) (fun _ => rfl) (fun h => ⟨rfl, rfl⟩)) hP) hS1)
theorem bd_g_X4_bandCount (C : bd_Cx E p m c cc nL s args own) (hR : bd_Rep E xm ym om H) (hw : w < 2) (hl : Cond.fieldLink own i "BandDay$Season" "bandCount" "I" ∈ wsL_law) (hdg : decode cc pc = .ok (.getfield i, 3)) (kk : W p l e R s m args below meth c H locs cells slots Q (F0 m (pc + 3) ls (.int (xm 31 w 0) :: rest))) : W p l e R s m args below meth c H locs cells slots Q (F0 m pc ls (.ref (bd_ea E 1 w 0) :: rest)) := by
  obtain ⟨q, hq⟩ := bd_pos (f := 1) (w := w) (k := 0) ⟨by decide, hw, by decide⟩
  exact va_get (D := bd_eD E) (ci := 4) (C := RX4) (T := TX4) (N := 9) C.1.1 C.1.2.1 C.1.2.2.2.2 inlX4 C.1.2.2.2.1 C.2.1 hR.P q (bd_ws_at hq) rfl 5 (by decide) (C.1.2.2.2.2 _ hl) (fun _ h => h) rfl hdg kk
theorem bd_p_X4_bandCount (C : bd_Cx E p m c cc nL s args own) (hR : bd_Rep E xm ym om H) (hS : va_S (bd_A E) H0 H locs) (hw : w < 2) (hl : Cond.fieldLink own i "BandDay$Season" "bandCount" "I" ∈ wsL_law) (hdg : decode cc pc = .ok (.putfield i, 3)) {v : Int32} (kk : ∀ (H1 : Heap) (locs1 : List Loc), bd_Rep E (bd_up xm 31 w 0 v) ym om H1 → va_S (bd_A E) H0 H1 locs1 → W p l e R s m args below meth c H1 locs1 cells slots Q (F0 m (pc + 3) ls rest)) : W p l e R s m args below meth c H locs cells slots Q (F0 m pc ls (.int v :: .ref (bd_ea E 1 w 0) :: rest)) := by
  obtain ⟨q, hq⟩ := bd_pos (f := 1) (w := w) (k := 0) ⟨by decide, hw, by decide⟩
  exact va_put (D := bd_eD E) (ci := 4) (v := .int v) (ty := .int) (C := RX4) (T := TX4) (N := 9) C.1.1 C.1.2.1 C.1.2.2.2.2 inlX4 tyX4 tyX4_ok nmX4 C.1.2.2.2.1 C.2.1 hR.P hR.D hS q (bd_ws_at hq) rfl 5 (by decide) (C.1.2.2.2.2 _ hl) (fun _ h => h) rfl (by decide +kernel) rfl rfl (Nat.le_of_ble_eq_true rfl) hdg (fun H1 locs1 hP _ hS1 => kk H1 locs1 (bd_back hR hq (bd_upX (F := 31) (by simp [bd_ce, bd_up, bd_fam, bd_fmY]) (fun _ => rfl) (fun h => ⟨rfl, rfl⟩)) hP) hS1)
theorem bd_g_X4_contests (C : bd_Cx E p m c cc nL s args own) (hR : bd_Rep E xm ym om H) (hw : w < 2) (hl : Cond.fieldLink own i "BandDay$Season" "contests" "I" ∈ wsL_law) (hdg : decode cc pc = .ok (.getfield i, 3)) (kk : W p l e R s m args below meth c H locs cells slots Q (F0 m (pc + 3) ls (.int (xm 32 w 0) :: rest))) : W p l e R s m args below meth c H locs cells slots Q (F0 m pc ls (.ref (bd_ea E 1 w 0) :: rest)) := by
  obtain ⟨q, hq⟩ := bd_pos (f := 1) (w := w) (k := 0) ⟨by decide, hw, by decide⟩
  exact va_get (D := bd_eD E) (ci := 4) (C := RX4) (T := TX4) (N := 9) C.1.1 C.1.2.1 C.1.2.2.2.2 inlX4 C.1.2.2.2.1 C.2.1 hR.P q (bd_ws_at hq) rfl 6 (by decide) (C.1.2.2.2.2 _ hl) (fun _ h => h) rfl hdg kk
theorem bd_p_X4_contests (C : bd_Cx E p m c cc nL s args own) (hR : bd_Rep E xm ym om H) (hS : va_S (bd_A E) H0 H locs) (hw : w < 2) (hl : Cond.fieldLink own i "BandDay$Season" "contests" "I" ∈ wsL_law) (hdg : decode cc pc = .ok (.putfield i, 3)) {v : Int32} (kk : ∀ (H1 : Heap) (locs1 : List Loc), bd_Rep E (bd_up xm 32 w 0 v) ym om H1 → va_S (bd_A E) H0 H1 locs1 → W p l e R s m args below meth c H1 locs1 cells slots Q (F0 m (pc + 3) ls rest)) : W p l e R s m args below meth c H locs cells slots Q (F0 m pc ls (.int v :: .ref (bd_ea E 1 w 0) :: rest)) := by
  obtain ⟨q, hq⟩ := bd_pos (f := 1) (w := w) (k := 0) ⟨by decide, hw, by decide⟩
  exact va_put (D := bd_eD E) (ci := 4) (v := .int v) (ty := .int) (C := RX4) (T := TX4) (N := 9) C.1.1 C.1.2.1 C.1.2.2.2.2 inlX4 tyX4 tyX4_ok nmX4 C.1.2.2.2.1 C.2.1 hR.P hR.D hS q (bd_ws_at hq) rfl 6 (by decide) (C.1.2.2.2.2 _ hl) (fun _ h => h) rfl (by decide +kernel) rfl rfl (Nat.le_of_ble_eq_true rfl) hdg (fun H1 locs1 hP _ hS1 => kk H1 locs1 (bd_back hR hq (bd_upX (F := 32) (by simp [bd_ce, bd_up, bd_fam, bd_fmY]) (fun _ => rfl) (fun h => ⟨rfl, rfl⟩)) hP) hS1)
theorem bd_g_X4_deputies (C : bd_Cx E p m c cc nL s args own) (hR : bd_Rep E xm ym om H) (hw : w < 2) (hl : Cond.fieldLink own i "BandDay$Season" "deputies" "I" ∈ wsL_law) (hdg : decode cc pc = .ok (.getfield i, 3)) (kk : W p l e R s m args below meth c H locs cells slots Q (F0 m (pc + 3) ls (.int (xm 33 w 0) :: rest))) : W p l e R s m args below meth c H locs cells slots Q (F0 m pc ls (.ref (bd_ea E 1 w 0) :: rest)) := by
  obtain ⟨q, hq⟩ := bd_pos (f := 1) (w := w) (k := 0) ⟨by decide, hw, by decide⟩
  exact va_get (D := bd_eD E) (ci := 4) (C := RX4) (T := TX4) (N := 9) C.1.1 C.1.2.1 C.1.2.2.2.2 inlX4 C.1.2.2.2.1 C.2.1 hR.P q (bd_ws_at hq) rfl 7 (by decide) (C.1.2.2.2.2 _ hl) (fun _ h => h) rfl hdg kk
theorem bd_p_X4_deputies (C : bd_Cx E p m c cc nL s args own) (hR : bd_Rep E xm ym om H) (hS : va_S (bd_A E) H0 H locs) (hw : w < 2) (hl : Cond.fieldLink own i "BandDay$Season" "deputies" "I" ∈ wsL_law) (hdg : decode cc pc = .ok (.putfield i, 3)) {v : Int32} (kk : ∀ (H1 : Heap) (locs1 : List Loc), bd_Rep E (bd_up xm 33 w 0 v) ym om H1 → va_S (bd_A E) H0 H1 locs1 → W p l e R s m args below meth c H1 locs1 cells slots Q (F0 m (pc + 3) ls rest)) : W p l e R s m args below meth c H locs cells slots Q (F0 m pc ls (.int v :: .ref (bd_ea E 1 w 0) :: rest)) := by
  obtain ⟨q, hq⟩ := bd_pos (f := 1) (w := w) (k := 0) ⟨by decide, hw, by decide⟩
  exact va_put (D := bd_eD E) (ci := 4) (v := .int v) (ty := .int) (C := RX4) (T := TX4) (N := 9) C.1.1 C.1.2.1 C.1.2.2.2.2 inlX4 tyX4 tyX4_ok nmX4 C.1.2.2.2.1 C.2.1 hR.P hR.D hS q (bd_ws_at hq) rfl 7 (by decide) (C.1.2.2.2.2 _ hl) (fun _ h => h) rfl (by decide +kernel) rfl rfl (Nat.le_of_ble_eq_true rfl) hdg (fun H1 locs1 hP _ hS1 => kk H1 locs1 (bd_back hR hq (bd_upX (F := 33) (by simp [bd_ce, bd_up, bd_fam, bd_fmY]) (fun _ => rfl) (fun h => ⟨rfl, rfl⟩)) hP) hS1)
theorem bd_g_X4_empties (C : bd_Cx E p m c cc nL s args own) (hR : bd_Rep E xm ym om H) (hw : w < 2) (hl : Cond.fieldLink own i "BandDay$Season" "empties" "I" ∈ wsL_law) (hdg : decode cc pc = .ok (.getfield i, 3)) (kk : W p l e R s m args below meth c H locs cells slots Q (F0 m (pc + 3) ls (.int (xm 34 w 0) :: rest))) : W p l e R s m args below meth c H locs cells slots Q (F0 m pc ls (.ref (bd_ea E 1 w 0) :: rest)) := by
  obtain ⟨q, hq⟩ := bd_pos (f := 1) (w := w) (k := 0) ⟨by decide, hw, by decide⟩
  exact va_get (D := bd_eD E) (ci := 4) (C := RX4) (T := TX4) (N := 9) C.1.1 C.1.2.1 C.1.2.2.2.2 inlX4 C.1.2.2.2.1 C.2.1 hR.P q (bd_ws_at hq) rfl 8 (by decide) (C.1.2.2.2.2 _ hl) (fun _ h => h) rfl hdg kk
theorem bd_p_X4_empties (C : bd_Cx E p m c cc nL s args own) (hR : bd_Rep E xm ym om H) (hS : va_S (bd_A E) H0 H locs) (hw : w < 2) (hl : Cond.fieldLink own i "BandDay$Season" "empties" "I" ∈ wsL_law) (hdg : decode cc pc = .ok (.putfield i, 3)) {v : Int32} (kk : ∀ (H1 : Heap) (locs1 : List Loc), bd_Rep E (bd_up xm 34 w 0 v) ym om H1 → va_S (bd_A E) H0 H1 locs1 → W p l e R s m args below meth c H1 locs1 cells slots Q (F0 m (pc + 3) ls rest)) : W p l e R s m args below meth c H locs cells slots Q (F0 m pc ls (.int v :: .ref (bd_ea E 1 w 0) :: rest)) := by
  obtain ⟨q, hq⟩ := bd_pos (f := 1) (w := w) (k := 0) ⟨by decide, hw, by decide⟩
  exact va_put (D := bd_eD E) (ci := 4) (v := .int v) (ty := .int) (C := RX4) (T := TX4) (N := 9) C.1.1 C.1.2.1 C.1.2.2.2.2 inlX4 tyX4 tyX4_ok nmX4 C.1.2.2.2.1 C.2.1 hR.P hR.D hS q (bd_ws_at hq) rfl 8 (by decide) (C.1.2.2.2.2 _ hl) (fun _ h => h) rfl (by decide +kernel) rfl rfl (Nat.le_of_ble_eq_true rfl) hdg (fun H1 locs1 hP _ hS1 => kk H1 locs1 (bd_back hR hq (bd_upX (F := 34) (by simp [bd_ce, bd_up, bd_fam, bd_fmY]) (fun _ => rfl) (fun h => ⟨rfl, rfl⟩)) hP) hS1)
theorem bd_g_X5_season (C : bd_Cx E p m c cc nL s args own) (hR : bd_Rep E xm ym om H) (hl : Cond.fieldLink own i "BandDay" "season" "LBandDay$Season;" ∈ wsL_law) (hdg : decode cc pc = .ok (.getfield i, 3)) (kk : W p l e R s m args below meth c H locs cells slots Q (F0 m (pc + 3) ls (.ref (bd_ea E 1 0 0) :: rest))) : W p l e R s m args below meth c H locs cells slots Q (F0 m pc ls (.ref (bd_ea E 0 0 0) :: rest)) := by
  obtain ⟨q, hq⟩ := bd_pos (f := 0) (w := 0) (k := 0) ⟨by decide, by decide, by decide⟩
  exact va_get (D := bd_eD E) (ci := 5) (C := RX5) (T := TX5) (N := 4) C.1.1 C.1.2.1 C.1.2.2.2.2 inlX5 C.1.2.2.2.1 C.2.1 hR.P q (bd_ws_at hq) rfl 0 (by decide) (C.1.2.2.2.2 _ hl) (fun _ h => h) rfl hdg kk
theorem bd_g_X5_contest (C : bd_Cx E p m c cc nL s args own) (hR : bd_Rep E xm ym om H) (hl : Cond.fieldLink own i "BandDay" "contest" "LBandDay$Contest;" ∈ wsL_law) (hdg : decode cc pc = .ok (.getfield i, 3)) (kk : W p l e R s m args below meth c H locs cells slots Q (F0 m (pc + 3) ls (.ref (bd_ea E 2 0 0) :: rest))) : W p l e R s m args below meth c H locs cells slots Q (F0 m pc ls (.ref (bd_ea E 0 0 0) :: rest)) := by
  obtain ⟨q, hq⟩ := bd_pos (f := 0) (w := 0) (k := 0) ⟨by decide, by decide, by decide⟩
  exact va_get (D := bd_eD E) (ci := 5) (C := RX5) (T := TX5) (N := 4) C.1.1 C.1.2.1 C.1.2.2.2.2 inlX5 C.1.2.2.2.1 C.2.1 hR.P q (bd_ws_at hq) rfl 1 (by decide) (C.1.2.2.2.2 _ hl) (fun _ h => h) rfl hdg kk
theorem bd_g_X5_trial (C : bd_Cx E p m c cc nL s args own) (hR : bd_Rep E xm ym om H) (hl : Cond.fieldLink own i "BandDay" "trial" "LBandDay$Season;" ∈ wsL_law) (hdg : decode cc pc = .ok (.getfield i, 3)) (kk : W p l e R s m args below meth c H locs cells slots Q (F0 m (pc + 3) ls (.ref (bd_ea E 1 1 0) :: rest))) : W p l e R s m args below meth c H locs cells slots Q (F0 m pc ls (.ref (bd_ea E 0 0 0) :: rest)) := by
  obtain ⟨q, hq⟩ := bd_pos (f := 0) (w := 0) (k := 0) ⟨by decide, by decide, by decide⟩
  exact va_get (D := bd_eD E) (ci := 5) (C := RX5) (T := TX5) (N := 4) C.1.1 C.1.2.1 C.1.2.2.2.2 inlX5 C.1.2.2.2.1 C.2.1 hR.P q (bd_ws_at hq) rfl 2 (by decide) (C.1.2.2.2.2 _ hl) (fun _ h => h) rfl hdg kk
theorem bd_g_X5_trialContest (C : bd_Cx E p m c cc nL s args own) (hR : bd_Rep E xm ym om H) (hl : Cond.fieldLink own i "BandDay" "trialContest" "LBandDay$Contest;" ∈ wsL_law) (hdg : decode cc pc = .ok (.getfield i, 3)) (kk : W p l e R s m args below meth c H locs cells slots Q (F0 m (pc + 3) ls (.ref (bd_ea E 2 1 0) :: rest))) : W p l e R s m args below meth c H locs cells slots Q (F0 m pc ls (.ref (bd_ea E 0 0 0) :: rest)) := by
  obtain ⟨q, hq⟩ := bd_pos (f := 0) (w := 0) (k := 0) ⟨by decide, by decide, by decide⟩
  exact va_get (D := bd_eD E) (ci := 5) (C := RX5) (T := TX5) (N := 4) C.1.1 C.1.2.1 C.1.2.2.2.2 inlX5 C.1.2.2.2.1 C.2.1 hR.P q (bd_ws_at hq) rfl 3 (by decide) (C.1.2.2.2.2 _ hl) (fun _ h => h) rfl hdg kk
theorem bd_g_X6_contests (C : bd_Cx E p m c cc nL s args own) (hR : bd_Rep E xm ym om H) (hw : w < 2) (hl : Cond.fieldLink own i "BandDayModel$State" "contests" "I" ∈ wsL_law) (hdg : decode cc pc = .ok (.getfield i, 3)) (kk : W p l e R s m args below meth c H locs cells slots Q (F0 m (pc + 3) ls (.int (ym 10 w 0) :: rest))) : W p l e R s m args below meth c H locs cells slots Q (F0 m pc ls (.ref (bd_ea E 18 w 0) :: rest)) := by
  obtain ⟨q, hq⟩ := bd_pos (f := 18) (w := w) (k := 0) ⟨by decide, hw, by decide⟩
  exact va_get (D := bd_eD E) (ci := 6) (C := RX6) (T := TX6) (N := 15) C.1.1 C.1.2.1 C.1.2.2.2.2 inlX6 C.1.2.2.2.1 C.2.1 hR.P q (bd_ws_at hq) rfl 0 (by decide) (C.1.2.2.2.2 _ hl) (fun _ h => h) rfl hdg kk
theorem bd_gN_X6_contests (C : bd_Cx E p m c cc nL s args own) (hR : bd_Rep E xm ym om H) (hw : w < 2) (hl : Cond.fieldLinkNest own i "BandDayModel$State" "contests" "I" "BandDayModel" ∈ bd_N) (hdg : decode cc pc = .ok (.getfield i, 3)) (kk : W p l e R s m args below meth c H locs cells slots Q (F0 m (pc + 3) ls (.int (ym 10 w 0) :: rest))) : W p l e R s m args below meth c H locs cells slots Q (F0 m pc ls (.ref (bd_ea E 18 w 0) :: rest)) := by
  obtain ⟨q, hq⟩ := bd_pos (f := 18) (w := w) (k := 0) ⟨by decide, hw, by decide⟩
  exact va_getN (D := bd_eD E) (ci := 6) (C := RX6) (T := TX6) (N := 15) C.1.1 C.1.2.1 C.1.2.2.2.2 inlX6 C.1.2.2.2.1 C.2.1 hR.P q (bd_ws_at hq) rfl 0 (by decide) (va_Nw.use rfl (C.2.2.1 _ hl)) (fun _ h => h) rfl hdg kk
theorem bd_p_X6_contests (C : bd_Cx E p m c cc nL s args own) (hR : bd_Rep E xm ym om H) (hS : va_S (bd_A E) H0 H locs) (hw : w < 2) (hl : Cond.fieldLink own i "BandDayModel$State" "contests" "I" ∈ wsL_law) (hdg : decode cc pc = .ok (.putfield i, 3)) {v : Int32} (kk : ∀ (H1 : Heap) (locs1 : List Loc), bd_Rep E xm (bd_up ym 10 w 0 v) om H1 → va_S (bd_A E) H0 H1 locs1 → W p l e R s m args below meth c H1 locs1 cells slots Q (F0 m (pc + 3) ls rest)) : W p l e R s m args below meth c H locs cells slots Q (F0 m pc ls (.int v :: .ref (bd_ea E 18 w 0) :: rest)) := by
  obtain ⟨q, hq⟩ := bd_pos (f := 18) (w := w) (k := 0) ⟨by decide, hw, by decide⟩
  exact va_put (D := bd_eD E) (ci := 6) (v := .int v) (ty := .int) (C := RX6) (T := TX6) (N := 15) C.1.1 C.1.2.1 C.1.2.2.2.2 inlX6 tyX6 tyX6_ok nmX6 C.1.2.2.2.1 C.2.1 hR.P hR.D hS q (bd_ws_at hq) rfl 0 (by decide) (C.1.2.2.2.2 _ hl) (fun _ h => h) rfl (by decide +kernel) rfl rfl (Nat.le_of_ble_eq_true rfl) hdg (fun H1 locs1 hP _ hS1 => kk H1 locs1 (bd_back hR hq (bd_upY (F := 10) (by simp [bd_ce, bd_up, bd_fam, bd_fmY]) (by decide)) hP) hS1)
theorem bd_g_X6_deputies (C : bd_Cx E p m c cc nL s args own) (hR : bd_Rep E xm ym om H) (hw : w < 2) (hl : Cond.fieldLink own i "BandDayModel$State" "deputies" "I" ∈ wsL_law) (hdg : decode cc pc = .ok (.getfield i, 3)) (kk : W p l e R s m args below meth c H locs cells slots Q (F0 m (pc + 3) ls (.int (ym 11 w 0) :: rest))) : W p l e R s m args below meth c H locs cells slots Q (F0 m pc ls (.ref (bd_ea E 18 w 0) :: rest)) := by
  obtain ⟨q, hq⟩ := bd_pos (f := 18) (w := w) (k := 0) ⟨by decide, hw, by decide⟩
  exact va_get (D := bd_eD E) (ci := 6) (C := RX6) (T := TX6) (N := 15) C.1.1 C.1.2.1 C.1.2.2.2.2 inlX6 C.1.2.2.2.1 C.2.1 hR.P q (bd_ws_at hq) rfl 1 (by decide) (C.1.2.2.2.2 _ hl) (fun _ h => h) rfl hdg kk
theorem bd_gN_X6_deputies (C : bd_Cx E p m c cc nL s args own) (hR : bd_Rep E xm ym om H) (hw : w < 2) (hl : Cond.fieldLinkNest own i "BandDayModel$State" "deputies" "I" "BandDayModel" ∈ bd_N) (hdg : decode cc pc = .ok (.getfield i, 3)) (kk : W p l e R s m args below meth c H locs cells slots Q (F0 m (pc + 3) ls (.int (ym 11 w 0) :: rest))) : W p l e R s m args below meth c H locs cells slots Q (F0 m pc ls (.ref (bd_ea E 18 w 0) :: rest)) := by
  obtain ⟨q, hq⟩ := bd_pos (f := 18) (w := w) (k := 0) ⟨by decide, hw, by decide⟩
  exact va_getN (D := bd_eD E) (ci := 6) (C := RX6) (T := TX6) (N := 15) C.1.1 C.1.2.1 C.1.2.2.2.2 inlX6 C.1.2.2.2.1 C.2.1 hR.P q (bd_ws_at hq) rfl 1 (by decide) (va_Nw.use rfl (C.2.2.1 _ hl)) (fun _ h => h) rfl hdg kk
theorem bd_p_X6_deputies (C : bd_Cx E p m c cc nL s args own) (hR : bd_Rep E xm ym om H) (hS : va_S (bd_A E) H0 H locs) (hw : w < 2) (hl : Cond.fieldLink own i "BandDayModel$State" "deputies" "I" ∈ wsL_law) (hdg : decode cc pc = .ok (.putfield i, 3)) {v : Int32} (kk : ∀ (H1 : Heap) (locs1 : List Loc), bd_Rep E xm (bd_up ym 11 w 0 v) om H1 → va_S (bd_A E) H0 H1 locs1 → W p l e R s m args below meth c H1 locs1 cells slots Q (F0 m (pc + 3) ls rest)) : W p l e R s m args below meth c H locs cells slots Q (F0 m pc ls (.int v :: .ref (bd_ea E 18 w 0) :: rest)) := by
  obtain ⟨q, hq⟩ := bd_pos (f := 18) (w := w) (k := 0) ⟨by decide, hw, by decide⟩
  exact va_put (D := bd_eD E) (ci := 6) (v := .int v) (ty := .int) (C := RX6) (T := TX6) (N := 15) C.1.1 C.1.2.1 C.1.2.2.2.2 inlX6 tyX6 tyX6_ok nmX6 C.1.2.2.2.1 C.2.1 hR.P hR.D hS q (bd_ws_at hq) rfl 1 (by decide) (C.1.2.2.2.2 _ hl) (fun _ h => h) rfl (by decide +kernel) rfl rfl (Nat.le_of_ble_eq_true rfl) hdg (fun H1 locs1 hP _ hS1 => kk H1 locs1 (bd_back hR hq (bd_upY (F := 11) (by simp [bd_ce, bd_up, bd_fam, bd_fmY]) (by decide)) hP) hS1)
theorem bd_g_X6_empties (C : bd_Cx E p m c cc nL s args own) (hR : bd_Rep E xm ym om H) (hw : w < 2) (hl : Cond.fieldLink own i "BandDayModel$State" "empties" "I" ∈ wsL_law) (hdg : decode cc pc = .ok (.getfield i, 3)) (kk : W p l e R s m args below meth c H locs cells slots Q (F0 m (pc + 3) ls (.int (ym 12 w 0) :: rest))) : W p l e R s m args below meth c H locs cells slots Q (F0 m pc ls (.ref (bd_ea E 18 w 0) :: rest)) := by
  obtain ⟨q, hq⟩ := bd_pos (f := 18) (w := w) (k := 0) ⟨by decide, hw, by decide⟩
  exact va_get (D := bd_eD E) (ci := 6) (C := RX6) (T := TX6) (N := 15) C.1.1 C.1.2.1 C.1.2.2.2.2 inlX6 C.1.2.2.2.1 C.2.1 hR.P q (bd_ws_at hq) rfl 2 (by decide) (C.1.2.2.2.2 _ hl) (fun _ h => h) rfl hdg kk
theorem bd_gN_X6_empties (C : bd_Cx E p m c cc nL s args own) (hR : bd_Rep E xm ym om H) (hw : w < 2) (hl : Cond.fieldLinkNest own i "BandDayModel$State" "empties" "I" "BandDayModel" ∈ bd_N) (hdg : decode cc pc = .ok (.getfield i, 3)) (kk : W p l e R s m args below meth c H locs cells slots Q (F0 m (pc + 3) ls (.int (ym 12 w 0) :: rest))) : W p l e R s m args below meth c H locs cells slots Q (F0 m pc ls (.ref (bd_ea E 18 w 0) :: rest)) := by
  obtain ⟨q, hq⟩ := bd_pos (f := 18) (w := w) (k := 0) ⟨by decide, hw, by decide⟩
  exact va_getN (D := bd_eD E) (ci := 6) (C := RX6) (T := TX6) (N := 15) C.1.1 C.1.2.1 C.1.2.2.2.2 inlX6 C.1.2.2.2.1 C.2.1 hR.P q (bd_ws_at hq) rfl 2 (by decide) (va_Nw.use rfl (C.2.2.1 _ hl)) (fun _ h => h) rfl hdg kk
theorem bd_p_X6_empties (C : bd_Cx E p m c cc nL s args own) (hR : bd_Rep E xm ym om H) (hS : va_S (bd_A E) H0 H locs) (hw : w < 2) (hl : Cond.fieldLink own i "BandDayModel$State" "empties" "I" ∈ wsL_law) (hdg : decode cc pc = .ok (.putfield i, 3)) {v : Int32} (kk : ∀ (H1 : Heap) (locs1 : List Loc), bd_Rep E xm (bd_up ym 12 w 0 v) om H1 → va_S (bd_A E) H0 H1 locs1 → W p l e R s m args below meth c H1 locs1 cells slots Q (F0 m (pc + 3) ls rest)) : W p l e R s m args below meth c H locs cells slots Q (F0 m pc ls (.int v :: .ref (bd_ea E 18 w 0) :: rest)) := by
  obtain ⟨q, hq⟩ := bd_pos (f := 18) (w := w) (k := 0) ⟨by decide, hw, by decide⟩
  exact va_put (D := bd_eD E) (ci := 6) (v := .int v) (ty := .int) (C := RX6) (T := TX6) (N := 15) C.1.1 C.1.2.1 C.1.2.2.2.2 inlX6 tyX6 tyX6_ok nmX6 C.1.2.2.2.1 C.2.1 hR.P hR.D hS q (bd_ws_at hq) rfl 2 (by decide) (C.1.2.2.2.2 _ hl) (fun _ h => h) rfl (by decide +kernel) rfl rfl (Nat.le_of_ble_eq_true rfl) hdg (fun H1 locs1 hP _ hS1 => kk H1 locs1 (bd_back hR hq (bd_upY (F := 12) (by simp [bd_ce, bd_up, bd_fam, bd_fmY]) (by decide)) hP) hS1)
theorem bd_g_X6_tired (C : bd_Cx E p m c cc nL s args own) (hR : bd_Rep E xm ym om H) (hw : w < 2) (hl : Cond.fieldLink own i "BandDayModel$State" "tired" "[I" ∈ wsL_law) (hdg : decode cc pc = .ok (.getfield i, 3)) (kk : W p l e R s m args below meth c H locs cells slots Q (F0 m (pc + 3) ls (.ref (bd_ea E 19 w 0) :: rest))) : W p l e R s m args below meth c H locs cells slots Q (F0 m pc ls (.ref (bd_ea E 18 w 0) :: rest)) := by
  obtain ⟨q, hq⟩ := bd_pos (f := 18) (w := w) (k := 0) ⟨by decide, hw, by decide⟩
  exact va_get (D := bd_eD E) (ci := 6) (C := RX6) (T := TX6) (N := 15) C.1.1 C.1.2.1 C.1.2.2.2.2 inlX6 C.1.2.2.2.1 C.2.1 hR.P q (bd_ws_at hq) rfl 3 (by decide) (C.1.2.2.2.2 _ hl) (fun _ h => h) rfl hdg kk
theorem bd_gN_X6_tired (C : bd_Cx E p m c cc nL s args own) (hR : bd_Rep E xm ym om H) (hw : w < 2) (hl : Cond.fieldLinkNest own i "BandDayModel$State" "tired" "[I" "BandDayModel" ∈ bd_N) (hdg : decode cc pc = .ok (.getfield i, 3)) (kk : W p l e R s m args below meth c H locs cells slots Q (F0 m (pc + 3) ls (.ref (bd_ea E 19 w 0) :: rest))) : W p l e R s m args below meth c H locs cells slots Q (F0 m pc ls (.ref (bd_ea E 18 w 0) :: rest)) := by
  obtain ⟨q, hq⟩ := bd_pos (f := 18) (w := w) (k := 0) ⟨by decide, hw, by decide⟩
  exact va_getN (D := bd_eD E) (ci := 6) (C := RX6) (T := TX6) (N := 15) C.1.1 C.1.2.1 C.1.2.2.2.2 inlX6 C.1.2.2.2.1 C.2.1 hR.P q (bd_ws_at hq) rfl 3 (by decide) (va_Nw.use rfl (C.2.2.1 _ hl)) (fun _ h => h) rfl hdg kk
theorem bd_g_X6_absent (C : bd_Cx E p m c cc nL s args own) (hR : bd_Rep E xm ym om H) (hw : w < 2) (hl : Cond.fieldLink own i "BandDayModel$State" "absent" "[I" ∈ wsL_law) (hdg : decode cc pc = .ok (.getfield i, 3)) (kk : W p l e R s m args below meth c H locs cells slots Q (F0 m (pc + 3) ls (.ref (bd_ea E 20 w 0) :: rest))) : W p l e R s m args below meth c H locs cells slots Q (F0 m pc ls (.ref (bd_ea E 18 w 0) :: rest)) := by
  obtain ⟨q, hq⟩ := bd_pos (f := 18) (w := w) (k := 0) ⟨by decide, hw, by decide⟩
  exact va_get (D := bd_eD E) (ci := 6) (C := RX6) (T := TX6) (N := 15) C.1.1 C.1.2.1 C.1.2.2.2.2 inlX6 C.1.2.2.2.1 C.2.1 hR.P q (bd_ws_at hq) rfl 4 (by decide) (C.1.2.2.2.2 _ hl) (fun _ h => h) rfl hdg kk
theorem bd_gN_X6_absent (C : bd_Cx E p m c cc nL s args own) (hR : bd_Rep E xm ym om H) (hw : w < 2) (hl : Cond.fieldLinkNest own i "BandDayModel$State" "absent" "[I" "BandDayModel" ∈ bd_N) (hdg : decode cc pc = .ok (.getfield i, 3)) (kk : W p l e R s m args below meth c H locs cells slots Q (F0 m (pc + 3) ls (.ref (bd_ea E 20 w 0) :: rest))) : W p l e R s m args below meth c H locs cells slots Q (F0 m pc ls (.ref (bd_ea E 18 w 0) :: rest)) := by
  obtain ⟨q, hq⟩ := bd_pos (f := 18) (w := w) (k := 0) ⟨by decide, hw, by decide⟩
  exact va_getN (D := bd_eD E) (ci := 6) (C := RX6) (T := TX6) (N := 15) C.1.1 C.1.2.1 C.1.2.2.2.2 inlX6 C.1.2.2.2.1 C.2.1 hR.P q (bd_ws_at hq) rfl 4 (by decide) (va_Nw.use rfl (C.2.2.1 _ hl)) (fun _ h => h) rfl hdg kk
theorem bd_g_X6_sat (C : bd_Cx E p m c cc nL s args own) (hR : bd_Rep E xm ym om H) (hw : w < 2) (hl : Cond.fieldLink own i "BandDayModel$State" "sat" "[I" ∈ wsL_law) (hdg : decode cc pc = .ok (.getfield i, 3)) (kk : W p l e R s m args below meth c H locs cells slots Q (F0 m (pc + 3) ls (.ref (bd_ea E 21 w 0) :: rest))) : W p l e R s m args below meth c H locs cells slots Q (F0 m pc ls (.ref (bd_ea E 18 w 0) :: rest)) := by
  obtain ⟨q, hq⟩ := bd_pos (f := 18) (w := w) (k := 0) ⟨by decide, hw, by decide⟩
  exact va_get (D := bd_eD E) (ci := 6) (C := RX6) (T := TX6) (N := 15) C.1.1 C.1.2.1 C.1.2.2.2.2 inlX6 C.1.2.2.2.1 C.2.1 hR.P q (bd_ws_at hq) rfl 5 (by decide) (C.1.2.2.2.2 _ hl) (fun _ h => h) rfl hdg kk
theorem bd_gN_X6_sat (C : bd_Cx E p m c cc nL s args own) (hR : bd_Rep E xm ym om H) (hw : w < 2) (hl : Cond.fieldLinkNest own i "BandDayModel$State" "sat" "[I" "BandDayModel" ∈ bd_N) (hdg : decode cc pc = .ok (.getfield i, 3)) (kk : W p l e R s m args below meth c H locs cells slots Q (F0 m (pc + 3) ls (.ref (bd_ea E 21 w 0) :: rest))) : W p l e R s m args below meth c H locs cells slots Q (F0 m pc ls (.ref (bd_ea E 18 w 0) :: rest)) := by
  obtain ⟨q, hq⟩ := bd_pos (f := 18) (w := w) (k := 0) ⟨by decide, hw, by decide⟩
  exact va_getN (D := bd_eD E) (ci := 6) (C := RX6) (T := TX6) (N := 15) C.1.1 C.1.2.1 C.1.2.2.2.2 inlX6 C.1.2.2.2.1 C.2.1 hR.P q (bd_ws_at hq) rfl 5 (by decide) (va_Nw.use rfl (C.2.2.1 _ hl)) (fun _ h => h) rfl hdg kk
theorem bd_g_X6_deputy (C : bd_Cx E p m c cc nL s args own) (hR : bd_Rep E xm ym om H) (hw : w < 2) (hl : Cond.fieldLink own i "BandDayModel$State" "deputy" "[I" ∈ wsL_law) (hdg : decode cc pc = .ok (.getfield i, 3)) (kk : W p l e R s m args below meth c H locs cells slots Q (F0 m (pc + 3) ls (.ref (bd_ea E 22 w 0) :: rest))) : W p l e R s m args below meth c H locs cells slots Q (F0 m pc ls (.ref (bd_ea E 18 w 0) :: rest)) := by
  obtain ⟨q, hq⟩ := bd_pos (f := 18) (w := w) (k := 0) ⟨by decide, hw, by decide⟩
  exact va_get (D := bd_eD E) (ci := 6) (C := RX6) (T := TX6) (N := 15) C.1.1 C.1.2.1 C.1.2.2.2.2 inlX6 C.1.2.2.2.1 C.2.1 hR.P q (bd_ws_at hq) rfl 6 (by decide) (C.1.2.2.2.2 _ hl) (fun _ h => h) rfl hdg kk
theorem bd_gN_X6_deputy (C : bd_Cx E p m c cc nL s args own) (hR : bd_Rep E xm ym om H) (hw : w < 2) (hl : Cond.fieldLinkNest own i "BandDayModel$State" "deputy" "[I" "BandDayModel" ∈ bd_N) (hdg : decode cc pc = .ok (.getfield i, 3)) (kk : W p l e R s m args below meth c H locs cells slots Q (F0 m (pc + 3) ls (.ref (bd_ea E 22 w 0) :: rest))) : W p l e R s m args below meth c H locs cells slots Q (F0 m pc ls (.ref (bd_ea E 18 w 0) :: rest)) := by
  obtain ⟨q, hq⟩ := bd_pos (f := 18) (w := w) (k := 0) ⟨by decide, hw, by decide⟩
  exact va_getN (D := bd_eD E) (ci := 6) (C := RX6) (T := TX6) (N := 15) C.1.1 C.1.2.1 C.1.2.2.2.2 inlX6 C.1.2.2.2.1 C.2.1 hR.P q (bd_ws_at hq) rfl 6 (by decide) (va_Nw.use rfl (C.2.2.1 _ hl)) (fun _ h => h) rfl hdg kk
theorem bd_g_X6_member (C : bd_Cx E p m c cc nL s args own) (hR : bd_Rep E xm ym om H) (hw : w < 2) (hl : Cond.fieldLink own i "BandDayModel$State" "member" "[I" ∈ wsL_law) (hdg : decode cc pc = .ok (.getfield i, 3)) (kk : W p l e R s m args below meth c H locs cells slots Q (F0 m (pc + 3) ls (.ref (bd_ea E 23 w 0) :: rest))) : W p l e R s m args below meth c H locs cells slots Q (F0 m pc ls (.ref (bd_ea E 18 w 0) :: rest)) := by
  obtain ⟨q, hq⟩ := bd_pos (f := 18) (w := w) (k := 0) ⟨by decide, hw, by decide⟩
  exact va_get (D := bd_eD E) (ci := 6) (C := RX6) (T := TX6) (N := 15) C.1.1 C.1.2.1 C.1.2.2.2.2 inlX6 C.1.2.2.2.1 C.2.1 hR.P q (bd_ws_at hq) rfl 7 (by decide) (C.1.2.2.2.2 _ hl) (fun _ h => h) rfl hdg kk
theorem bd_gN_X6_member (C : bd_Cx E p m c cc nL s args own) (hR : bd_Rep E xm ym om H) (hw : w < 2) (hl : Cond.fieldLinkNest own i "BandDayModel$State" "member" "[I" "BandDayModel" ∈ bd_N) (hdg : decode cc pc = .ok (.getfield i, 3)) (kk : W p l e R s m args below meth c H locs cells slots Q (F0 m (pc + 3) ls (.ref (bd_ea E 23 w 0) :: rest))) : W p l e R s m args below meth c H locs cells slots Q (F0 m pc ls (.ref (bd_ea E 18 w 0) :: rest)) := by
  obtain ⟨q, hq⟩ := bd_pos (f := 18) (w := w) (k := 0) ⟨by decide, hw, by decide⟩
  exact va_getN (D := bd_eD E) (ci := 6) (C := RX6) (T := TX6) (N := 15) C.1.1 C.1.2.1 C.1.2.2.2.2 inlX6 C.1.2.2.2.1 C.2.1 hR.P q (bd_ws_at hq) rfl 7 (by decide) (va_Nw.use rfl (C.2.2.1 _ hl)) (fun _ h => h) rfl hdg kk
theorem bd_g_X6_who (C : bd_Cx E p m c cc nL s args own) (hR : bd_Rep E xm ym om H) (hw : w < 2) (hl : Cond.fieldLink own i "BandDayModel$State" "who" "[I" ∈ wsL_law) (hdg : decode cc pc = .ok (.getfield i, 3)) (kk : W p l e R s m args below meth c H locs cells slots Q (F0 m (pc + 3) ls (.ref (bd_ea E 24 w 0) :: rest))) : W p l e R s m args below meth c H locs cells slots Q (F0 m pc ls (.ref (bd_ea E 18 w 0) :: rest)) := by
  obtain ⟨q, hq⟩ := bd_pos (f := 18) (w := w) (k := 0) ⟨by decide, hw, by decide⟩
  exact va_get (D := bd_eD E) (ci := 6) (C := RX6) (T := TX6) (N := 15) C.1.1 C.1.2.1 C.1.2.2.2.2 inlX6 C.1.2.2.2.1 C.2.1 hR.P q (bd_ws_at hq) rfl 8 (by decide) (C.1.2.2.2.2 _ hl) (fun _ h => h) rfl hdg kk
theorem bd_gN_X6_who (C : bd_Cx E p m c cc nL s args own) (hR : bd_Rep E xm ym om H) (hw : w < 2) (hl : Cond.fieldLinkNest own i "BandDayModel$State" "who" "[I" "BandDayModel" ∈ bd_N) (hdg : decode cc pc = .ok (.getfield i, 3)) (kk : W p l e R s m args below meth c H locs cells slots Q (F0 m (pc + 3) ls (.ref (bd_ea E 24 w 0) :: rest))) : W p l e R s m args below meth c H locs cells slots Q (F0 m pc ls (.ref (bd_ea E 18 w 0) :: rest)) := by
  obtain ⟨q, hq⟩ := bd_pos (f := 18) (w := w) (k := 0) ⟨by decide, hw, by decide⟩
  exact va_getN (D := bd_eD E) (ci := 6) (C := RX6) (T := TX6) (N := 15) C.1.1 C.1.2.1 C.1.2.2.2.2 inlX6 C.1.2.2.2.1 C.2.1 hR.P q (bd_ws_at hq) rfl 8 (by decide) (va_Nw.use rfl (C.2.2.1 _ hl)) (fun _ h => h) rfl hdg kk
theorem bd_g_X6_spirit (C : bd_Cx E p m c cc nL s args own) (hR : bd_Rep E xm ym om H) (hw : w < 2) (hl : Cond.fieldLink own i "BandDayModel$State" "spirit" "[I" ∈ wsL_law) (hdg : decode cc pc = .ok (.getfield i, 3)) (kk : W p l e R s m args below meth c H locs cells slots Q (F0 m (pc + 3) ls (.ref (bd_ea E 25 w 0) :: rest))) : W p l e R s m args below meth c H locs cells slots Q (F0 m pc ls (.ref (bd_ea E 18 w 0) :: rest)) := by
  obtain ⟨q, hq⟩ := bd_pos (f := 18) (w := w) (k := 0) ⟨by decide, hw, by decide⟩
  exact va_get (D := bd_eD E) (ci := 6) (C := RX6) (T := TX6) (N := 15) C.1.1 C.1.2.1 C.1.2.2.2.2 inlX6 C.1.2.2.2.1 C.2.1 hR.P q (bd_ws_at hq) rfl 9 (by decide) (C.1.2.2.2.2 _ hl) (fun _ h => h) rfl hdg kk
theorem bd_gN_X6_spirit (C : bd_Cx E p m c cc nL s args own) (hR : bd_Rep E xm ym om H) (hw : w < 2) (hl : Cond.fieldLinkNest own i "BandDayModel$State" "spirit" "[I" "BandDayModel" ∈ bd_N) (hdg : decode cc pc = .ok (.getfield i, 3)) (kk : W p l e R s m args below meth c H locs cells slots Q (F0 m (pc + 3) ls (.ref (bd_ea E 25 w 0) :: rest))) : W p l e R s m args below meth c H locs cells slots Q (F0 m pc ls (.ref (bd_ea E 18 w 0) :: rest)) := by
  obtain ⟨q, hq⟩ := bd_pos (f := 18) (w := w) (k := 0) ⟨by decide, hw, by decide⟩
  exact va_getN (D := bd_eD E) (ci := 6) (C := RX6) (T := TX6) (N := 15) C.1.1 C.1.2.1 C.1.2.2.2.2 inlX6 C.1.2.2.2.1 C.2.1 hR.P q (bd_ws_at hq) rfl 9 (by decide) (va_Nw.use rfl (C.2.2.1 _ hl)) (fun _ h => h) rfl hdg kk
theorem bd_g_X6_points (C : bd_Cx E p m c cc nL s args own) (hR : bd_Rep E xm ym om H) (hw : w < 2) (hl : Cond.fieldLink own i "BandDayModel$State" "points" "[I" ∈ wsL_law) (hdg : decode cc pc = .ok (.getfield i, 3)) (kk : W p l e R s m args below meth c H locs cells slots Q (F0 m (pc + 3) ls (.ref (bd_ea E 26 w 0) :: rest))) : W p l e R s m args below meth c H locs cells slots Q (F0 m pc ls (.ref (bd_ea E 18 w 0) :: rest)) := by
  obtain ⟨q, hq⟩ := bd_pos (f := 18) (w := w) (k := 0) ⟨by decide, hw, by decide⟩
  exact va_get (D := bd_eD E) (ci := 6) (C := RX6) (T := TX6) (N := 15) C.1.1 C.1.2.1 C.1.2.2.2.2 inlX6 C.1.2.2.2.1 C.2.1 hR.P q (bd_ws_at hq) rfl 10 (by decide) (C.1.2.2.2.2 _ hl) (fun _ h => h) rfl hdg kk
theorem bd_gN_X6_points (C : bd_Cx E p m c cc nL s args own) (hR : bd_Rep E xm ym om H) (hw : w < 2) (hl : Cond.fieldLinkNest own i "BandDayModel$State" "points" "[I" "BandDayModel" ∈ bd_N) (hdg : decode cc pc = .ok (.getfield i, 3)) (kk : W p l e R s m args below meth c H locs cells slots Q (F0 m (pc + 3) ls (.ref (bd_ea E 26 w 0) :: rest))) : W p l e R s m args below meth c H locs cells slots Q (F0 m pc ls (.ref (bd_ea E 18 w 0) :: rest)) := by
  obtain ⟨q, hq⟩ := bd_pos (f := 18) (w := w) (k := 0) ⟨by decide, hw, by decide⟩
  exact va_getN (D := bd_eD E) (ci := 6) (C := RX6) (T := TX6) (N := 15) C.1.1 C.1.2.1 C.1.2.2.2.2 inlX6 C.1.2.2.2.1 C.2.1 hR.P q (bd_ws_at hq) rfl 10 (by decide) (va_Nw.use rfl (C.2.2.1 _ hl)) (fun _ h => h) rfl hdg kk
theorem bd_g_X6_outs (C : bd_Cx E p m c cc nL s args own) (hR : bd_Rep E xm ym om H) (hw : w < 2) (hl : Cond.fieldLink own i "BandDayModel$State" "outs" "[I" ∈ wsL_law) (hdg : decode cc pc = .ok (.getfield i, 3)) (kk : W p l e R s m args below meth c H locs cells slots Q (F0 m (pc + 3) ls (.ref (bd_ea E 27 w 0) :: rest))) : W p l e R s m args below meth c H locs cells slots Q (F0 m pc ls (.ref (bd_ea E 18 w 0) :: rest)) := by
  obtain ⟨q, hq⟩ := bd_pos (f := 18) (w := w) (k := 0) ⟨by decide, hw, by decide⟩
  exact va_get (D := bd_eD E) (ci := 6) (C := RX6) (T := TX6) (N := 15) C.1.1 C.1.2.1 C.1.2.2.2.2 inlX6 C.1.2.2.2.1 C.2.1 hR.P q (bd_ws_at hq) rfl 11 (by decide) (C.1.2.2.2.2 _ hl) (fun _ h => h) rfl hdg kk
theorem bd_gN_X6_outs (C : bd_Cx E p m c cc nL s args own) (hR : bd_Rep E xm ym om H) (hw : w < 2) (hl : Cond.fieldLinkNest own i "BandDayModel$State" "outs" "[I" "BandDayModel" ∈ bd_N) (hdg : decode cc pc = .ok (.getfield i, 3)) (kk : W p l e R s m args below meth c H locs cells slots Q (F0 m (pc + 3) ls (.ref (bd_ea E 27 w 0) :: rest))) : W p l e R s m args below meth c H locs cells slots Q (F0 m pc ls (.ref (bd_ea E 18 w 0) :: rest)) := by
  obtain ⟨q, hq⟩ := bd_pos (f := 18) (w := w) (k := 0) ⟨by decide, hw, by decide⟩
  exact va_getN (D := bd_eD E) (ci := 6) (C := RX6) (T := TX6) (N := 15) C.1.1 C.1.2.1 C.1.2.2.2.2 inlX6 C.1.2.2.2.1 C.2.1 hR.P q (bd_ws_at hq) rfl 11 (by decide) (va_Nw.use rfl (C.2.2.1 _ hl)) (fun _ h => h) rfl hdg kk
theorem bd_g_X6_latest (C : bd_Cx E p m c cc nL s args own) (hR : bd_Rep E xm ym om H) (hw : w < 2) (hl : Cond.fieldLink own i "BandDayModel$State" "latest" "[I" ∈ wsL_law) (hdg : decode cc pc = .ok (.getfield i, 3)) (kk : W p l e R s m args below meth c H locs cells slots Q (F0 m (pc + 3) ls (.ref (bd_ea E 28 w 0) :: rest))) : W p l e R s m args below meth c H locs cells slots Q (F0 m pc ls (.ref (bd_ea E 18 w 0) :: rest)) := by
  obtain ⟨q, hq⟩ := bd_pos (f := 18) (w := w) (k := 0) ⟨by decide, hw, by decide⟩
  exact va_get (D := bd_eD E) (ci := 6) (C := RX6) (T := TX6) (N := 15) C.1.1 C.1.2.1 C.1.2.2.2.2 inlX6 C.1.2.2.2.1 C.2.1 hR.P q (bd_ws_at hq) rfl 12 (by decide) (C.1.2.2.2.2 _ hl) (fun _ h => h) rfl hdg kk
theorem bd_gN_X6_latest (C : bd_Cx E p m c cc nL s args own) (hR : bd_Rep E xm ym om H) (hw : w < 2) (hl : Cond.fieldLinkNest own i "BandDayModel$State" "latest" "[I" "BandDayModel" ∈ bd_N) (hdg : decode cc pc = .ok (.getfield i, 3)) (kk : W p l e R s m args below meth c H locs cells slots Q (F0 m (pc + 3) ls (.ref (bd_ea E 28 w 0) :: rest))) : W p l e R s m args below meth c H locs cells slots Q (F0 m pc ls (.ref (bd_ea E 18 w 0) :: rest)) := by
  obtain ⟨q, hq⟩ := bd_pos (f := 18) (w := w) (k := 0) ⟨by decide, hw, by decide⟩
  exact va_getN (D := bd_eD E) (ci := 6) (C := RX6) (T := TX6) (N := 15) C.1.1 C.1.2.1 C.1.2.2.2.2 inlX6 C.1.2.2.2.1 C.2.1 hR.P q (bd_ws_at hq) rfl 12 (by decide) (va_Nw.use rfl (C.2.2.1 _ hl)) (fun _ h => h) rfl hdg kk
theorem bd_g_X6_times (C : bd_Cx E p m c cc nL s args own) (hR : bd_Rep E xm ym om H) (hw : w < 2) (hl : Cond.fieldLink own i "BandDayModel$State" "times" "[I" ∈ wsL_law) (hdg : decode cc pc = .ok (.getfield i, 3)) (kk : W p l e R s m args below meth c H locs cells slots Q (F0 m (pc + 3) ls (.ref (bd_ea E 29 w 0) :: rest))) : W p l e R s m args below meth c H locs cells slots Q (F0 m pc ls (.ref (bd_ea E 18 w 0) :: rest)) := by
  obtain ⟨q, hq⟩ := bd_pos (f := 18) (w := w) (k := 0) ⟨by decide, hw, by decide⟩
  exact va_get (D := bd_eD E) (ci := 6) (C := RX6) (T := TX6) (N := 15) C.1.1 C.1.2.1 C.1.2.2.2.2 inlX6 C.1.2.2.2.1 C.2.1 hR.P q (bd_ws_at hq) rfl 13 (by decide) (C.1.2.2.2.2 _ hl) (fun _ h => h) rfl hdg kk
theorem bd_g_X6_this_0 (C : bd_Cx E p m c cc nL s args own) (hR : bd_Rep E xm ym om H) (hw : w < 2) (hl : Cond.fieldLink own i "BandDayModel$State" "this$0" "LBandDayModel;" ∈ wsL_law) (hdg : decode cc pc = .ok (.getfield i, 3)) (kk : W p l e R s m args below meth c H locs cells slots Q (F0 m (pc + 3) ls (.ref (bd_ea E 12 0 0) :: rest))) : W p l e R s m args below meth c H locs cells slots Q (F0 m pc ls (.ref (bd_ea E 18 w 0) :: rest)) := by
  obtain ⟨q, hq⟩ := bd_pos (f := 18) (w := w) (k := 0) ⟨by decide, hw, by decide⟩
  exact va_get (D := bd_eD E) (ci := 6) (C := RX6) (T := TX6) (N := 15) C.1.1 C.1.2.1 C.1.2.2.2.2 inlX6 C.1.2.2.2.1 C.2.1 hR.P q (bd_ws_at hq) rfl 14 (by decide) (C.1.2.2.2.2 _ hl) (fun _ h => h) rfl hdg kk
theorem bd_g_X7_thrown (C : bd_Cx E p m c cc nL s args own) (hR : bd_Rep E xm ym om H) (hl : Cond.fieldLink own i "BandDayModel" "thrown" "I" ∈ wsL_law) (hdg : decode cc pc = .ok (.getfield i, 3)) (kk : W p l e R s m args below meth c H locs cells slots Q (F0 m (pc + 3) ls (.int (ym 0 0 0) :: rest))) : W p l e R s m args below meth c H locs cells slots Q (F0 m pc ls (.ref (bd_ea E 12 0 0) :: rest)) := by
  obtain ⟨q, hq⟩ := bd_pos (f := 12) (w := 0) (k := 0) ⟨by decide, by decide, by decide⟩
  exact va_get (D := bd_eD E) (ci := 7) (C := RX7) (T := TX7) (N := 10) C.1.1 C.1.2.1 C.1.2.2.2.2 inlX7 C.1.2.2.2.1 C.2.1 hR.P q (bd_ws_at hq) rfl 0 (by decide) (C.1.2.2.2.2 _ hl) (fun _ h => h) rfl hdg kk
theorem bd_p_X7_thrown (C : bd_Cx E p m c cc nL s args own) (hR : bd_Rep E xm ym om H) (hS : va_S (bd_A E) H0 H locs) (hl : Cond.fieldLink own i "BandDayModel" "thrown" "I" ∈ wsL_law) (hdg : decode cc pc = .ok (.putfield i, 3)) {v : Int32} (kk : ∀ (H1 : Heap) (locs1 : List Loc), bd_Rep E xm (bd_up ym 0 0 0 v) om H1 → va_S (bd_A E) H0 H1 locs1 → W p l e R s m args below meth c H1 locs1 cells slots Q (F0 m (pc + 3) ls rest)) : W p l e R s m args below meth c H locs cells slots Q (F0 m pc ls (.int v :: .ref (bd_ea E 12 0 0) :: rest)) := by
  obtain ⟨q, hq⟩ := bd_pos (f := 12) (w := 0) (k := 0) ⟨by decide, by decide, by decide⟩
  exact va_put (D := bd_eD E) (ci := 7) (v := .int v) (ty := .int) (C := RX7) (T := TX7) (N := 10) C.1.1 C.1.2.1 C.1.2.2.2.2 inlX7 tyX7 tyX7_ok nmX7 C.1.2.2.2.1 C.2.1 hR.P hR.D hS q (bd_ws_at hq) rfl 0 (by decide) (C.1.2.2.2.2 _ hl) (fun _ h => h) rfl (by decide +kernel) rfl rfl (Nat.le_of_ble_eq_true rfl) hdg (fun H1 locs1 hP _ hS1 => kk H1 locs1 (bd_back hR hq (bd_upY (F := 0) (by simp [bd_ce, bd_up, bd_fam, bd_fmY]) (by decide)) hP) hS1)
theorem bd_g_X7_players (C : bd_Cx E p m c cc nL s args own) (hR : bd_Rep E xm ym om H) (hl : Cond.fieldLink own i "BandDayModel" "players" "I" ∈ wsL_law) (hdg : decode cc pc = .ok (.getfield i, 3)) (kk : W p l e R s m args below meth c H locs cells slots Q (F0 m (pc + 3) ls (.int (ym 1 0 0) :: rest))) : W p l e R s m args below meth c H locs cells slots Q (F0 m pc ls (.ref (bd_ea E 12 0 0) :: rest)) := by
  obtain ⟨q, hq⟩ := bd_pos (f := 12) (w := 0) (k := 0) ⟨by decide, by decide, by decide⟩
  exact va_get (D := bd_eD E) (ci := 7) (C := RX7) (T := TX7) (N := 10) C.1.1 C.1.2.1 C.1.2.2.2.2 inlX7 C.1.2.2.2.1 C.2.1 hR.P q (bd_ws_at hq) rfl 1 (by decide) (C.1.2.2.2.2 _ hl) (fun _ h => h) rfl hdg kk
theorem bd_gN_X7_players (C : bd_Cx E p m c cc nL s args own) (hR : bd_Rep E xm ym om H) (hl : Cond.fieldLinkNest own i "BandDayModel" "players" "I" "BandDayModel" ∈ bd_N) (hdg : decode cc pc = .ok (.getfield i, 3)) (kk : W p l e R s m args below meth c H locs cells slots Q (F0 m (pc + 3) ls (.int (ym 1 0 0) :: rest))) : W p l e R s m args below meth c H locs cells slots Q (F0 m pc ls (.ref (bd_ea E 12 0 0) :: rest)) := by
  obtain ⟨q, hq⟩ := bd_pos (f := 12) (w := 0) (k := 0) ⟨by decide, by decide, by decide⟩
  exact va_getN (D := bd_eD E) (ci := 7) (C := RX7) (T := TX7) (N := 10) C.1.1 C.1.2.1 C.1.2.2.2.2 inlX7 C.1.2.2.2.1 C.2.1 hR.P q (bd_ws_at hq) rfl 1 (by decide) (va_Nw.use rfl (C.2.2.1 _ hl)) (fun _ h => h) rfl hdg kk
theorem bd_p_X7_players (C : bd_Cx E p m c cc nL s args own) (hR : bd_Rep E xm ym om H) (hS : va_S (bd_A E) H0 H locs) (hl : Cond.fieldLink own i "BandDayModel" "players" "I" ∈ wsL_law) (hdg : decode cc pc = .ok (.putfield i, 3)) {v : Int32} (kk : ∀ (H1 : Heap) (locs1 : List Loc), bd_Rep E xm (bd_up ym 1 0 0 v) om H1 → va_S (bd_A E) H0 H1 locs1 → W p l e R s m args below meth c H1 locs1 cells slots Q (F0 m (pc + 3) ls rest)) : W p l e R s m args below meth c H locs cells slots Q (F0 m pc ls (.int v :: .ref (bd_ea E 12 0 0) :: rest)) := by
  obtain ⟨q, hq⟩ := bd_pos (f := 12) (w := 0) (k := 0) ⟨by decide, by decide, by decide⟩
  exact va_put (D := bd_eD E) (ci := 7) (v := .int v) (ty := .int) (C := RX7) (T := TX7) (N := 10) C.1.1 C.1.2.1 C.1.2.2.2.2 inlX7 tyX7 tyX7_ok nmX7 C.1.2.2.2.1 C.2.1 hR.P hR.D hS q (bd_ws_at hq) rfl 1 (by decide) (C.1.2.2.2.2 _ hl) (fun _ h => h) rfl (by decide +kernel) rfl rfl (Nat.le_of_ble_eq_true rfl) hdg (fun H1 locs1 hP _ hS1 => kk H1 locs1 (bd_back hR hq (bd_upY (F := 1) (by simp [bd_ce, bd_up, bd_fam, bd_fmY]) (by decide)) hP) hS1)
theorem bd_g_X7_skill (C : bd_Cx E p m c cc nL s args own) (hR : bd_Rep E xm ym om H) (hl : Cond.fieldLink own i "BandDayModel" "skill" "[I" ∈ wsL_law) (hdg : decode cc pc = .ok (.getfield i, 3)) (kk : W p l e R s m args below meth c H locs cells slots Q (F0 m (pc + 3) ls (.ref (bd_ea E 13 0 0) :: rest))) : W p l e R s m args below meth c H locs cells slots Q (F0 m pc ls (.ref (bd_ea E 12 0 0) :: rest)) := by
  obtain ⟨q, hq⟩ := bd_pos (f := 12) (w := 0) (k := 0) ⟨by decide, by decide, by decide⟩
  exact va_get (D := bd_eD E) (ci := 7) (C := RX7) (T := TX7) (N := 10) C.1.1 C.1.2.1 C.1.2.2.2.2 inlX7 C.1.2.2.2.1 C.2.1 hR.P q (bd_ws_at hq) rfl 2 (by decide) (C.1.2.2.2.2 _ hl) (fun _ h => h) rfl hdg kk
theorem bd_gN_X7_skill (C : bd_Cx E p m c cc nL s args own) (hR : bd_Rep E xm ym om H) (hl : Cond.fieldLinkNest own i "BandDayModel" "skill" "[I" "BandDayModel" ∈ bd_N) (hdg : decode cc pc = .ok (.getfield i, 3)) (kk : W p l e R s m args below meth c H locs cells slots Q (F0 m (pc + 3) ls (.ref (bd_ea E 13 0 0) :: rest))) : W p l e R s m args below meth c H locs cells slots Q (F0 m pc ls (.ref (bd_ea E 12 0 0) :: rest)) := by
  obtain ⟨q, hq⟩ := bd_pos (f := 12) (w := 0) (k := 0) ⟨by decide, by decide, by decide⟩
  exact va_getN (D := bd_eD E) (ci := 7) (C := RX7) (T := TX7) (N := 10) C.1.1 C.1.2.1 C.1.2.2.2.2 inlX7 C.1.2.2.2.1 C.2.1 hR.P q (bd_ws_at hq) rfl 2 (by decide) (va_Nw.use rfl (C.2.2.1 _ hl)) (fun _ h => h) rfl hdg kk
theorem bd_g_X7_bands (C : bd_Cx E p m c cc nL s args own) (hR : bd_Rep E xm ym om H) (hl : Cond.fieldLink own i "BandDayModel" "bands" "I" ∈ wsL_law) (hdg : decode cc pc = .ok (.getfield i, 3)) (kk : W p l e R s m args below meth c H locs cells slots Q (F0 m (pc + 3) ls (.int (ym 2 0 0) :: rest))) : W p l e R s m args below meth c H locs cells slots Q (F0 m pc ls (.ref (bd_ea E 12 0 0) :: rest)) := by
  obtain ⟨q, hq⟩ := bd_pos (f := 12) (w := 0) (k := 0) ⟨by decide, by decide, by decide⟩
  exact va_get (D := bd_eD E) (ci := 7) (C := RX7) (T := TX7) (N := 10) C.1.1 C.1.2.1 C.1.2.2.2.2 inlX7 C.1.2.2.2.1 C.2.1 hR.P q (bd_ws_at hq) rfl 3 (by decide) (C.1.2.2.2.2 _ hl) (fun _ h => h) rfl hdg kk
theorem bd_gN_X7_bands (C : bd_Cx E p m c cc nL s args own) (hR : bd_Rep E xm ym om H) (hl : Cond.fieldLinkNest own i "BandDayModel" "bands" "I" "BandDayModel" ∈ bd_N) (hdg : decode cc pc = .ok (.getfield i, 3)) (kk : W p l e R s m args below meth c H locs cells slots Q (F0 m (pc + 3) ls (.int (ym 2 0 0) :: rest))) : W p l e R s m args below meth c H locs cells slots Q (F0 m pc ls (.ref (bd_ea E 12 0 0) :: rest)) := by
  obtain ⟨q, hq⟩ := bd_pos (f := 12) (w := 0) (k := 0) ⟨by decide, by decide, by decide⟩
  exact va_getN (D := bd_eD E) (ci := 7) (C := RX7) (T := TX7) (N := 10) C.1.1 C.1.2.1 C.1.2.2.2.2 inlX7 C.1.2.2.2.1 C.2.1 hR.P q (bd_ws_at hq) rfl 3 (by decide) (va_Nw.use rfl (C.2.2.1 _ hl)) (fun _ h => h) rfl hdg kk
theorem bd_p_X7_bands (C : bd_Cx E p m c cc nL s args own) (hR : bd_Rep E xm ym om H) (hS : va_S (bd_A E) H0 H locs) (hl : Cond.fieldLink own i "BandDayModel" "bands" "I" ∈ wsL_law) (hdg : decode cc pc = .ok (.putfield i, 3)) {v : Int32} (kk : ∀ (H1 : Heap) (locs1 : List Loc), bd_Rep E xm (bd_up ym 2 0 0 v) om H1 → va_S (bd_A E) H0 H1 locs1 → W p l e R s m args below meth c H1 locs1 cells slots Q (F0 m (pc + 3) ls rest)) : W p l e R s m args below meth c H locs cells slots Q (F0 m pc ls (.int v :: .ref (bd_ea E 12 0 0) :: rest)) := by
  obtain ⟨q, hq⟩ := bd_pos (f := 12) (w := 0) (k := 0) ⟨by decide, by decide, by decide⟩
  exact va_put (D := bd_eD E) (ci := 7) (v := .int v) (ty := .int) (C := RX7) (T := TX7) (N := 10) C.1.1 C.1.2.1 C.1.2.2.2.2 inlX7 tyX7 tyX7_ok nmX7 C.1.2.2.2.1 C.2.1 hR.P hR.D hS q (bd_ws_at hq) rfl 3 (by decide) (C.1.2.2.2.2 _ hl) (fun _ h => h) rfl (by decide +kernel) rfl rfl (Nat.le_of_ble_eq_true rfl) hdg (fun H1 locs1 hP _ hS1 => kk H1 locs1 (bd_back hR hq (bd_upY (F := 2) (by simp [bd_ce, bd_up, bd_fam, bd_fmY]) (by decide)) hP) hS1)
theorem bd_g_X7_seats (C : bd_Cx E p m c cc nL s args own) (hR : bd_Rep E xm ym om H) (hl : Cond.fieldLink own i "BandDayModel" "seats" "[I" ∈ wsL_law) (hdg : decode cc pc = .ok (.getfield i, 3)) (kk : W p l e R s m args below meth c H locs cells slots Q (F0 m (pc + 3) ls (.ref (bd_ea E 14 0 0) :: rest))) : W p l e R s m args below meth c H locs cells slots Q (F0 m pc ls (.ref (bd_ea E 12 0 0) :: rest)) := by
  obtain ⟨q, hq⟩ := bd_pos (f := 12) (w := 0) (k := 0) ⟨by decide, by decide, by decide⟩
  exact va_get (D := bd_eD E) (ci := 7) (C := RX7) (T := TX7) (N := 10) C.1.1 C.1.2.1 C.1.2.2.2.2 inlX7 C.1.2.2.2.1 C.2.1 hR.P q (bd_ws_at hq) rfl 4 (by decide) (C.1.2.2.2.2 _ hl) (fun _ h => h) rfl hdg kk
theorem bd_gN_X7_seats (C : bd_Cx E p m c cc nL s args own) (hR : bd_Rep E xm ym om H) (hl : Cond.fieldLinkNest own i "BandDayModel" "seats" "[I" "BandDayModel" ∈ bd_N) (hdg : decode cc pc = .ok (.getfield i, 3)) (kk : W p l e R s m args below meth c H locs cells slots Q (F0 m (pc + 3) ls (.ref (bd_ea E 14 0 0) :: rest))) : W p l e R s m args below meth c H locs cells slots Q (F0 m pc ls (.ref (bd_ea E 12 0 0) :: rest)) := by
  obtain ⟨q, hq⟩ := bd_pos (f := 12) (w := 0) (k := 0) ⟨by decide, by decide, by decide⟩
  exact va_getN (D := bd_eD E) (ci := 7) (C := RX7) (T := TX7) (N := 10) C.1.1 C.1.2.1 C.1.2.2.2.2 inlX7 C.1.2.2.2.1 C.2.1 hR.P q (bd_ws_at hq) rfl 4 (by decide) (va_Nw.use rfl (C.2.2.1 _ hl)) (fun _ h => h) rfl hdg kk
theorem bd_g_X7_instrument (C : bd_Cx E p m c cc nL s args own) (hR : bd_Rep E xm ym om H) (hl : Cond.fieldLink own i "BandDayModel" "instrument" "[I" ∈ wsL_law) (hdg : decode cc pc = .ok (.getfield i, 3)) (kk : W p l e R s m args below meth c H locs cells slots Q (F0 m (pc + 3) ls (.ref (bd_ea E 15 0 0) :: rest))) : W p l e R s m args below meth c H locs cells slots Q (F0 m pc ls (.ref (bd_ea E 12 0 0) :: rest)) := by
  obtain ⟨q, hq⟩ := bd_pos (f := 12) (w := 0) (k := 0) ⟨by decide, by decide, by decide⟩
  exact va_get (D := bd_eD E) (ci := 7) (C := RX7) (T := TX7) (N := 10) C.1.1 C.1.2.1 C.1.2.2.2.2 inlX7 C.1.2.2.2.1 C.2.1 hR.P q (bd_ws_at hq) rfl 5 (by decide) (C.1.2.2.2.2 _ hl) (fun _ h => h) rfl hdg kk
theorem bd_gN_X7_instrument (C : bd_Cx E p m c cc nL s args own) (hR : bd_Rep E xm ym om H) (hl : Cond.fieldLinkNest own i "BandDayModel" "instrument" "[I" "BandDayModel" ∈ bd_N) (hdg : decode cc pc = .ok (.getfield i, 3)) (kk : W p l e R s m args below meth c H locs cells slots Q (F0 m (pc + 3) ls (.ref (bd_ea E 15 0 0) :: rest))) : W p l e R s m args below meth c H locs cells slots Q (F0 m pc ls (.ref (bd_ea E 12 0 0) :: rest)) := by
  obtain ⟨q, hq⟩ := bd_pos (f := 12) (w := 0) (k := 0) ⟨by decide, by decide, by decide⟩
  exact va_getN (D := bd_eD E) (ci := 7) (C := RX7) (T := TX7) (N := 10) C.1.1 C.1.2.1 C.1.2.2.2.2 inlX7 C.1.2.2.2.1 C.2.1 hR.P q (bd_ws_at hq) rfl 5 (by decide) (va_Nw.use rfl (C.2.2.1 _ hl)) (fun _ h => h) rfl hdg kk
theorem bd_g_X7_hard (C : bd_Cx E p m c cc nL s args own) (hR : bd_Rep E xm ym om H) (hl : Cond.fieldLink own i "BandDayModel" "hard" "[I" ∈ wsL_law) (hdg : decode cc pc = .ok (.getfield i, 3)) (kk : W p l e R s m args below meth c H locs cells slots Q (F0 m (pc + 3) ls (.ref (bd_ea E 16 0 0) :: rest))) : W p l e R s m args below meth c H locs cells slots Q (F0 m pc ls (.ref (bd_ea E 12 0 0) :: rest)) := by
  obtain ⟨q, hq⟩ := bd_pos (f := 12) (w := 0) (k := 0) ⟨by decide, by decide, by decide⟩
  exact va_get (D := bd_eD E) (ci := 7) (C := RX7) (T := TX7) (N := 10) C.1.1 C.1.2.1 C.1.2.2.2.2 inlX7 C.1.2.2.2.1 C.2.1 hR.P q (bd_ws_at hq) rfl 6 (by decide) (C.1.2.2.2.2 _ hl) (fun _ h => h) rfl hdg kk
theorem bd_gN_X7_hard (C : bd_Cx E p m c cc nL s args own) (hR : bd_Rep E xm ym om H) (hl : Cond.fieldLinkNest own i "BandDayModel" "hard" "[I" "BandDayModel" ∈ bd_N) (hdg : decode cc pc = .ok (.getfield i, 3)) (kk : W p l e R s m args below meth c H locs cells slots Q (F0 m (pc + 3) ls (.ref (bd_ea E 16 0 0) :: rest))) : W p l e R s m args below meth c H locs cells slots Q (F0 m pc ls (.ref (bd_ea E 12 0 0) :: rest)) := by
  obtain ⟨q, hq⟩ := bd_pos (f := 12) (w := 0) (k := 0) ⟨by decide, by decide, by decide⟩
  exact va_getN (D := bd_eD E) (ci := 7) (C := RX7) (T := TX7) (N := 10) C.1.1 C.1.2.1 C.1.2.2.2.2 inlX7 C.1.2.2.2.1 C.2.1 hR.P q (bd_ws_at hq) rfl 6 (by decide) (va_Nw.use rfl (C.2.2.1 _ hl)) (fun _ h => h) rfl hdg kk
theorem bd_g_X7_weight (C : bd_Cx E p m c cc nL s args own) (hR : bd_Rep E xm ym om H) (hl : Cond.fieldLink own i "BandDayModel" "weight" "[I" ∈ wsL_law) (hdg : decode cc pc = .ok (.getfield i, 3)) (kk : W p l e R s m args below meth c H locs cells slots Q (F0 m (pc + 3) ls (.ref (bd_ea E 17 0 0) :: rest))) : W p l e R s m args below meth c H locs cells slots Q (F0 m pc ls (.ref (bd_ea E 12 0 0) :: rest)) := by
  obtain ⟨q, hq⟩ := bd_pos (f := 12) (w := 0) (k := 0) ⟨by decide, by decide, by decide⟩
  exact va_get (D := bd_eD E) (ci := 7) (C := RX7) (T := TX7) (N := 10) C.1.1 C.1.2.1 C.1.2.2.2.2 inlX7 C.1.2.2.2.1 C.2.1 hR.P q (bd_ws_at hq) rfl 7 (by decide) (C.1.2.2.2.2 _ hl) (fun _ h => h) rfl hdg kk
theorem bd_gN_X7_weight (C : bd_Cx E p m c cc nL s args own) (hR : bd_Rep E xm ym om H) (hl : Cond.fieldLinkNest own i "BandDayModel" "weight" "[I" "BandDayModel" ∈ bd_N) (hdg : decode cc pc = .ok (.getfield i, 3)) (kk : W p l e R s m args below meth c H locs cells slots Q (F0 m (pc + 3) ls (.ref (bd_ea E 17 0 0) :: rest))) : W p l e R s m args below meth c H locs cells slots Q (F0 m pc ls (.ref (bd_ea E 12 0 0) :: rest)) := by
  obtain ⟨q, hq⟩ := bd_pos (f := 12) (w := 0) (k := 0) ⟨by decide, by decide, by decide⟩
  exact va_getN (D := bd_eD E) (ci := 7) (C := RX7) (T := TX7) (N := 10) C.1.1 C.1.2.1 C.1.2.2.2.2 inlX7 C.1.2.2.2.1 C.2.1 hR.P q (bd_ws_at hq) rfl 7 (by decide) (va_Nw.use rfl (C.2.2.1 _ hl)) (fun _ h => h) rfl hdg kk
theorem bd_g_X7_s (C : bd_Cx E p m c cc nL s args own) (hR : bd_Rep E xm ym om H) (hl : Cond.fieldLink own i "BandDayModel" "s" "LBandDayModel$State;" ∈ wsL_law) (hdg : decode cc pc = .ok (.getfield i, 3)) (kk : W p l e R s m args below meth c H locs cells slots Q (F0 m (pc + 3) ls (.ref (bd_ea E 18 0 0) :: rest))) : W p l e R s m args below meth c H locs cells slots Q (F0 m pc ls (.ref (bd_ea E 12 0 0) :: rest)) := by
  obtain ⟨q, hq⟩ := bd_pos (f := 12) (w := 0) (k := 0) ⟨by decide, by decide, by decide⟩
  exact va_get (D := bd_eD E) (ci := 7) (C := RX7) (T := TX7) (N := 10) C.1.1 C.1.2.1 C.1.2.2.2.2 inlX7 C.1.2.2.2.1 C.2.1 hR.P q (bd_ws_at hq) rfl 8 (by decide) (C.1.2.2.2.2 _ hl) (fun _ h => h) rfl hdg kk
theorem bd_g_X7_ahead (C : bd_Cx E p m c cc nL s args own) (hR : bd_Rep E xm ym om H) (hl : Cond.fieldLink own i "BandDayModel" "ahead" "LBandDayModel$State;" ∈ wsL_law) (hdg : decode cc pc = .ok (.getfield i, 3)) (kk : W p l e R s m args below meth c H locs cells slots Q (F0 m (pc + 3) ls (.ref (bd_ea E 18 1 0) :: rest))) : W p l e R s m args below meth c H locs cells slots Q (F0 m pc ls (.ref (bd_ea E 12 0 0) :: rest)) := by
  obtain ⟨q, hq⟩ := bd_pos (f := 12) (w := 0) (k := 0) ⟨by decide, by decide, by decide⟩
  exact va_get (D := bd_eD E) (ci := 7) (C := RX7) (T := TX7) (N := 10) C.1.1 C.1.2.1 C.1.2.2.2.2 inlX7 C.1.2.2.2.1 C.2.1 hR.P q (bd_ws_at hq) rfl 9 (by decide) (C.1.2.2.2.2 _ hl) (fun _ h => h) rfl hdg kk
theorem bd_ld_5 (C : bd_Cx E p m c cc nL s args own) (hR : bd_Rep E xm ym om H) (hw : w < 2) {j : Nat} (hj : j < 4) (hdg : decode cc pc = .ok (.iaload, 1)) (kk : W p l e R s m args below meth c H locs cells slots Q (F0 m (pc + 1) ls (.int (xm 35 w j) :: rest))) : W p l e R s m args below meth c H locs cells slots Q (F0 m pc ls (.int (nI j) :: .ref (bd_ea E 5 w 0) :: rest)) := by
  obtain ⟨q, hq⟩ := bd_pos (f := 5) (w := w) (k := 0) ⟨by decide, hw, by decide⟩
  refine va_iald (D := bd_eD E) C.1.1 C.1.2.1 C.2.1 hR.P q 0 (bd_ws_at hq) rfl (vp_in_nI hj (by decide)) hdg ?_
  rw [nI_clamp (Nat.lt_trans hj (by decide))]
  exact kk
theorem bd_st_5 (C : bd_Cx E p m c cc nL s args own) (hR : bd_Rep E xm ym om H) (hS : va_S (bd_A E) H0 H locs) (hw : w < 2) {j : Nat} (hj : j < 4) (hdg : decode cc pc = .ok (.iastore, 1)) {v : Int32} (kk : ∀ (H1 : Heap) (locs1 : List Loc), bd_Rep E (bd_up xm 35 w j v) ym om H1 → va_S (bd_A E) H0 H1 locs1 → W p l e R s m args below meth c H1 locs1 cells slots Q (F0 m (pc + 1) ls rest)) : W p l e R s m args below meth c H locs cells slots Q (F0 m pc ls (.int v :: .int (nI j) :: .ref (bd_ea E 5 w 0) :: rest)) := by
  obtain ⟨q, hq⟩ := bd_pos (f := 5) (w := w) (k := 0) ⟨by decide, hw, by decide⟩
  refine va_iast (D := bd_eD E) C.1.1 C.1.2.1 C.2.1 hR.P hR.D hS q 0 (bd_ws_at hq) rfl (vp_in_nI hj (by decide)) hdg (fun H1 locs1 hP _ hS1 => kk H1 locs1 (bd_back hR hq ?_ hP) hS1)
  rw [nI_clamp (Nat.lt_trans hj (by decide))]
  exact bd_upX (F := 35) (kc := 0) (by simp only [bd_ce, bd_fam]; simp [bd_ce]; funext z; simp [bd_up, upd]) (fun h => absurd h (by decide)) (fun _ => ⟨rfl, rfl⟩)
theorem bd_al_5 (C : bd_Cx E p m c cc nL s args own) (hR : bd_Rep E xm ym om H) (hw : w < 2) (hdg : decode cc pc = .ok (.arraylength, 1)) (kk : W p l e R s m args below meth c H locs cells slots Q (F0 m (pc + 1) ls (.int 4 :: rest))) : W p l e R s m args below meth c H locs cells slots Q (F0 m pc ls (.ref (bd_ea E 5 w 0) :: rest)) := by
  obtain ⟨q, hq⟩ := bd_pos (f := 5) (w := w) (k := 0) ⟨by decide, hw, by decide⟩
  exact va_alen (D := bd_eD E) C.1.1 C.1.2.1 C.2.1 hR.P q 0 (bd_ws_at hq) rfl rfl hdg kk
theorem bd_ld_6 (C : bd_Cx E p m c cc nL s args own) (hR : bd_Rep E xm ym om H) (hw : w < 2) {j : Nat} (hj : j < 4) (hdg : decode cc pc = .ok (.iaload, 1)) (kk : W p l e R s m args below meth c H locs cells slots Q (F0 m (pc + 1) ls (.int (xm 36 w j) :: rest))) : W p l e R s m args below meth c H locs cells slots Q (F0 m pc ls (.int (nI j) :: .ref (bd_ea E 6 w 0) :: rest)) := by
  obtain ⟨q, hq⟩ := bd_pos (f := 6) (w := w) (k := 0) ⟨by decide, hw, by decide⟩
  refine va_iald (D := bd_eD E) C.1.1 C.1.2.1 C.2.1 hR.P q 0 (bd_ws_at hq) rfl (vp_in_nI hj (by decide)) hdg ?_
  rw [nI_clamp (Nat.lt_trans hj (by decide))]
  exact kk
theorem bd_st_6 (C : bd_Cx E p m c cc nL s args own) (hR : bd_Rep E xm ym om H) (hS : va_S (bd_A E) H0 H locs) (hw : w < 2) {j : Nat} (hj : j < 4) (hdg : decode cc pc = .ok (.iastore, 1)) {v : Int32} (kk : ∀ (H1 : Heap) (locs1 : List Loc), bd_Rep E (bd_up xm 36 w j v) ym om H1 → va_S (bd_A E) H0 H1 locs1 → W p l e R s m args below meth c H1 locs1 cells slots Q (F0 m (pc + 1) ls rest)) : W p l e R s m args below meth c H locs cells slots Q (F0 m pc ls (.int v :: .int (nI j) :: .ref (bd_ea E 6 w 0) :: rest)) := by
  obtain ⟨q, hq⟩ := bd_pos (f := 6) (w := w) (k := 0) ⟨by decide, hw, by decide⟩
  refine va_iast (D := bd_eD E) C.1.1 C.1.2.1 C.2.1 hR.P hR.D hS q 0 (bd_ws_at hq) rfl (vp_in_nI hj (by decide)) hdg (fun H1 locs1 hP _ hS1 => kk H1 locs1 (bd_back hR hq ?_ hP) hS1)
  rw [nI_clamp (Nat.lt_trans hj (by decide))]
  exact bd_upX (F := 36) (kc := 0) (by simp only [bd_ce, bd_fam]; simp [bd_ce]; funext z; simp [bd_up, upd]) (fun h => absurd h (by decide)) (fun _ => ⟨rfl, rfl⟩)
theorem bd_al_6 (C : bd_Cx E p m c cc nL s args own) (hR : bd_Rep E xm ym om H) (hw : w < 2) (hdg : decode cc pc = .ok (.arraylength, 1)) (kk : W p l e R s m args below meth c H locs cells slots Q (F0 m (pc + 1) ls (.int 4 :: rest))) : W p l e R s m args below meth c H locs cells slots Q (F0 m pc ls (.ref (bd_ea E 6 w 0) :: rest)) := by
  obtain ⟨q, hq⟩ := bd_pos (f := 6) (w := w) (k := 0) ⟨by decide, hw, by decide⟩
  exact va_alen (D := bd_eD E) C.1.1 C.1.2.1 C.2.1 hR.P q 0 (bd_ws_at hq) rfl rfl hdg kk
theorem bd_ld_8 (C : bd_Cx E p m c cc nL s args own) (hR : bd_Rep E xm ym om H) (hw : w < 2) (hk : k < 24) {j : Nat} (hj : j < 4) (hdg : decode cc pc = .ok (.iaload, 1)) (kk : W p l e R s m args below meth c H locs cells slots Q (F0 m (pc + 1) ls (.int (xm (j + 1000) w k) :: rest))) : W p l e R s m args below meth c H locs cells slots Q (F0 m pc ls (.int (nI j) :: .ref (bd_ea E 8 w k) :: rest)) := by
  obtain ⟨q, hq⟩ := bd_pos (f := 8) (w := w) (k := k) ⟨by decide, hw, hk⟩
  refine va_iald (D := bd_eD E) C.1.1 C.1.2.1 C.2.1 hR.P q 0 (bd_ws_at hq) rfl (vp_in_nI hj (by decide)) hdg ?_
  rw [nI_clamp (Nat.lt_trans hj (by decide))]
  exact kk
theorem bd_st_8 (C : bd_Cx E p m c cc nL s args own) (hR : bd_Rep E xm ym om H) (hS : va_S (bd_A E) H0 H locs) (hw : w < 2) (hk : k < 24) {j : Nat} (hj : j < 4) (hdg : decode cc pc = .ok (.iastore, 1)) {v : Int32} (kk : ∀ (H1 : Heap) (locs1 : List Loc), bd_Rep E (bd_up xm (j + 1000) w k v) ym om H1 → va_S (bd_A E) H0 H1 locs1 → W p l e R s m args below meth c H1 locs1 cells slots Q (F0 m (pc + 1) ls rest)) : W p l e R s m args below meth c H locs cells slots Q (F0 m pc ls (.int v :: .int (nI j) :: .ref (bd_ea E 8 w k) :: rest)) := by
  obtain ⟨q, hq⟩ := bd_pos (f := 8) (w := w) (k := k) ⟨by decide, hw, hk⟩
  refine va_iast (D := bd_eD E) C.1.1 C.1.2.1 C.2.1 hR.P hR.D hS q 0 (bd_ws_at hq) rfl (vp_in_nI hj (by decide)) hdg (fun H1 locs1 hP _ hS1 => kk H1 locs1 (bd_back hR hq ?_ hP) hS1)
  rw [nI_clamp (Nat.lt_trans hj (by decide))]
  have hf : bd_fam (j + 1000) = 8 := by simp only [bd_fam]; repeat (first | rw [if_neg (by omega)] | rfl)
  have e9 : (fun z => bd_up xm (j + 1000) w k v (z + 1000) w k) = upd (fun z => xm (z + 1000) w k) j v := funext fun z => by
    by_cases hz : z = j
    · subst hz
      simp [bd_up, upd]
    · rw [upd, if_neg hz, bd_up_n (by omega)]
  have h9 := bd_upX (E := E) (xm := xm) (ym := ym) (om := om) (F := j + 1000) (w := w) (kk := k) (kc := k) (v := v) (e := bd_iA E 4 (upd (fun z => xm (z + 1000) w k) j v)) (by
    rw [hf]
    simp only [bd_ce]
    rw [e9]) (fun _ => rfl) (fun h => absurd h (by rw [hf]; decide))
  rw [hf] at h9
  exact h9
theorem bd_al_8 (C : bd_Cx E p m c cc nL s args own) (hR : bd_Rep E xm ym om H) (hw : w < 2) (hk : k < 24) (hdg : decode cc pc = .ok (.arraylength, 1)) (kk : W p l e R s m args below meth c H locs cells slots Q (F0 m (pc + 1) ls (.int 4 :: rest))) : W p l e R s m args below meth c H locs cells slots Q (F0 m pc ls (.ref (bd_ea E 8 w k) :: rest)) := by
  obtain ⟨q, hq⟩ := bd_pos (f := 8) (w := w) (k := k) ⟨by decide, hw, hk⟩
  exact va_alen (D := bd_eD E) C.1.1 C.1.2.1 C.2.1 hR.P q 0 (bd_ws_at hq) rfl rfl hdg kk
theorem bd_ld_13 (C : bd_Cx E p m c cc nL s args own) (hR : bd_Rep E xm ym om H) {j : Nat} (hj : j < 96) (hdg : decode cc pc = .ok (.iaload, 1)) (kk : W p l e R s m args below meth c H locs cells slots Q (F0 m (pc + 1) ls (.int (ym 13 0 j) :: rest))) : W p l e R s m args below meth c H locs cells slots Q (F0 m pc ls (.int (nI j) :: .ref (bd_ea E 13 0 0) :: rest)) := by
  obtain ⟨q, hq⟩ := bd_pos (f := 13) (w := 0) (k := 0) ⟨by decide, by decide, by decide⟩
  refine va_iald (D := bd_eD E) C.1.1 C.1.2.1 C.2.1 hR.P q 0 (bd_ws_at hq) rfl (vp_in_nI hj (by decide)) hdg ?_
  rw [nI_clamp (Nat.lt_trans hj (by decide))]
  exact kk
theorem bd_st_13 (C : bd_Cx E p m c cc nL s args own) (hR : bd_Rep E xm ym om H) (hS : va_S (bd_A E) H0 H locs) {j : Nat} (hj : j < 96) (hdg : decode cc pc = .ok (.iastore, 1)) {v : Int32} (kk : ∀ (H1 : Heap) (locs1 : List Loc), bd_Rep E xm (bd_up ym 13 0 j v) om H1 → va_S (bd_A E) H0 H1 locs1 → W p l e R s m args below meth c H1 locs1 cells slots Q (F0 m (pc + 1) ls rest)) : W p l e R s m args below meth c H locs cells slots Q (F0 m pc ls (.int v :: .int (nI j) :: .ref (bd_ea E 13 0 0) :: rest)) := by
  obtain ⟨q, hq⟩ := bd_pos (f := 13) (w := 0) (k := 0) ⟨by decide, by decide, by decide⟩
  refine va_iast (D := bd_eD E) C.1.1 C.1.2.1 C.2.1 hR.P hR.D hS q 0 (bd_ws_at hq) rfl (vp_in_nI hj (by decide)) hdg (fun H1 locs1 hP _ hS1 => kk H1 locs1 (bd_back hR hq ?_ hP) hS1)
  rw [nI_clamp (Nat.lt_trans hj (by decide))]
  exact bd_upY (F := 13) (by simp only [bd_ce, bd_fmY]; simp [bd_ce]; funext z; simp [bd_up, upd]) rfl
theorem bd_al_13 (C : bd_Cx E p m c cc nL s args own) (hR : bd_Rep E xm ym om H) (hdg : decode cc pc = .ok (.arraylength, 1)) (kk : W p l e R s m args below meth c H locs cells slots Q (F0 m (pc + 1) ls (.int 96 :: rest))) : W p l e R s m args below meth c H locs cells slots Q (F0 m pc ls (.ref (bd_ea E 13 0 0) :: rest)) := by
  obtain ⟨q, hq⟩ := bd_pos (f := 13) (w := 0) (k := 0) ⟨by decide, by decide, by decide⟩
  exact va_alen (D := bd_eD E) C.1.1 C.1.2.1 C.2.1 hR.P q 0 (bd_ws_at hq) rfl rfl hdg kk
theorem bd_ld_14 (C : bd_Cx E p m c cc nL s args own) (hR : bd_Rep E xm ym om H) {j : Nat} (hj : j < 6) (hdg : decode cc pc = .ok (.iaload, 1)) (kk : W p l e R s m args below meth c H locs cells slots Q (F0 m (pc + 1) ls (.int (ym 14 0 j) :: rest))) : W p l e R s m args below meth c H locs cells slots Q (F0 m pc ls (.int (nI j) :: .ref (bd_ea E 14 0 0) :: rest)) := by
  obtain ⟨q, hq⟩ := bd_pos (f := 14) (w := 0) (k := 0) ⟨by decide, by decide, by decide⟩
  refine va_iald (D := bd_eD E) C.1.1 C.1.2.1 C.2.1 hR.P q 0 (bd_ws_at hq) rfl (vp_in_nI hj (by decide)) hdg ?_
  rw [nI_clamp (Nat.lt_trans hj (by decide))]
  exact kk
theorem bd_st_14 (C : bd_Cx E p m c cc nL s args own) (hR : bd_Rep E xm ym om H) (hS : va_S (bd_A E) H0 H locs) {j : Nat} (hj : j < 6) (hdg : decode cc pc = .ok (.iastore, 1)) {v : Int32} (kk : ∀ (H1 : Heap) (locs1 : List Loc), bd_Rep E xm (bd_up ym 14 0 j v) om H1 → va_S (bd_A E) H0 H1 locs1 → W p l e R s m args below meth c H1 locs1 cells slots Q (F0 m (pc + 1) ls rest)) : W p l e R s m args below meth c H locs cells slots Q (F0 m pc ls (.int v :: .int (nI j) :: .ref (bd_ea E 14 0 0) :: rest)) := by
  obtain ⟨q, hq⟩ := bd_pos (f := 14) (w := 0) (k := 0) ⟨by decide, by decide, by decide⟩
  refine va_iast (D := bd_eD E) C.1.1 C.1.2.1 C.2.1 hR.P hR.D hS q 0 (bd_ws_at hq) rfl (vp_in_nI hj (by decide)) hdg (fun H1 locs1 hP _ hS1 => kk H1 locs1 (bd_back hR hq ?_ hP) hS1)
  rw [nI_clamp (Nat.lt_trans hj (by decide))]
  exact bd_upY (F := 14) (by simp only [bd_ce, bd_fmY]; simp [bd_ce]; funext z; simp [bd_up, upd]) rfl
theorem bd_al_14 (C : bd_Cx E p m c cc nL s args own) (hR : bd_Rep E xm ym om H) (hdg : decode cc pc = .ok (.arraylength, 1)) (kk : W p l e R s m args below meth c H locs cells slots Q (F0 m (pc + 1) ls (.int 6 :: rest))) : W p l e R s m args below meth c H locs cells slots Q (F0 m pc ls (.ref (bd_ea E 14 0 0) :: rest)) := by
  obtain ⟨q, hq⟩ := bd_pos (f := 14) (w := 0) (k := 0) ⟨by decide, by decide, by decide⟩
  exact va_alen (D := bd_eD E) C.1.1 C.1.2.1 C.2.1 hR.P q 0 (bd_ws_at hq) rfl rfl hdg kk
theorem bd_ld_15 (C : bd_Cx E p m c cc nL s args own) (hR : bd_Rep E xm ym om H) {j : Nat} (hj : j < 48) (hdg : decode cc pc = .ok (.iaload, 1)) (kk : W p l e R s m args below meth c H locs cells slots Q (F0 m (pc + 1) ls (.int (ym 15 0 j) :: rest))) : W p l e R s m args below meth c H locs cells slots Q (F0 m pc ls (.int (nI j) :: .ref (bd_ea E 15 0 0) :: rest)) := by
  obtain ⟨q, hq⟩ := bd_pos (f := 15) (w := 0) (k := 0) ⟨by decide, by decide, by decide⟩
  refine va_iald (D := bd_eD E) C.1.1 C.1.2.1 C.2.1 hR.P q 0 (bd_ws_at hq) rfl (vp_in_nI hj (by decide)) hdg ?_
  rw [nI_clamp (Nat.lt_trans hj (by decide))]
  exact kk
theorem bd_st_15 (C : bd_Cx E p m c cc nL s args own) (hR : bd_Rep E xm ym om H) (hS : va_S (bd_A E) H0 H locs) {j : Nat} (hj : j < 48) (hdg : decode cc pc = .ok (.iastore, 1)) {v : Int32} (kk : ∀ (H1 : Heap) (locs1 : List Loc), bd_Rep E xm (bd_up ym 15 0 j v) om H1 → va_S (bd_A E) H0 H1 locs1 → W p l e R s m args below meth c H1 locs1 cells slots Q (F0 m (pc + 1) ls rest)) : W p l e R s m args below meth c H locs cells slots Q (F0 m pc ls (.int v :: .int (nI j) :: .ref (bd_ea E 15 0 0) :: rest)) := by
  obtain ⟨q, hq⟩ := bd_pos (f := 15) (w := 0) (k := 0) ⟨by decide, by decide, by decide⟩
  refine va_iast (D := bd_eD E) C.1.1 C.1.2.1 C.2.1 hR.P hR.D hS q 0 (bd_ws_at hq) rfl (vp_in_nI hj (by decide)) hdg (fun H1 locs1 hP _ hS1 => kk H1 locs1 (bd_back hR hq ?_ hP) hS1)
  rw [nI_clamp (Nat.lt_trans hj (by decide))]
  exact bd_upY (F := 15) (by simp only [bd_ce, bd_fmY]; simp [bd_ce]; funext z; simp [bd_up, upd]) rfl
theorem bd_al_15 (C : bd_Cx E p m c cc nL s args own) (hR : bd_Rep E xm ym om H) (hdg : decode cc pc = .ok (.arraylength, 1)) (kk : W p l e R s m args below meth c H locs cells slots Q (F0 m (pc + 1) ls (.int 48 :: rest))) : W p l e R s m args below meth c H locs cells slots Q (F0 m pc ls (.ref (bd_ea E 15 0 0) :: rest)) := by
  obtain ⟨q, hq⟩ := bd_pos (f := 15) (w := 0) (k := 0) ⟨by decide, by decide, by decide⟩
  exact va_alen (D := bd_eD E) C.1.1 C.1.2.1 C.2.1 hR.P q 0 (bd_ws_at hq) rfl rfl hdg kk
theorem bd_ld_16 (C : bd_Cx E p m c cc nL s args own) (hR : bd_Rep E xm ym om H) {j : Nat} (hj : j < 4) (hdg : decode cc pc = .ok (.iaload, 1)) (kk : W p l e R s m args below meth c H locs cells slots Q (F0 m (pc + 1) ls (.int (ym 16 0 j) :: rest))) : W p l e R s m args below meth c H locs cells slots Q (F0 m pc ls (.int (nI j) :: .ref (bd_ea E 16 0 0) :: rest)) := by
  obtain ⟨q, hq⟩ := bd_pos (f := 16) (w := 0) (k := 0) ⟨by decide, by decide, by decide⟩
  refine va_iald (D := bd_eD E) C.1.1 C.1.2.1 C.2.1 hR.P q 0 (bd_ws_at hq) rfl (vp_in_nI hj (by decide)) hdg ?_
  rw [nI_clamp (Nat.lt_trans hj (by decide))]
  exact kk
theorem bd_st_16 (C : bd_Cx E p m c cc nL s args own) (hR : bd_Rep E xm ym om H) (hS : va_S (bd_A E) H0 H locs) {j : Nat} (hj : j < 4) (hdg : decode cc pc = .ok (.iastore, 1)) {v : Int32} (kk : ∀ (H1 : Heap) (locs1 : List Loc), bd_Rep E xm (bd_up ym 16 0 j v) om H1 → va_S (bd_A E) H0 H1 locs1 → W p l e R s m args below meth c H1 locs1 cells slots Q (F0 m (pc + 1) ls rest)) : W p l e R s m args below meth c H locs cells slots Q (F0 m pc ls (.int v :: .int (nI j) :: .ref (bd_ea E 16 0 0) :: rest)) := by
  obtain ⟨q, hq⟩ := bd_pos (f := 16) (w := 0) (k := 0) ⟨by decide, by decide, by decide⟩
  refine va_iast (D := bd_eD E) C.1.1 C.1.2.1 C.2.1 hR.P hR.D hS q 0 (bd_ws_at hq) rfl (vp_in_nI hj (by decide)) hdg (fun H1 locs1 hP _ hS1 => kk H1 locs1 (bd_back hR hq ?_ hP) hS1)
  rw [nI_clamp (Nat.lt_trans hj (by decide))]
  exact bd_upY (F := 16) (by simp only [bd_ce, bd_fmY]; simp [bd_ce]; funext z; simp [bd_up, upd]) rfl
theorem bd_al_16 (C : bd_Cx E p m c cc nL s args own) (hR : bd_Rep E xm ym om H) (hdg : decode cc pc = .ok (.arraylength, 1)) (kk : W p l e R s m args below meth c H locs cells slots Q (F0 m (pc + 1) ls (.int 4 :: rest))) : W p l e R s m args below meth c H locs cells slots Q (F0 m pc ls (.ref (bd_ea E 16 0 0) :: rest)) := by
  obtain ⟨q, hq⟩ := bd_pos (f := 16) (w := 0) (k := 0) ⟨by decide, by decide, by decide⟩
  exact va_alen (D := bd_eD E) C.1.1 C.1.2.1 C.2.1 hR.P q 0 (bd_ws_at hq) rfl rfl hdg kk
theorem bd_ld_17 (C : bd_Cx E p m c cc nL s args own) (hR : bd_Rep E xm ym om H) {j : Nat} (hj : j < 4) (hdg : decode cc pc = .ok (.iaload, 1)) (kk : W p l e R s m args below meth c H locs cells slots Q (F0 m (pc + 1) ls (.int (ym 17 0 j) :: rest))) : W p l e R s m args below meth c H locs cells slots Q (F0 m pc ls (.int (nI j) :: .ref (bd_ea E 17 0 0) :: rest)) := by
  obtain ⟨q, hq⟩ := bd_pos (f := 17) (w := 0) (k := 0) ⟨by decide, by decide, by decide⟩
  refine va_iald (D := bd_eD E) C.1.1 C.1.2.1 C.2.1 hR.P q 0 (bd_ws_at hq) rfl (vp_in_nI hj (by decide)) hdg ?_
  rw [nI_clamp (Nat.lt_trans hj (by decide))]
  exact kk
theorem bd_st_17 (C : bd_Cx E p m c cc nL s args own) (hR : bd_Rep E xm ym om H) (hS : va_S (bd_A E) H0 H locs) {j : Nat} (hj : j < 4) (hdg : decode cc pc = .ok (.iastore, 1)) {v : Int32} (kk : ∀ (H1 : Heap) (locs1 : List Loc), bd_Rep E xm (bd_up ym 17 0 j v) om H1 → va_S (bd_A E) H0 H1 locs1 → W p l e R s m args below meth c H1 locs1 cells slots Q (F0 m (pc + 1) ls rest)) : W p l e R s m args below meth c H locs cells slots Q (F0 m pc ls (.int v :: .int (nI j) :: .ref (bd_ea E 17 0 0) :: rest)) := by
  obtain ⟨q, hq⟩ := bd_pos (f := 17) (w := 0) (k := 0) ⟨by decide, by decide, by decide⟩
  refine va_iast (D := bd_eD E) C.1.1 C.1.2.1 C.2.1 hR.P hR.D hS q 0 (bd_ws_at hq) rfl (vp_in_nI hj (by decide)) hdg (fun H1 locs1 hP _ hS1 => kk H1 locs1 (bd_back hR hq ?_ hP) hS1)
  rw [nI_clamp (Nat.lt_trans hj (by decide))]
  exact bd_upY (F := 17) (by simp only [bd_ce, bd_fmY]; simp [bd_ce]; funext z; simp [bd_up, upd]) rfl
theorem bd_al_17 (C : bd_Cx E p m c cc nL s args own) (hR : bd_Rep E xm ym om H) (hdg : decode cc pc = .ok (.arraylength, 1)) (kk : W p l e R s m args below meth c H locs cells slots Q (F0 m (pc + 1) ls (.int 4 :: rest))) : W p l e R s m args below meth c H locs cells slots Q (F0 m pc ls (.ref (bd_ea E 17 0 0) :: rest)) := by
  obtain ⟨q, hq⟩ := bd_pos (f := 17) (w := 0) (k := 0) ⟨by decide, by decide, by decide⟩
  exact va_alen (D := bd_eD E) C.1.1 C.1.2.1 C.2.1 hR.P q 0 (bd_ws_at hq) rfl rfl hdg kk
theorem bd_ld_19 (C : bd_Cx E p m c cc nL s args own) (hR : bd_Rep E xm ym om H) (hw : w < 2) {j : Nat} (hj : j < 24) (hdg : decode cc pc = .ok (.iaload, 1)) (kk : W p l e R s m args below meth c H locs cells slots Q (F0 m (pc + 1) ls (.int (ym 19 w j) :: rest))) : W p l e R s m args below meth c H locs cells slots Q (F0 m pc ls (.int (nI j) :: .ref (bd_ea E 19 w 0) :: rest)) := by
  obtain ⟨q, hq⟩ := bd_pos (f := 19) (w := w) (k := 0) ⟨by decide, hw, by decide⟩
  refine va_iald (D := bd_eD E) C.1.1 C.1.2.1 C.2.1 hR.P q 0 (bd_ws_at hq) rfl (vp_in_nI hj (by decide)) hdg ?_
  rw [nI_clamp (Nat.lt_trans hj (by decide))]
  exact kk
theorem bd_st_19 (C : bd_Cx E p m c cc nL s args own) (hR : bd_Rep E xm ym om H) (hS : va_S (bd_A E) H0 H locs) (hw : w < 2) {j : Nat} (hj : j < 24) (hdg : decode cc pc = .ok (.iastore, 1)) {v : Int32} (kk : ∀ (H1 : Heap) (locs1 : List Loc), bd_Rep E xm (bd_up ym 19 w j v) om H1 → va_S (bd_A E) H0 H1 locs1 → W p l e R s m args below meth c H1 locs1 cells slots Q (F0 m (pc + 1) ls rest)) : W p l e R s m args below meth c H locs cells slots Q (F0 m pc ls (.int v :: .int (nI j) :: .ref (bd_ea E 19 w 0) :: rest)) := by
  obtain ⟨q, hq⟩ := bd_pos (f := 19) (w := w) (k := 0) ⟨by decide, hw, by decide⟩
  refine va_iast (D := bd_eD E) C.1.1 C.1.2.1 C.2.1 hR.P hR.D hS q 0 (bd_ws_at hq) rfl (vp_in_nI hj (by decide)) hdg (fun H1 locs1 hP _ hS1 => kk H1 locs1 (bd_back hR hq ?_ hP) hS1)
  rw [nI_clamp (Nat.lt_trans hj (by decide))]
  exact bd_upY (F := 19) (by simp only [bd_ce, bd_fmY]; simp [bd_ce]; funext z; simp [bd_up, upd]) rfl
theorem bd_al_19 (C : bd_Cx E p m c cc nL s args own) (hR : bd_Rep E xm ym om H) (hw : w < 2) (hdg : decode cc pc = .ok (.arraylength, 1)) (kk : W p l e R s m args below meth c H locs cells slots Q (F0 m (pc + 1) ls (.int 24 :: rest))) : W p l e R s m args below meth c H locs cells slots Q (F0 m pc ls (.ref (bd_ea E 19 w 0) :: rest)) := by
  obtain ⟨q, hq⟩ := bd_pos (f := 19) (w := w) (k := 0) ⟨by decide, hw, by decide⟩
  exact va_alen (D := bd_eD E) C.1.1 C.1.2.1 C.2.1 hR.P q 0 (bd_ws_at hq) rfl rfl hdg kk
theorem bd_ld_20 (C : bd_Cx E p m c cc nL s args own) (hR : bd_Rep E xm ym om H) (hw : w < 2) {j : Nat} (hj : j < 24) (hdg : decode cc pc = .ok (.iaload, 1)) (kk : W p l e R s m args below meth c H locs cells slots Q (F0 m (pc + 1) ls (.int (ym 20 w j) :: rest))) : W p l e R s m args below meth c H locs cells slots Q (F0 m pc ls (.int (nI j) :: .ref (bd_ea E 20 w 0) :: rest)) := by
  obtain ⟨q, hq⟩ := bd_pos (f := 20) (w := w) (k := 0) ⟨by decide, hw, by decide⟩
  refine va_iald (D := bd_eD E) C.1.1 C.1.2.1 C.2.1 hR.P q 0 (bd_ws_at hq) rfl (vp_in_nI hj (by decide)) hdg ?_
  rw [nI_clamp (Nat.lt_trans hj (by decide))]
  exact kk
theorem bd_st_20 (C : bd_Cx E p m c cc nL s args own) (hR : bd_Rep E xm ym om H) (hS : va_S (bd_A E) H0 H locs) (hw : w < 2) {j : Nat} (hj : j < 24) (hdg : decode cc pc = .ok (.iastore, 1)) {v : Int32} (kk : ∀ (H1 : Heap) (locs1 : List Loc), bd_Rep E xm (bd_up ym 20 w j v) om H1 → va_S (bd_A E) H0 H1 locs1 → W p l e R s m args below meth c H1 locs1 cells slots Q (F0 m (pc + 1) ls rest)) : W p l e R s m args below meth c H locs cells slots Q (F0 m pc ls (.int v :: .int (nI j) :: .ref (bd_ea E 20 w 0) :: rest)) := by
  obtain ⟨q, hq⟩ := bd_pos (f := 20) (w := w) (k := 0) ⟨by decide, hw, by decide⟩
  refine va_iast (D := bd_eD E) C.1.1 C.1.2.1 C.2.1 hR.P hR.D hS q 0 (bd_ws_at hq) rfl (vp_in_nI hj (by decide)) hdg (fun H1 locs1 hP _ hS1 => kk H1 locs1 (bd_back hR hq ?_ hP) hS1)
  rw [nI_clamp (Nat.lt_trans hj (by decide))]
  exact bd_upY (F := 20) (by simp only [bd_ce, bd_fmY]; simp [bd_ce]; funext z; simp [bd_up, upd]) rfl
theorem bd_al_20 (C : bd_Cx E p m c cc nL s args own) (hR : bd_Rep E xm ym om H) (hw : w < 2) (hdg : decode cc pc = .ok (.arraylength, 1)) (kk : W p l e R s m args below meth c H locs cells slots Q (F0 m (pc + 1) ls (.int 24 :: rest))) : W p l e R s m args below meth c H locs cells slots Q (F0 m pc ls (.ref (bd_ea E 20 w 0) :: rest)) := by
  obtain ⟨q, hq⟩ := bd_pos (f := 20) (w := w) (k := 0) ⟨by decide, hw, by decide⟩
  exact va_alen (D := bd_eD E) C.1.1 C.1.2.1 C.2.1 hR.P q 0 (bd_ws_at hq) rfl rfl hdg kk
theorem bd_ld_21 (C : bd_Cx E p m c cc nL s args own) (hR : bd_Rep E xm ym om H) (hw : w < 2) {j : Nat} (hj : j < 24) (hdg : decode cc pc = .ok (.iaload, 1)) (kk : W p l e R s m args below meth c H locs cells slots Q (F0 m (pc + 1) ls (.int (ym 21 w j) :: rest))) : W p l e R s m args below meth c H locs cells slots Q (F0 m pc ls (.int (nI j) :: .ref (bd_ea E 21 w 0) :: rest)) := by
  obtain ⟨q, hq⟩ := bd_pos (f := 21) (w := w) (k := 0) ⟨by decide, hw, by decide⟩
  refine va_iald (D := bd_eD E) C.1.1 C.1.2.1 C.2.1 hR.P q 0 (bd_ws_at hq) rfl (vp_in_nI hj (by decide)) hdg ?_
  rw [nI_clamp (Nat.lt_trans hj (by decide))]
  exact kk
theorem bd_st_21 (C : bd_Cx E p m c cc nL s args own) (hR : bd_Rep E xm ym om H) (hS : va_S (bd_A E) H0 H locs) (hw : w < 2) {j : Nat} (hj : j < 24) (hdg : decode cc pc = .ok (.iastore, 1)) {v : Int32} (kk : ∀ (H1 : Heap) (locs1 : List Loc), bd_Rep E xm (bd_up ym 21 w j v) om H1 → va_S (bd_A E) H0 H1 locs1 → W p l e R s m args below meth c H1 locs1 cells slots Q (F0 m (pc + 1) ls rest)) : W p l e R s m args below meth c H locs cells slots Q (F0 m pc ls (.int v :: .int (nI j) :: .ref (bd_ea E 21 w 0) :: rest)) := by
  obtain ⟨q, hq⟩ := bd_pos (f := 21) (w := w) (k := 0) ⟨by decide, hw, by decide⟩
  refine va_iast (D := bd_eD E) C.1.1 C.1.2.1 C.2.1 hR.P hR.D hS q 0 (bd_ws_at hq) rfl (vp_in_nI hj (by decide)) hdg (fun H1 locs1 hP _ hS1 => kk H1 locs1 (bd_back hR hq ?_ hP) hS1)
  rw [nI_clamp (Nat.lt_trans hj (by decide))]
  exact bd_upY (F := 21) (by simp only [bd_ce, bd_fmY]; simp [bd_ce]; funext z; simp [bd_up, upd]) rfl
theorem bd_al_21 (C : bd_Cx E p m c cc nL s args own) (hR : bd_Rep E xm ym om H) (hw : w < 2) (hdg : decode cc pc = .ok (.arraylength, 1)) (kk : W p l e R s m args below meth c H locs cells slots Q (F0 m (pc + 1) ls (.int 24 :: rest))) : W p l e R s m args below meth c H locs cells slots Q (F0 m pc ls (.ref (bd_ea E 21 w 0) :: rest)) := by
  obtain ⟨q, hq⟩ := bd_pos (f := 21) (w := w) (k := 0) ⟨by decide, hw, by decide⟩
  exact va_alen (D := bd_eD E) C.1.1 C.1.2.1 C.2.1 hR.P q 0 (bd_ws_at hq) rfl rfl hdg kk
theorem bd_ld_22 (C : bd_Cx E p m c cc nL s args own) (hR : bd_Rep E xm ym om H) (hw : w < 2) {j : Nat} (hj : j < 24) (hdg : decode cc pc = .ok (.iaload, 1)) (kk : W p l e R s m args below meth c H locs cells slots Q (F0 m (pc + 1) ls (.int (ym 22 w j) :: rest))) : W p l e R s m args below meth c H locs cells slots Q (F0 m pc ls (.int (nI j) :: .ref (bd_ea E 22 w 0) :: rest)) := by
  obtain ⟨q, hq⟩ := bd_pos (f := 22) (w := w) (k := 0) ⟨by decide, hw, by decide⟩
  refine va_iald (D := bd_eD E) C.1.1 C.1.2.1 C.2.1 hR.P q 0 (bd_ws_at hq) rfl (vp_in_nI hj (by decide)) hdg ?_
  rw [nI_clamp (Nat.lt_trans hj (by decide))]
  exact kk
theorem bd_st_22 (C : bd_Cx E p m c cc nL s args own) (hR : bd_Rep E xm ym om H) (hS : va_S (bd_A E) H0 H locs) (hw : w < 2) {j : Nat} (hj : j < 24) (hdg : decode cc pc = .ok (.iastore, 1)) {v : Int32} (kk : ∀ (H1 : Heap) (locs1 : List Loc), bd_Rep E xm (bd_up ym 22 w j v) om H1 → va_S (bd_A E) H0 H1 locs1 → W p l e R s m args below meth c H1 locs1 cells slots Q (F0 m (pc + 1) ls rest)) : W p l e R s m args below meth c H locs cells slots Q (F0 m pc ls (.int v :: .int (nI j) :: .ref (bd_ea E 22 w 0) :: rest)) := by
  obtain ⟨q, hq⟩ := bd_pos (f := 22) (w := w) (k := 0) ⟨by decide, hw, by decide⟩
  refine va_iast (D := bd_eD E) C.1.1 C.1.2.1 C.2.1 hR.P hR.D hS q 0 (bd_ws_at hq) rfl (vp_in_nI hj (by decide)) hdg (fun H1 locs1 hP _ hS1 => kk H1 locs1 (bd_back hR hq ?_ hP) hS1)
  rw [nI_clamp (Nat.lt_trans hj (by decide))]
  exact bd_upY (F := 22) (by simp only [bd_ce, bd_fmY]; simp [bd_ce]; funext z; simp [bd_up, upd]) rfl
theorem bd_al_22 (C : bd_Cx E p m c cc nL s args own) (hR : bd_Rep E xm ym om H) (hw : w < 2) (hdg : decode cc pc = .ok (.arraylength, 1)) (kk : W p l e R s m args below meth c H locs cells slots Q (F0 m (pc + 1) ls (.int 24 :: rest))) : W p l e R s m args below meth c H locs cells slots Q (F0 m pc ls (.ref (bd_ea E 22 w 0) :: rest)) := by
  obtain ⟨q, hq⟩ := bd_pos (f := 22) (w := w) (k := 0) ⟨by decide, hw, by decide⟩
  exact va_alen (D := bd_eD E) C.1.1 C.1.2.1 C.2.1 hR.P q 0 (bd_ws_at hq) rfl rfl hdg kk
theorem bd_ld_23 (C : bd_Cx E p m c cc nL s args own) (hR : bd_Rep E xm ym om H) (hw : w < 2) {j : Nat} (hj : j < 48) (hdg : decode cc pc = .ok (.iaload, 1)) (kk : W p l e R s m args below meth c H locs cells slots Q (F0 m (pc + 1) ls (.int (ym 23 w j) :: rest))) : W p l e R s m args below meth c H locs cells slots Q (F0 m pc ls (.int (nI j) :: .ref (bd_ea E 23 w 0) :: rest)) := by
  obtain ⟨q, hq⟩ := bd_pos (f := 23) (w := w) (k := 0) ⟨by decide, hw, by decide⟩
  refine va_iald (D := bd_eD E) C.1.1 C.1.2.1 C.2.1 hR.P q 0 (bd_ws_at hq) rfl (vp_in_nI hj (by decide)) hdg ?_
  rw [nI_clamp (Nat.lt_trans hj (by decide))]
  exact kk
theorem bd_st_23 (C : bd_Cx E p m c cc nL s args own) (hR : bd_Rep E xm ym om H) (hS : va_S (bd_A E) H0 H locs) (hw : w < 2) {j : Nat} (hj : j < 48) (hdg : decode cc pc = .ok (.iastore, 1)) {v : Int32} (kk : ∀ (H1 : Heap) (locs1 : List Loc), bd_Rep E xm (bd_up ym 23 w j v) om H1 → va_S (bd_A E) H0 H1 locs1 → W p l e R s m args below meth c H1 locs1 cells slots Q (F0 m (pc + 1) ls rest)) : W p l e R s m args below meth c H locs cells slots Q (F0 m pc ls (.int v :: .int (nI j) :: .ref (bd_ea E 23 w 0) :: rest)) := by
  obtain ⟨q, hq⟩ := bd_pos (f := 23) (w := w) (k := 0) ⟨by decide, hw, by decide⟩
  refine va_iast (D := bd_eD E) C.1.1 C.1.2.1 C.2.1 hR.P hR.D hS q 0 (bd_ws_at hq) rfl (vp_in_nI hj (by decide)) hdg (fun H1 locs1 hP _ hS1 => kk H1 locs1 (bd_back hR hq ?_ hP) hS1)
  rw [nI_clamp (Nat.lt_trans hj (by decide))]
  exact bd_upY (F := 23) (by simp only [bd_ce, bd_fmY]; simp [bd_ce]; funext z; simp [bd_up, upd]) rfl
theorem bd_al_23 (C : bd_Cx E p m c cc nL s args own) (hR : bd_Rep E xm ym om H) (hw : w < 2) (hdg : decode cc pc = .ok (.arraylength, 1)) (kk : W p l e R s m args below meth c H locs cells slots Q (F0 m (pc + 1) ls (.int 48 :: rest))) : W p l e R s m args below meth c H locs cells slots Q (F0 m pc ls (.ref (bd_ea E 23 w 0) :: rest)) := by
  obtain ⟨q, hq⟩ := bd_pos (f := 23) (w := w) (k := 0) ⟨by decide, hw, by decide⟩
  exact va_alen (D := bd_eD E) C.1.1 C.1.2.1 C.2.1 hR.P q 0 (bd_ws_at hq) rfl rfl hdg kk
theorem bd_ld_24 (C : bd_Cx E p m c cc nL s args own) (hR : bd_Rep E xm ym om H) (hw : w < 2) {j : Nat} (hj : j < 48) (hdg : decode cc pc = .ok (.iaload, 1)) (kk : W p l e R s m args below meth c H locs cells slots Q (F0 m (pc + 1) ls (.int (ym 24 w j) :: rest))) : W p l e R s m args below meth c H locs cells slots Q (F0 m pc ls (.int (nI j) :: .ref (bd_ea E 24 w 0) :: rest)) := by
  obtain ⟨q, hq⟩ := bd_pos (f := 24) (w := w) (k := 0) ⟨by decide, hw, by decide⟩
  refine va_iald (D := bd_eD E) C.1.1 C.1.2.1 C.2.1 hR.P q 0 (bd_ws_at hq) rfl (vp_in_nI hj (by decide)) hdg ?_
  rw [nI_clamp (Nat.lt_trans hj (by decide))]
  exact kk
theorem bd_st_24 (C : bd_Cx E p m c cc nL s args own) (hR : bd_Rep E xm ym om H) (hS : va_S (bd_A E) H0 H locs) (hw : w < 2) {j : Nat} (hj : j < 48) (hdg : decode cc pc = .ok (.iastore, 1)) {v : Int32} (kk : ∀ (H1 : Heap) (locs1 : List Loc), bd_Rep E xm (bd_up ym 24 w j v) om H1 → va_S (bd_A E) H0 H1 locs1 → W p l e R s m args below meth c H1 locs1 cells slots Q (F0 m (pc + 1) ls rest)) : W p l e R s m args below meth c H locs cells slots Q (F0 m pc ls (.int v :: .int (nI j) :: .ref (bd_ea E 24 w 0) :: rest)) := by
  obtain ⟨q, hq⟩ := bd_pos (f := 24) (w := w) (k := 0) ⟨by decide, hw, by decide⟩
  refine va_iast (D := bd_eD E) C.1.1 C.1.2.1 C.2.1 hR.P hR.D hS q 0 (bd_ws_at hq) rfl (vp_in_nI hj (by decide)) hdg (fun H1 locs1 hP _ hS1 => kk H1 locs1 (bd_back hR hq ?_ hP) hS1)
  rw [nI_clamp (Nat.lt_trans hj (by decide))]
  exact bd_upY (F := 24) (by simp only [bd_ce, bd_fmY]; simp [bd_ce]; funext z; simp [bd_up, upd]) rfl
theorem bd_al_24 (C : bd_Cx E p m c cc nL s args own) (hR : bd_Rep E xm ym om H) (hw : w < 2) (hdg : decode cc pc = .ok (.arraylength, 1)) (kk : W p l e R s m args below meth c H locs cells slots Q (F0 m (pc + 1) ls (.int 48 :: rest))) : W p l e R s m args below meth c H locs cells slots Q (F0 m pc ls (.ref (bd_ea E 24 w 0) :: rest)) := by
  obtain ⟨q, hq⟩ := bd_pos (f := 24) (w := w) (k := 0) ⟨by decide, hw, by decide⟩
  exact va_alen (D := bd_eD E) C.1.1 C.1.2.1 C.2.1 hR.P q 0 (bd_ws_at hq) rfl rfl hdg kk
theorem bd_ld_25 (C : bd_Cx E p m c cc nL s args own) (hR : bd_Rep E xm ym om H) (hw : w < 2) {j : Nat} (hj : j < 6) (hdg : decode cc pc = .ok (.iaload, 1)) (kk : W p l e R s m args below meth c H locs cells slots Q (F0 m (pc + 1) ls (.int (ym 25 w j) :: rest))) : W p l e R s m args below meth c H locs cells slots Q (F0 m pc ls (.int (nI j) :: .ref (bd_ea E 25 w 0) :: rest)) := by
  obtain ⟨q, hq⟩ := bd_pos (f := 25) (w := w) (k := 0) ⟨by decide, hw, by decide⟩
  refine va_iald (D := bd_eD E) C.1.1 C.1.2.1 C.2.1 hR.P q 0 (bd_ws_at hq) rfl (vp_in_nI hj (by decide)) hdg ?_
  rw [nI_clamp (Nat.lt_trans hj (by decide))]
  exact kk
theorem bd_st_25 (C : bd_Cx E p m c cc nL s args own) (hR : bd_Rep E xm ym om H) (hS : va_S (bd_A E) H0 H locs) (hw : w < 2) {j : Nat} (hj : j < 6) (hdg : decode cc pc = .ok (.iastore, 1)) {v : Int32} (kk : ∀ (H1 : Heap) (locs1 : List Loc), bd_Rep E xm (bd_up ym 25 w j v) om H1 → va_S (bd_A E) H0 H1 locs1 → W p l e R s m args below meth c H1 locs1 cells slots Q (F0 m (pc + 1) ls rest)) : W p l e R s m args below meth c H locs cells slots Q (F0 m pc ls (.int v :: .int (nI j) :: .ref (bd_ea E 25 w 0) :: rest)) := by
  obtain ⟨q, hq⟩ := bd_pos (f := 25) (w := w) (k := 0) ⟨by decide, hw, by decide⟩
  refine va_iast (D := bd_eD E) C.1.1 C.1.2.1 C.2.1 hR.P hR.D hS q 0 (bd_ws_at hq) rfl (vp_in_nI hj (by decide)) hdg (fun H1 locs1 hP _ hS1 => kk H1 locs1 (bd_back hR hq ?_ hP) hS1)
  rw [nI_clamp (Nat.lt_trans hj (by decide))]
  exact bd_upY (F := 25) (by simp only [bd_ce, bd_fmY]; simp [bd_ce]; funext z; simp [bd_up, upd]) rfl
theorem bd_al_25 (C : bd_Cx E p m c cc nL s args own) (hR : bd_Rep E xm ym om H) (hw : w < 2) (hdg : decode cc pc = .ok (.arraylength, 1)) (kk : W p l e R s m args below meth c H locs cells slots Q (F0 m (pc + 1) ls (.int 6 :: rest))) : W p l e R s m args below meth c H locs cells slots Q (F0 m pc ls (.ref (bd_ea E 25 w 0) :: rest)) := by
  obtain ⟨q, hq⟩ := bd_pos (f := 25) (w := w) (k := 0) ⟨by decide, hw, by decide⟩
  exact va_alen (D := bd_eD E) C.1.1 C.1.2.1 C.2.1 hR.P q 0 (bd_ws_at hq) rfl rfl hdg kk
theorem bd_ld_26 (C : bd_Cx E p m c cc nL s args own) (hR : bd_Rep E xm ym om H) (hw : w < 2) {j : Nat} (hj : j < 6) (hdg : decode cc pc = .ok (.iaload, 1)) (kk : W p l e R s m args below meth c H locs cells slots Q (F0 m (pc + 1) ls (.int (ym 26 w j) :: rest))) : W p l e R s m args below meth c H locs cells slots Q (F0 m pc ls (.int (nI j) :: .ref (bd_ea E 26 w 0) :: rest)) := by
  obtain ⟨q, hq⟩ := bd_pos (f := 26) (w := w) (k := 0) ⟨by decide, hw, by decide⟩
  refine va_iald (D := bd_eD E) C.1.1 C.1.2.1 C.2.1 hR.P q 0 (bd_ws_at hq) rfl (vp_in_nI hj (by decide)) hdg ?_
  rw [nI_clamp (Nat.lt_trans hj (by decide))]
  exact kk
theorem bd_st_26 (C : bd_Cx E p m c cc nL s args own) (hR : bd_Rep E xm ym om H) (hS : va_S (bd_A E) H0 H locs) (hw : w < 2) {j : Nat} (hj : j < 6) (hdg : decode cc pc = .ok (.iastore, 1)) {v : Int32} (kk : ∀ (H1 : Heap) (locs1 : List Loc), bd_Rep E xm (bd_up ym 26 w j v) om H1 → va_S (bd_A E) H0 H1 locs1 → W p l e R s m args below meth c H1 locs1 cells slots Q (F0 m (pc + 1) ls rest)) : W p l e R s m args below meth c H locs cells slots Q (F0 m pc ls (.int v :: .int (nI j) :: .ref (bd_ea E 26 w 0) :: rest)) := by
  obtain ⟨q, hq⟩ := bd_pos (f := 26) (w := w) (k := 0) ⟨by decide, hw, by decide⟩
  refine va_iast (D := bd_eD E) C.1.1 C.1.2.1 C.2.1 hR.P hR.D hS q 0 (bd_ws_at hq) rfl (vp_in_nI hj (by decide)) hdg (fun H1 locs1 hP _ hS1 => kk H1 locs1 (bd_back hR hq ?_ hP) hS1)
  rw [nI_clamp (Nat.lt_trans hj (by decide))]
  exact bd_upY (F := 26) (by simp only [bd_ce, bd_fmY]; simp [bd_ce]; funext z; simp [bd_up, upd]) rfl
theorem bd_al_26 (C : bd_Cx E p m c cc nL s args own) (hR : bd_Rep E xm ym om H) (hw : w < 2) (hdg : decode cc pc = .ok (.arraylength, 1)) (kk : W p l e R s m args below meth c H locs cells slots Q (F0 m (pc + 1) ls (.int 6 :: rest))) : W p l e R s m args below meth c H locs cells slots Q (F0 m pc ls (.ref (bd_ea E 26 w 0) :: rest)) := by
  obtain ⟨q, hq⟩ := bd_pos (f := 26) (w := w) (k := 0) ⟨by decide, hw, by decide⟩
  exact va_alen (D := bd_eD E) C.1.1 C.1.2.1 C.2.1 hR.P q 0 (bd_ws_at hq) rfl rfl hdg kk
theorem bd_ld_27 (C : bd_Cx E p m c cc nL s args own) (hR : bd_Rep E xm ym om H) (hw : w < 2) {j : Nat} (hj : j < 6) (hdg : decode cc pc = .ok (.iaload, 1)) (kk : W p l e R s m args below meth c H locs cells slots Q (F0 m (pc + 1) ls (.int (ym 27 w j) :: rest))) : W p l e R s m args below meth c H locs cells slots Q (F0 m pc ls (.int (nI j) :: .ref (bd_ea E 27 w 0) :: rest)) := by
  obtain ⟨q, hq⟩ := bd_pos (f := 27) (w := w) (k := 0) ⟨by decide, hw, by decide⟩
  refine va_iald (D := bd_eD E) C.1.1 C.1.2.1 C.2.1 hR.P q 0 (bd_ws_at hq) rfl (vp_in_nI hj (by decide)) hdg ?_
  rw [nI_clamp (Nat.lt_trans hj (by decide))]
  exact kk
theorem bd_st_27 (C : bd_Cx E p m c cc nL s args own) (hR : bd_Rep E xm ym om H) (hS : va_S (bd_A E) H0 H locs) (hw : w < 2) {j : Nat} (hj : j < 6) (hdg : decode cc pc = .ok (.iastore, 1)) {v : Int32} (kk : ∀ (H1 : Heap) (locs1 : List Loc), bd_Rep E xm (bd_up ym 27 w j v) om H1 → va_S (bd_A E) H0 H1 locs1 → W p l e R s m args below meth c H1 locs1 cells slots Q (F0 m (pc + 1) ls rest)) : W p l e R s m args below meth c H locs cells slots Q (F0 m pc ls (.int v :: .int (nI j) :: .ref (bd_ea E 27 w 0) :: rest)) := by
  obtain ⟨q, hq⟩ := bd_pos (f := 27) (w := w) (k := 0) ⟨by decide, hw, by decide⟩
  refine va_iast (D := bd_eD E) C.1.1 C.1.2.1 C.2.1 hR.P hR.D hS q 0 (bd_ws_at hq) rfl (vp_in_nI hj (by decide)) hdg (fun H1 locs1 hP _ hS1 => kk H1 locs1 (bd_back hR hq ?_ hP) hS1)
  rw [nI_clamp (Nat.lt_trans hj (by decide))]
  exact bd_upY (F := 27) (by simp only [bd_ce, bd_fmY]; simp [bd_ce]; funext z; simp [bd_up, upd]) rfl
theorem bd_al_27 (C : bd_Cx E p m c cc nL s args own) (hR : bd_Rep E xm ym om H) (hw : w < 2) (hdg : decode cc pc = .ok (.arraylength, 1)) (kk : W p l e R s m args below meth c H locs cells slots Q (F0 m (pc + 1) ls (.int 6 :: rest))) : W p l e R s m args below meth c H locs cells slots Q (F0 m pc ls (.ref (bd_ea E 27 w 0) :: rest)) := by
  obtain ⟨q, hq⟩ := bd_pos (f := 27) (w := w) (k := 0) ⟨by decide, hw, by decide⟩
  exact va_alen (D := bd_eD E) C.1.1 C.1.2.1 C.2.1 hR.P q 0 (bd_ws_at hq) rfl rfl hdg kk
theorem bd_ld_28 (C : bd_Cx E p m c cc nL s args own) (hR : bd_Rep E xm ym om H) (hw : w < 2) {j : Nat} (hj : j < 24) (hdg : decode cc pc = .ok (.iaload, 1)) (kk : W p l e R s m args below meth c H locs cells slots Q (F0 m (pc + 1) ls (.int (ym 28 w j) :: rest))) : W p l e R s m args below meth c H locs cells slots Q (F0 m pc ls (.int (nI j) :: .ref (bd_ea E 28 w 0) :: rest)) := by
  obtain ⟨q, hq⟩ := bd_pos (f := 28) (w := w) (k := 0) ⟨by decide, hw, by decide⟩
  refine va_iald (D := bd_eD E) C.1.1 C.1.2.1 C.2.1 hR.P q 0 (bd_ws_at hq) rfl (vp_in_nI hj (by decide)) hdg ?_
  rw [nI_clamp (Nat.lt_trans hj (by decide))]
  exact kk
theorem bd_st_28 (C : bd_Cx E p m c cc nL s args own) (hR : bd_Rep E xm ym om H) (hS : va_S (bd_A E) H0 H locs) (hw : w < 2) {j : Nat} (hj : j < 24) (hdg : decode cc pc = .ok (.iastore, 1)) {v : Int32} (kk : ∀ (H1 : Heap) (locs1 : List Loc), bd_Rep E xm (bd_up ym 28 w j v) om H1 → va_S (bd_A E) H0 H1 locs1 → W p l e R s m args below meth c H1 locs1 cells slots Q (F0 m (pc + 1) ls rest)) : W p l e R s m args below meth c H locs cells slots Q (F0 m pc ls (.int v :: .int (nI j) :: .ref (bd_ea E 28 w 0) :: rest)) := by
  obtain ⟨q, hq⟩ := bd_pos (f := 28) (w := w) (k := 0) ⟨by decide, hw, by decide⟩
  refine va_iast (D := bd_eD E) C.1.1 C.1.2.1 C.2.1 hR.P hR.D hS q 0 (bd_ws_at hq) rfl (vp_in_nI hj (by decide)) hdg (fun H1 locs1 hP _ hS1 => kk H1 locs1 (bd_back hR hq ?_ hP) hS1)
  rw [nI_clamp (Nat.lt_trans hj (by decide))]
  exact bd_upY (F := 28) (by simp only [bd_ce, bd_fmY]; simp [bd_ce]; funext z; simp [bd_up, upd]) rfl
theorem bd_al_28 (C : bd_Cx E p m c cc nL s args own) (hR : bd_Rep E xm ym om H) (hw : w < 2) (hdg : decode cc pc = .ok (.arraylength, 1)) (kk : W p l e R s m args below meth c H locs cells slots Q (F0 m (pc + 1) ls (.int 24 :: rest))) : W p l e R s m args below meth c H locs cells slots Q (F0 m pc ls (.ref (bd_ea E 28 w 0) :: rest)) := by
  obtain ⟨q, hq⟩ := bd_pos (f := 28) (w := w) (k := 0) ⟨by decide, hw, by decide⟩
  exact va_alen (D := bd_eD E) C.1.1 C.1.2.1 C.2.1 hR.P q 0 (bd_ws_at hq) rfl rfl hdg kk
theorem bd_ld_29 (C : bd_Cx E p m c cc nL s args own) (hR : bd_Rep E xm ym om H) (hw : w < 2) {j : Nat} (hj : j < 24) (hdg : decode cc pc = .ok (.iaload, 1)) (kk : W p l e R s m args below meth c H locs cells slots Q (F0 m (pc + 1) ls (.int (ym 29 w j) :: rest))) : W p l e R s m args below meth c H locs cells slots Q (F0 m pc ls (.int (nI j) :: .ref (bd_ea E 29 w 0) :: rest)) := by
  obtain ⟨q, hq⟩ := bd_pos (f := 29) (w := w) (k := 0) ⟨by decide, hw, by decide⟩
  refine va_iald (D := bd_eD E) C.1.1 C.1.2.1 C.2.1 hR.P q 0 (bd_ws_at hq) rfl (vp_in_nI hj (by decide)) hdg ?_
  rw [nI_clamp (Nat.lt_trans hj (by decide))]
  exact kk
theorem bd_st_29 (C : bd_Cx E p m c cc nL s args own) (hR : bd_Rep E xm ym om H) (hS : va_S (bd_A E) H0 H locs) (hw : w < 2) {j : Nat} (hj : j < 24) (hdg : decode cc pc = .ok (.iastore, 1)) {v : Int32} (kk : ∀ (H1 : Heap) (locs1 : List Loc), bd_Rep E xm (bd_up ym 29 w j v) om H1 → va_S (bd_A E) H0 H1 locs1 → W p l e R s m args below meth c H1 locs1 cells slots Q (F0 m (pc + 1) ls rest)) : W p l e R s m args below meth c H locs cells slots Q (F0 m pc ls (.int v :: .int (nI j) :: .ref (bd_ea E 29 w 0) :: rest)) := by
  obtain ⟨q, hq⟩ := bd_pos (f := 29) (w := w) (k := 0) ⟨by decide, hw, by decide⟩
  refine va_iast (D := bd_eD E) C.1.1 C.1.2.1 C.2.1 hR.P hR.D hS q 0 (bd_ws_at hq) rfl (vp_in_nI hj (by decide)) hdg (fun H1 locs1 hP _ hS1 => kk H1 locs1 (bd_back hR hq ?_ hP) hS1)
  rw [nI_clamp (Nat.lt_trans hj (by decide))]
  exact bd_upY (F := 29) (by simp only [bd_ce, bd_fmY]; simp [bd_ce]; funext z; simp [bd_up, upd]) rfl
theorem bd_al_29 (C : bd_Cx E p m c cc nL s args own) (hR : bd_Rep E xm ym om H) (hw : w < 2) (hdg : decode cc pc = .ok (.arraylength, 1)) (kk : W p l e R s m args below meth c H locs cells slots Q (F0 m (pc + 1) ls (.int 24 :: rest))) : W p l e R s m args below meth c H locs cells slots Q (F0 m pc ls (.ref (bd_ea E 29 w 0) :: rest)) := by
  obtain ⟨q, hq⟩ := bd_pos (f := 29) (w := w) (k := 0) ⟨by decide, hw, by decide⟩
  exact va_alen (D := bd_eD E) C.1.1 C.1.2.1 C.2.1 hR.P q 0 (bd_ws_at hq) rfl rfl hdg kk
theorem bd_ld_3 (C : bd_Cx E p m c cc nL s args own) (hR : bd_Rep E xm ym om H) (hw : w < 2) {j : Nat} (hj : j < 24) (hdg : decode cc pc = .ok (.aaload, 1)) (kk : W p l e R s m args below meth c H locs cells slots Q (F0 m (pc + 1) ls (.ref (bd_ea E 7 w j) :: rest))) : W p l e R s m args below meth c H locs cells slots Q (F0 m pc ls (.int (nI j) :: .ref (bd_ea E 3 w 0) :: rest)) := by
  obtain ⟨q, hq⟩ := bd_pos (f := 3) (w := w) (k := 0) ⟨by decide, hw, by decide⟩
  refine va_aldq (D := bd_eD E) C.1.1 C.1.2.1 C.2.1 hR.P q 1 (bd_ws_at hq) rfl (vp_in_nI hj (by decide)) hdg ?_
  rw [nI_clamp (Nat.lt_trans hj (by decide))]
  exact kk
theorem bd_ld_4 (C : bd_Cx E p m c cc nL s args own) (hR : bd_Rep E xm ym om H) (hw : w < 2) {j : Nat} (hj : j < 6) (hdg : decode cc pc = .ok (.aaload, 1)) (kk : W p l e R s m args below meth c H locs cells slots Q (F0 m (pc + 1) ls (.ref (bd_ea E 9 w j) :: rest))) : W p l e R s m args below meth c H locs cells slots Q (F0 m pc ls (.int (nI j) :: .ref (bd_ea E 4 w 0) :: rest)) := by
  obtain ⟨q, hq⟩ := bd_pos (f := 4) (w := w) (k := 0) ⟨by decide, hw, by decide⟩
  refine va_aldq (D := bd_eD E) C.1.1 C.1.2.1 C.2.1 hR.P q 2 (bd_ws_at hq) rfl (vp_in_nI hj (by decide)) hdg ?_
  rw [nI_clamp (Nat.lt_trans hj (by decide))]
  exact kk
theorem bd_ld_10 (C : bd_Cx E p m c cc nL s args own) (hR : bd_Rep E xm ym om H) (hw : w < 2) (hk : k < 6) {j : Nat} (hj : j < 8) (hdg : decode cc pc = .ok (.aaload, 1)) (kk : W p l e R s m args below meth c H locs cells slots Q (F0 m (pc + 1) ls (.ref (bd_ea E 11 w (8 * k + j)) :: rest))) : W p l e R s m args below meth c H locs cells slots Q (F0 m pc ls (.int (nI j) :: .ref (bd_ea E 10 w k) :: rest)) := by
  obtain ⟨q, hq⟩ := bd_pos (f := 10) (w := w) (k := k) ⟨by decide, hw, hk⟩
  refine va_aldq (D := bd_eD E) C.1.1 C.1.2.1 C.2.1 hR.P q 3 (bd_ws_at hq) rfl (vp_in_nI hj (by decide)) hdg ?_
  rw [nI_clamp (Nat.lt_trans hj (by decide))]
  exact kk
theorem bd_upO {E : bd_E} {xm ym : bd_M} {om om' : Nat → Int64} : bd_Up E xm ym om xm ym om' 30 0 0 (.inl (bd_eK E 4, 1, .inr (.inl om'))) := by
  refine ⟨rfl, fun f' w' k' hd hn => ?_⟩
  obtain ⟨h1, h2, h3⟩ := hd
  match f', h1, h2, h3, hn with
  | 0, _, _, _, _ => rfl
  | 1, _, _, _, _ => rfl
  | 2, _, _, _, _ => rfl
  | 3, _, _, _, _ => rfl
  | 4, _, _, _, _ => rfl
  | 5, _, _, _, _ => rfl
  | 6, _, _, _, _ => rfl
  | 7, _, _, _, _ => rfl
  | 8, _, _, _, _ => rfl
  | 9, _, _, _, _ => rfl
  | 10, _, _, _, _ => rfl
  | 11, _, _, _, _ => rfl
  | 12, _, _, _, _ => rfl
  | 13, _, _, _, _ => rfl
  | 14, _, _, _, _ => rfl
  | 15, _, _, _, _ => rfl
  | 16, _, _, _, _ => rfl
  | 17, _, _, _, _ => rfl
  | 18, _, _, _, _ => rfl
  | 19, _, _, _, _ => rfl
  | 20, _, _, _, _ => rfl
  | 21, _, _, _, _ => rfl
  | 22, _, _, _, _ => rfl
  | 23, _, _, _, _ => rfl
  | 24, _, _, _, _ => rfl
  | 25, _, _, _, _ => rfl
  | 26, _, _, _, _ => rfl
  | 27, _, _, _, _ => rfl
  | 28, _, _, _, _ => rfl
  | 29, _, _, _, _ => rfl
  | 30, _, h2, h3, hn => exact absurd ⟨rfl, Nat.lt_one_iff.mp h2, Nat.lt_one_iff.mp h3⟩ hn
  | n + 31, h1, _, _, _ => exact absurd h1 (by omega)
/-- the value on top of the stack is the place nI j -/
theorem bd_ti {x : Int32} {j : Nat} (h : x = nI j) (kk : W p l e R s m args below meth c H locs cells slots Q (F0 m pc ls (.int (nI j) :: rest))) : W p l e R s m args below meth c H locs cells slots Q (F0 m pc ls (.int x :: rest)) := by rw [h]; exact kk
theorem bd_ti2 {x : Int32} {y : Value} {j : Nat} (h : x = nI j) (kk : W p l e R s m args below meth c H locs cells slots Q (F0 m pc ls (y :: .int (nI j) :: rest))) : W p l e R s m args below meth c H locs cells slots Q (F0 m pc ls (y :: .int x :: rest)) := by rw [h]; exact kk
end BDR
end
section
/-! CONTRACTS over the world: a method takes the memories xm, ym, om to xm', ym', om' and answers res; its start, its ends, its calls -/
def bd_Q (E : bd_E) (xm' ym' : bd_M) (om' : Nat → Int64) (res : Option Value) : Array Value → State → Outcome → State → Prop := fun _ st oc t => (oc = .returned res ∧ bd_Rep E xm' ym' om' t.heap) ∧ va_F (bd_A E) st t
abbrev bd_Pc (E : bd_E) (avs : List Value) (xm ym : bd_M) (om : Nat → Int64) : Array Value → State → Prop := va_Pc avs (fun U => bd_Rep E xm ym om U.heap ∧ bd_KK E U)
def bd_Ct (l : Launch) (y : MethodName) (cc : ByteArray) (n : Nat) (ret : Option FieldType) (fr lo mc ms : Nat) (E : bd_E) (avs : List Value) (xm ym : bd_M) (om : Nat → Int64) (xm' ym' : bd_M) (om' : Nat → Int64) (res : Option Value) : Prop :=
  Met l y (.code y cc n ret :: wsL_law) { frames := fr, cells := mc, slots := ms, locals := lo } (bd_Pc E avs xm ym om) (bd_Q E xm' ym' om' res) mc ms (bd_A E)
theorem bd_open {l : Launch} {y : MethodName} {cc : ByteArray} {n : Nat} {ret : Option FieldType} {fr lo mc ms : Nat} {E : bd_E} {avs : List Value} {xm ym xm' ym' : bd_M} {om om' : Nat → Int64} {res : Option Value} (own : String) (hown : y.cls = own) (hy : plainName y.cls = true) (hlen : (lg_sl avs).length ≤ n)
    (body : ∀ (p : Program) (e : Env) (s : State) (m : MethodId) (args : Array Value) (below : List Frame) (meth : Method) (c : Code) (ls : Array Slot), bd_Cx E p m c cc n s args own → meth.sig.returnType = ret → meth.locks = false → va_S (bd_A E) s.heap s.heap [] → bd_Rep E xm ym om s.heap → lv_has ls n (lv_args 0 avs) →
      W p l e { frames := fr, cells := mc, slots := ms, locals := lo } s m args below meth c s.heap [] 0 0 (MQ below (bd_Q E xm' ym' om' res) args s mc ms (bd_A E)) (F0 m 0 ls [])) : bd_Ct l y cc n ret fr lo mc ms E avs xm ym om xm' ym' om' res := by
  refine Met.ofW (cc := cc) (maxL := n) (ret := ret) hy rfl ?_
  intro p e s m args below meth c s₁ B hml hv
  obtain ⟨rfl, hR, hK⟩ := hv
  have hts := atoms_spec (ws := .code y cc n ret :: wsL_law) B.pre
  have hl := lv_entry avs (n := n) hlen
  have ho : s.vm.findClass own = some m.cls := by rw [← hown]; exact findClass_of_methodNamed B.named
  rw [lg_entry_eq]
  exact body p e s m _ below meth c _ ⟨⟨B.exec, B.bytes, hml, ho, fun w h => hts w (List.mem_cons_of_mem _ h)⟩, hK⟩ B.returns B.notSynchronized va_S.rf hR hl
section BDC
variable {p : Program} {l : Launch} {e : Env} {R : Room} {s : State} {m : MethodId} {args : Array Value} {below : List Frame} {meth : Method} {c : Code} {H H0 : Heap} {locs : List Loc} {cells slots mc ms : Nat} {Q : State → Prop}
variable {cc : ByteArray} {pc nL : Nat} {ls : Array Slot} {rest : List Value} {E : bd_E} {xm ym xm' ym' : bd_M} {om om' : Nat → Int64} {own : String}
theorem bd_ri (C : bd_Cx E p m c cc nL s args own) (hr : meth.sig.returnType = some .int) (hlk : meth.locks = false) (hR : bd_Rep E xm ym om H) (hS : va_S (bd_A E) s.heap H locs) (hc : cells ≤ mc) (hs : slots ≤ ms) (hdg : decode cc pc = .ok (.ireturn, 1)) {v v' : Int32} (hv : v' = v) : W p l e R s m args below meth c H locs cells slots (MQ below (bd_Q E xm ym om (some (.int v))) args s mc ms (bd_A E)) (F0 m pc ls [.int v']) := by
  subst hv
  refine W.widen hc hs ?_
  exact W.iret C.1.1 C.1.2.1 hr (fun t ht _ => ⟨⟨rfl, by rw [ht]; exact hR⟩, hS.F ht⟩) hS.2.2 hdg hlk
theorem bd_rz (C : bd_Cx E p m c cc nL s args own) (hr : meth.sig.returnType = some .boolean) (hlk : meth.locks = false) (hR : bd_Rep E xm ym om H) (hS : va_S (bd_A E) s.heap H locs) (hc : cells ≤ mc) (hs : slots ≤ ms) (hdg : decode cc pc = .ok (.ireturn, 1)) {v v' : Int32} (hn : narrow .boolean (.int v') = .int v') (hv : v' = v) : W p l e R s m args below meth c H locs cells slots (MQ below (bd_Q E xm ym om (some (.int v))) args s mc ms (bd_A E)) (F0 m pc ls [.int v']) := by
  subst hv
  refine W.widen hc hs ?_
  exact W.zret C.1.1 C.1.2.1 hr hn (fun t ht _ => ⟨⟨rfl, by rw [ht]; exact hR⟩, hS.F ht⟩) hS.2.2 hdg hlk
theorem bd_rv (C : bd_Cx E p m c cc nL s args own) (hr : meth.sig.returnType = none) (hlk : meth.locks = false) (hR : bd_Rep E xm ym om H) (hS : va_S (bd_A E) s.heap H locs) (hc : cells ≤ mc) (hs : slots ≤ ms) (hdg : decode cc pc = .ok (.return_, 1)) : W p l e R s m args below meth c H locs cells slots (MQ below (bd_Q E xm ym om none) args s mc ms (bd_A E)) (F0 m pc ls []) := by
  refine W.widen hc hs ?_
  exact W.vret C.1.1 C.1.2.1 hr (fun t ht _ => ⟨⟨rfl, by rw [ht]; exact hR⟩, hS.F ht⟩) hS.2.2 hdg hlk
theorem bd_rl (C : bd_Cx E p m c cc nL s args own) (hr : meth.sig.returnType = some .long) (hlk : meth.locks = false) (hR : bd_Rep E xm ym om H) (hS : va_S (bd_A E) s.heap H locs) (hc : cells ≤ mc) (hs : slots ≤ ms) (hdg : decode cc pc = .ok (.lreturn, 1)) {v v' : Int64} (hv : v' = v) : W p l e R s m args below meth c H locs cells slots (MQ below (bd_Q E xm ym om (some (.long v))) args s mc ms (bd_A E)) (F0 m pc ls [.long v']) := by
  subst hv
  refine W.widen hc hs ?_
  exact W.lret C.1.1 C.1.2.1 hr (fun t ht _ => ⟨⟨rfl, by rw [ht]; exact hR⟩, hS.F ht⟩) hS.2.2 hdg hlk
theorem bd_ra (C : bd_Cx E p m c cc nL s args own) {rt : FieldType} (hr : meth.sig.returnType = some rt) (hrt : (∃ n, rt = .object n) ∨ ∃ t, rt = .array t) (hlk : meth.locks = false) (hR : bd_Rep E xm ym om H) (hS : va_S (bd_A E) s.heap H locs) (hc : cells ≤ mc) (hs : slots ≤ ms) (hdg : decode cc pc = .ok (.areturn, 1)) {v v' : Value} (ha : v' = .null ∨ ∃ a, v' = .ref a) (hv : v' = v) : W p l e R s m args below meth c H locs cells slots (MQ below (bd_Q E xm ym om (some v)) args s mc ms (bd_A E)) (F0 m pc ls [v']) := by
  subst hv
  refine W.widen hc hs ?_
  exact W.aret C.1.1 C.1.2.1 hr hrt ha (fun t ht _ => ⟨⟨rfl, by rw [ht]; exact hR⟩, hS.F ht⟩) hS.2.2 hdg hlk
theorem bd_blind {avs : List Value} : FrameBlind (bd_Pc E avs xm ym om) := fun a U g mk q => ⟨q.1, q.2.1, bd_KK.same (s := U) (U := U.calling g mk a) rfl q.2.2⟩
/-- the words of a callee, when all words are one list -/
theorem bd_in {y : MethodName} {bytes : ByteArray} {n : Nat} {ret : Option FieldType} (h : Cond.code y bytes n ret ∈ wsL_law) : GoodIn wsL_law (.code y bytes n ret :: wsL_law) := by
  intro w hw
  rcases List.mem_cons.mp hw with rfl | hw
  · exact ⟨h, bd_goodW _ h⟩
  · exact ⟨hw, bd_goodW _ hw⟩
theorem bd_inV {C : String} {idx : Nat} {y : MethodName} {bytes : ByteArray} {n : Nat} {ret : Option FieldType} (h1 : Cond.methodLink own idx y ∈ wsL_law) (h2 : Cond.instanceMethod y ∈ wsL_law) (h3 : Cond.selects C y y ∈ wsL_law) (h4 : Cond.initialized C ∈ wsL_law) (h5 : Cond.code y bytes n ret ∈ wsL_law) : GoodIn wsL_law (wsV own idx C y (.code y bytes n ret :: wsL_law)) := by
  intro w hw
  unfold wsV at hw
  rcases List.mem_append.mp hw with hw | hw
  · have hm : w ∈ wsL_law := by
      simp only [List.mem_cons, List.not_mem_nil, or_false] at hw
      rcases hw with rfl | rfl | rfl | rfl <;> assumption
    exact ⟨hm, bd_goodW _ hm⟩
  · exact bd_in h5 w hw
theorem bd_inS {idx : Nat} {y : MethodName} {bytes : ByteArray} {n : Nat} {ret : Option FieldType} (h1 : Cond.methodLink own idx y ∈ wsL_law) (h2 : Cond.static y ∈ wsL_law) (h4 : Cond.initialized y.cls ∈ wsL_law) (h5 : Cond.code y bytes n ret ∈ wsL_law) : GoodIn wsL_law (va_wsS own idx y (.code y bytes n ret :: wsL_law)) := by
  intro w hw
  unfold va_wsS at hw
  rcases List.mem_append.mp hw with hw | hw
  · have hm : w ∈ wsL_law := by
      simp only [List.mem_cons, List.not_mem_nil, or_false] at hw
      rcases hw with rfl | rfl | rfl <;> assumption
    exact ⟨hm, bd_goodW _ hm⟩
  · exact bd_in h5 w hw
/-- behind a call -/
theorem bd_after {xm' ym' : bd_M} {om' : Nat → Int64} {res : Option Value} {a : Array Value} {st0 : List Value} (hr : va_Run p l e R s m args below meth c H locs cells slots mc ms (F0 m pc ls st0) rest (bd_Q E xm' ym' om' res a) (bd_A E)) (hS : va_S (bd_A E) H0 H locs)
    (kk : ∀ (H1 : Heap) (locs1 : List Loc), bd_Rep E xm' ym' om' H1 → va_S (bd_A E) H0 H1 locs1 → H.size ≤ H1.size → W p l e R s m args below meth c H1 locs1 (cells + mc) (slots + ms) Q (F0 m (pc + 3) ls (res.toList ++ rest))) : W p l e R s m args below meth c H locs cells slots Q (F0 m pc ls st0) := by
  intro T hT X
  obtain ⟨v, st₀, t, T', L, h0, X', hL, e1, e2, ⟨⟨hv, hb⟩, hz, hk⟩, st⟩ := hr T hT X
  cases hv
  rw [h0] at hz hk
  obtain ⟨t2, a1, b1⟩ := kk T'.heap (locs ++ L) (by rw [e1]; exact hb)
    ⟨Nat.le_trans hS.1 (by rw [e1]; exact hz), fun q h1 h2 => by rw [e1, hk q (Nat.lt_of_lt_of_le h1 hS.1) h2]; exact hS.2.1 q h1 h2, fun q hq => by
      rcases List.mem_append.mp hq with h | h
      · exact hS.2.2 q h
      · exact hL q h⟩ (by rw [e1]; exact hz) T' rfl X'
  exact ⟨t2, st t2 a1, b1⟩
theorem bd_recv (hK : bd_KK E s) (hR : bd_Rep E xm ym om H) {f w k ci : Nat} {fs : List Value} {q : vw_C} (hd : bd_dm f w k) (he : bd_ce E xm ym om f w k = .inr (ci, fs)) (hc : vwCl[ci]? = some q) : ∃ cell : Cell, H[bd_ea E f w k]? = some cell ∧ cell.vm.isStatics = false ∧ s.vm.findClass q.1 = some cell.cls := by
  have h1 := hR.2.2 f w k hd
  rw [he] at h1
  exact va_recv (ws := [(bd_ea E f w k, .inr (ci, fs))]) (q0 := 0) hK.1 (fun k' q' h' => by
    cases k' with
    | zero => cases h'; exact h1
    | succ n => simp at h') hc rfl
theorem bd_cV {y : MethodName} {bytes : ByteArray} {n idx fr lo : Nat} {ret : Option FieldType} {As : List Value} {res : Option Value} {b : Addr} {CN : String} {st0 : List Value} (C : bd_Cx E p m c cc nL s args own) (hM : bd_Ct l y bytes n ret fr lo mc ms E (.ref b :: As) xm ym om xm' ym' om' res) (hR : bd_Rep E xm ym om H) (hS : va_S (bd_A E) H0 H locs)
    (hcell : ∃ cell : Cell, H[b]? = some cell ∧ cell.vm.isStatics = false ∧ s.vm.findClass CN = some cell.cls)
    (q1 : Cond.methodLink own idx y ∈ wsL_law) (q2 : Cond.instanceMethod y ∈ wsL_law) (q3 : Cond.selects CN y y ∈ wsL_law) (q4 : Cond.initialized CN ∈ wsL_law) (q5 : Cond.code y bytes n ret ∈ wsL_law)
    (hd : y.cls = CN ∧ y.cls ≠ "java/lang/invoke/MethodHandle" ∧ y.cls ≠ "java/lang/invoke/VarHandle" ∧ (parseMethodDescriptor y.desc).map (fun d => d.parameters.length) = some As.length) (hR2 : fr + 1 ≤ R.frames ∧ 8 + (n + 11) + lo ≤ R.locals)
    (hsz : ls.size = nL) (hst : st0 = As.reverse ++ .ref b :: rest) (hcat : (rest.map fun v => v.category).sum ≤ 8) (hdg : decode cc pc = .ok (.invokevirtual idx, 3)) (hf : cells + mc ≤ R.cells ∧ slots + ms ≤ R.slots)
    (kk : ∀ (H1 : Heap) (locs1 : List Loc), bd_Rep E xm' ym' om' H1 → va_S (bd_A E) H0 H1 locs1 → H.size ≤ H1.size → W p l e R s m args below meth c H1 locs1 (cells + mc) (slots + ms) Q (F0 m (pc + 3) ls (res.toList ++ rest))) : W p l e R s m args below meth c H locs cells slots Q (F0 m pc ls st0) :=
  bd_after (va_runV (As := As) (rest := rest) C.1 hM (cwV As.length C.1.2.2.2.2 (bd_inV q1 q2 q3 q4 q5) rfl rfl rfl hd hR2) ⟨bd_blind, hcell, fun U hU hW => ⟨rfl, by rw [hU]; exact hR, bd_KK.warm hW C.2⟩⟩ rfl rfl hsz hst (lv_room hcat) hdg hf) hS kk
theorem bd_cS {y : MethodName} {bytes : ByteArray} {n idx fr lo : Nat} {ret : Option FieldType} {As : List Value} {res : Option Value} {st0 : List Value} (C : bd_Cx E p m c cc nL s args own) (hM : bd_Ct l y bytes n ret fr lo mc ms E As xm ym om xm' ym' om' res) (hR : bd_Rep E xm ym om H) (hS : va_S (bd_A E) H0 H locs)
    (q1 : Cond.methodLink own idx y ∈ wsL_law) (q2 : Cond.static y ∈ wsL_law) (q4 : Cond.initialized y.cls ∈ wsL_law) (q5 : Cond.code y bytes n ret ∈ wsL_law)
    (hd : y.cls ≠ "java/lang/invoke/MethodHandle" ∧ y.cls ≠ "java/lang/invoke/VarHandle" ∧ (parseMethodDescriptor y.desc).map (fun d => d.parameters.length) = some As.length) (hR2 : fr + 1 ≤ R.frames ∧ 8 + (n + 11) + lo ≤ R.locals)
    (hsz : ls.size = nL) (hst : st0 = As.reverse ++ rest) (hcat : (rest.map fun v => v.category).sum ≤ 8) (hdg : decode cc pc = .ok (.invokestatic idx, 3)) (hf : cells + mc ≤ R.cells ∧ slots + ms ≤ R.slots)
    (kk : ∀ (H1 : Heap) (locs1 : List Loc), bd_Rep E xm' ym' om' H1 → va_S (bd_A E) H0 H1 locs1 → H.size ≤ H1.size → W p l e R s m args below meth c H1 locs1 (cells + mc) (slots + ms) Q (F0 m (pc + 3) ls (res.toList ++ rest))) : W p l e R s m args below meth c H locs cells slots Q (F0 m pc ls st0) :=
  bd_after (va_runS (As := As) (rest := rest) C.1 hM (va_cwS As.length C.1.2.2.2.2 (bd_inS q1 q2 q4 q5) rfl rfl rfl hd hR2) ⟨bd_blind, fun U hU hW => ⟨rfl, by rw [hU]; exact hR, bd_KK.warm hW C.2⟩⟩ rfl rfl hsz hst (lv_room hcat) hdg hf) hS kk
/-- a truth value on top -/
theorem bd_ifeq {P : Prop} [Decidable P] {off : Int} {tgt : Nat} (C : bd_Cx E p m c cc nL s args own) (hdg : decode cc pc = .ok (.ifCond .eq off, 3)) (ht : (pc : Int) + off = (tgt : Int))
    (kt : ¬ P → W p l e R s m args below meth c H locs cells slots Q (F0 m tgt ls rest)) (kf : P → W p l e R s m args below meth c H locs cells slots Q (F0 m (pc + 3) ls rest)) : W p l e R s m args below meth c H locs cells slots Q (F0 m pc ls (.int (if P then 1 else 0) :: rest)) := by
  refine lv_if_eq (tgt := tgt) C.1.1 C.1.2.1 hdg ht (fun h => kt ?_) (fun h => kf ?_)
  · intro hP
    rw [if_pos hP] at h
    exact absurd h (by decide)
  · by_cases hP : P
    · exact hP
    · rw [if_neg hP] at h
      exact absurd rfl h
theorem bd_ifne {P : Prop} [Decidable P] {off : Int} {tgt : Nat} (C : bd_Cx E p m c cc nL s args own) (hdg : decode cc pc = .ok (.ifCond .ne off, 3)) (ht : (pc : Int) + off = (tgt : Int))
    (kt : P → W p l e R s m args below meth c H locs cells slots Q (F0 m tgt ls rest)) (kf : ¬ P → W p l e R s m args below meth c H locs cells slots Q (F0 m (pc + 3) ls rest)) : W p l e R s m args below meth c H locs cells slots Q (F0 m pc ls (.int (if P then 1 else 0) :: rest)) := by
  refine lv_if_ne (tgt := tgt) C.1.1 C.1.2.1 hdg ht (fun h => kt ?_) (fun h => kf ?_)
  · by_cases hP : P
    · exact hP
    · rw [if_neg hP] at h
      exact absurd rfl h
  · intro hP
    rw [if_pos hP] at h
    exact absurd h (by decide)
end BDC
/-- Math.max, Math.min -/
def bd_mx (a b : Int32) : Int32 := if a < b then b else a
def bd_mn (a b : Int32) : Int32 := if b < a then b else a
section BDM
variable {p : Program} {l : Launch} {e : Env} {R : Room} {s : State} {m : MethodId} {args : Array Value} {below : List Frame} {meth : Method} {c : Code} {H : Heap} {locs : List Loc} {cells slots : Nat} {Q : State → Prop}
variable {cc : ByteArray} {pc nL : Nat} {ls : Array Slot} {rest : List Value} {E : bd_E} {own : String}
theorem bd_max {index : Nat} (C : bd_Cx E p m c cc nL s args own) (hsz : ls.size = nL) (q1 : Cond.methodLink own index Lib.Math.max.name ∈ wsL_law) (hfr : 1 ≤ R.frames ∧ (rest.map fun v => v.category).sum + 13 ≤ R.locals) (hc : cells ≤ R.cells ∧ slots ≤ R.slots) {x y : Int32} (hdg : decode cc pc = .ok (.invokestatic index, 3))
    (kk : W p l e R s m args below meth c H locs cells slots Q (F0 m (pc + 3) ls (.int (bd_mx x y) :: rest))) : W p l e R s m args below meth c H locs cells slots Q (F0 m pc ls (.int y :: .int x :: rest)) :=
  va_mmax C.1.1 C.1.2.1 (C.1.2.2.1.trans hsz.symm) C.1.2.2.2.1 (C.1.2.2.2.2 _ q1) (C.1.2.2.2.2 _ qt_Lib_Math_max_name) (C.1.2.2.2.2 _ qz_Math) (C.1.2.2.2.2 _ qc_Lib_Math_max_name) hfr.1 hfr.2 hc.1 hc.2 hdg kk
theorem bd_min {index : Nat} (C : bd_Cx E p m c cc nL s args own) (hsz : ls.size = nL) (q1 : Cond.methodLink own index Lib.Math.min.name ∈ wsL_law) (hfr : 1 ≤ R.frames ∧ (rest.map fun v => v.category).sum + 13 ≤ R.locals) (hc : cells ≤ R.cells ∧ slots ≤ R.slots) {x y : Int32} (hdg : decode cc pc = .ok (.invokestatic index, 3))
    (kk : W p l e R s m args below meth c H locs cells slots Q (F0 m (pc + 3) ls (.int (bd_mn x y) :: rest))) : W p l e R s m args below meth c H locs cells slots Q (F0 m pc ls (.int y :: .int x :: rest)) :=
  va_mmin C.1.1 C.1.2.1 (C.1.2.2.1.trans hsz.symm) C.1.2.2.2.1 (C.1.2.2.2.2 _ q1) (C.1.2.2.2.2 _ qt_Lib_Math_min_name) (C.1.2.2.2.2 _ qz_Math) (C.1.2.2.2.2 _ qc_Lib_Math_min_name) hfr.1 hfr.2 hc.1 hc.2 hdg kk
end BDM
section BDV
variable {p : Program} {l : Launch} {e : Env} {R : Room} {s : State} {m : MethodId} {args : Array Value} {below : List Frame} {meth : Method} {c : Code} {H H0 : Heap} {locs : List Loc} {cells slots mc ms : Nat} {Q : State → Prop}
variable {cc : ByteArray} {pc nL : Nat} {ls : Array Slot} {E : bd_E} {xm ym xm' ym' : bd_M} {om om' : Nat → Int64} {own : String}
theorem bd_Rep.eq {H : Heap} (h : bd_Rep E xm ym om H) (e1 : xm = xm') (e2 : ym = ym') : bd_Rep E xm' ym' om H := by subst e1; subst e2; exact h
theorem bd_cV1 {y : MethodName} {bytes : ByteArray} {n idx fr lo : Nat} {ret : Option FieldType} (As rest : List Value) {v : Value} {b : Addr} {CN : String} (C : bd_Cx E p m c cc nL s args own) (hM : bd_Ct l y bytes n ret fr lo mc ms E (.ref b :: As) xm ym om xm' ym' om' (some v)) (hR : bd_Rep E xm ym om H) (hS : va_S (bd_A E) H0 H locs)
    (hcell : ∃ cell : Cell, H[b]? = some cell ∧ cell.vm.isStatics = false ∧ s.vm.findClass CN = some cell.cls)
    (q1 : Cond.methodLink own idx y ∈ wsL_law) (q2 : Cond.instanceMethod y ∈ wsL_law) (q3 : Cond.selects CN y y ∈ wsL_law) (q4 : Cond.initialized CN ∈ wsL_law) (q5 : Cond.code y bytes n ret ∈ wsL_law)
    (hd : y.cls = CN ∧ y.cls ≠ "java/lang/invoke/MethodHandle" ∧ y.cls ≠ "java/lang/invoke/VarHandle" ∧ (parseMethodDescriptor y.desc).map (fun d => d.parameters.length) = some As.length) (hR2 : fr + 1 ≤ R.frames ∧ 8 + (n + 11) + lo ≤ R.locals)
    (hsz : ls.size = nL) (hcat : (rest.map fun v => v.category).sum ≤ 8) (hdg : decode cc pc = .ok (.invokevirtual idx, 3)) (hf : cells + mc ≤ R.cells ∧ slots + ms ≤ R.slots)
    (kk : ∀ (H1 : Heap) (locs1 : List Loc), bd_Rep E xm' ym' om' H1 → va_S (bd_A E) H0 H1 locs1 → H.size ≤ H1.size → W p l e R s m args below meth c H1 locs1 (cells + mc) (slots + ms) Q (F0 m (pc + 3) ls (v :: rest))) : W p l e R s m args below meth c H locs cells slots Q (F0 m pc ls (As.reverse ++ .ref b :: rest)) :=
  bd_cV C hM hR hS hcell q1 q2 q3 q4 q5 hd hR2 hsz rfl hcat hdg hf kk
theorem bd_cV0 {y : MethodName} {bytes : ByteArray} {n idx fr lo : Nat} {ret : Option FieldType} (As rest : List Value) {b : Addr} {CN : String} (C : bd_Cx E p m c cc nL s args own) (hM : bd_Ct l y bytes n ret fr lo mc ms E (.ref b :: As) xm ym om xm' ym' om' none) (hR : bd_Rep E xm ym om H) (hS : va_S (bd_A E) H0 H locs)
    (hcell : ∃ cell : Cell, H[b]? = some cell ∧ cell.vm.isStatics = false ∧ s.vm.findClass CN = some cell.cls)
    (q1 : Cond.methodLink own idx y ∈ wsL_law) (q2 : Cond.instanceMethod y ∈ wsL_law) (q3 : Cond.selects CN y y ∈ wsL_law) (q4 : Cond.initialized CN ∈ wsL_law) (q5 : Cond.code y bytes n ret ∈ wsL_law)
    (hd : y.cls = CN ∧ y.cls ≠ "java/lang/invoke/MethodHandle" ∧ y.cls ≠ "java/lang/invoke/VarHandle" ∧ (parseMethodDescriptor y.desc).map (fun d => d.parameters.length) = some As.length) (hR2 : fr + 1 ≤ R.frames ∧ 8 + (n + 11) + lo ≤ R.locals)
    (hsz : ls.size = nL) (hcat : (rest.map fun v => v.category).sum ≤ 8) (hdg : decode cc pc = .ok (.invokevirtual idx, 3)) (hf : cells + mc ≤ R.cells ∧ slots + ms ≤ R.slots)
    (kk : ∀ (H1 : Heap) (locs1 : List Loc), bd_Rep E xm' ym' om' H1 → va_S (bd_A E) H0 H1 locs1 → H.size ≤ H1.size → W p l e R s m args below meth c H1 locs1 (cells + mc) (slots + ms) Q (F0 m (pc + 3) ls rest)) : W p l e R s m args below meth c H locs cells slots Q (F0 m pc ls (As.reverse ++ .ref b :: rest)) :=
  bd_cV C hM hR hS hcell q1 q2 q3 q4 q5 hd hR2 hsz rfl hcat hdg hf kk
theorem bd_cS1 {y : MethodName} {bytes : ByteArray} {n idx fr lo : Nat} {ret : Option FieldType} (As rest : List Value) {v : Value} (C : bd_Cx E p m c cc nL s args own) (hM : bd_Ct l y bytes n ret fr lo mc ms E As xm ym om xm' ym' om' (some v)) (hR : bd_Rep E xm ym om H) (hS : va_S (bd_A E) H0 H locs)
    (q1 : Cond.methodLink own idx y ∈ wsL_law) (q2 : Cond.static y ∈ wsL_law) (q4 : Cond.initialized y.cls ∈ wsL_law) (q5 : Cond.code y bytes n ret ∈ wsL_law)
    (hd : y.cls ≠ "java/lang/invoke/MethodHandle" ∧ y.cls ≠ "java/lang/invoke/VarHandle" ∧ (parseMethodDescriptor y.desc).map (fun d => d.parameters.length) = some As.length) (hR2 : fr + 1 ≤ R.frames ∧ 8 + (n + 11) + lo ≤ R.locals)
    (hsz : ls.size = nL) (hcat : (rest.map fun v => v.category).sum ≤ 8) (hdg : decode cc pc = .ok (.invokestatic idx, 3)) (hf : cells + mc ≤ R.cells ∧ slots + ms ≤ R.slots)
    (kk : ∀ (H1 : Heap) (locs1 : List Loc), bd_Rep E xm' ym' om' H1 → va_S (bd_A E) H0 H1 locs1 → H.size ≤ H1.size → W p l e R s m args below meth c H1 locs1 (cells + mc) (slots + ms) Q (F0 m (pc + 3) ls (v :: rest))) : W p l e R s m args below meth c H locs cells slots Q (F0 m pc ls (As.reverse ++ rest)) :=
  bd_cS C hM hR hS q1 q2 q4 q5 hd hR2 hsz rfl hcat hdg hf kk
theorem bd_cS0 {y : MethodName} {bytes : ByteArray} {n idx fr lo : Nat} {ret : Option FieldType} (As rest : List Value) (C : bd_Cx E p m c cc nL s args own) (hM : bd_Ct l y bytes n ret fr lo mc ms E As xm ym om xm' ym' om' none) (hR : bd_Rep E xm ym om H) (hS : va_S (bd_A E) H0 H locs)
    (q1 : Cond.methodLink own idx y ∈ wsL_law) (q2 : Cond.static y ∈ wsL_law) (q4 : Cond.initialized y.cls ∈ wsL_law) (q5 : Cond.code y bytes n ret ∈ wsL_law)
    (hd : y.cls ≠ "java/lang/invoke/MethodHandle" ∧ y.cls ≠ "java/lang/invoke/VarHandle" ∧ (parseMethodDescriptor y.desc).map (fun d => d.parameters.length) = some As.length) (hR2 : fr + 1 ≤ R.frames ∧ 8 + (n + 11) + lo ≤ R.locals)
    (hsz : ls.size = nL) (hcat : (rest.map fun v => v.category).sum ≤ 8) (hdg : decode cc pc = .ok (.invokestatic idx, 3)) (hf : cells + mc ≤ R.cells ∧ slots + ms ≤ R.slots)
    (kk : ∀ (H1 : Heap) (locs1 : List Loc), bd_Rep E xm' ym' om' H1 → va_S (bd_A E) H0 H1 locs1 → H.size ≤ H1.size → W p l e R s m args below meth c H1 locs1 (cells + mc) (slots + ms) Q (F0 m (pc + 3) ls rest)) : W p l e R s m args below meth c H locs cells slots Q (F0 m pc ls (As.reverse ++ rest)) :=
  bd_cS C hM hR hS q1 q2 q4 q5 hd hR2 hsz rfl hcat hdg hf kk
end BDV
theorem bd_tn {x : Int32} (h : ¬ x < 0) : x = nI x.toNatClampNeg := by
  obtain ⟨j, hj, rfl⟩ := nI_of h
  rw [nI_clamp hj]
theorem bd_tnl {x : Int32} {n : Nat} (h : ¬ x < 0) (h2 : x < nI n) (hn : n < 2 ^ 31) : x.toNatClampNeg < n := by
  obtain ⟨j, hj, rfl⟩ := nI_of h
  rw [nI_clamp hj]
  exact (nI_ltI hj hn).mp h2
end
section
theorem zz_dummy : True := trivial
end
