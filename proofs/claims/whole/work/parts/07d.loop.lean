/-! THE LAW'S LOOP, over an invariant that every call keeps -/
abbrev la_O_addPlayer (l : Launch) (E : bd_E) (xm ym : bd_M) (J : bd_M → bd_M → Prop) : Prop := ∀ (a : Int32) (b : Int32) (d : Int32) (f : Int32) (om : Nat → Int64), la_Ok l E yL_addPlayer cL_addPlayer 7 [(0, 14, 17, 13), (0, 14, 21, 15)] yX7_addPlayer cX7_addPlayer 6 [.int a, .int b, .int d, .int f] xm ym om J
abbrev la_O_found (l : Launch) (E : bd_E) (xm ym : bd_M) (J : bd_M → bd_M → Prop) : Prop := ∀ (a : Int32) (om : Nat → Int64), la_Ok l E yL_found cL_found 4 [(0, 9, 12, 13), (0, 9, 15, 15)] yX7_found cX7_found 6 [.int a] xm ym om J
abbrev la_O_seat (l : Launch) (E : bd_E) (xm ym : bd_M) (J : bd_M → bd_M → Prop) : Prop := ∀ (a : Int32) (b : Int32) (d : Int32) (om : Nat → Int64), la_Ok l E yL_seat cL_seat 6 [(0, 12, 15, 25), (0, 12, 19, 15)] yX7_seat cX7_seat 7 [.int a, .int b, .int d] xm ym om J
abbrev la_O_change (l : Launch) (E : bd_E) (xm ym : bd_M) (J : bd_M → bd_M → Prop) : Prop := ∀ (a : Int32) (b : Int32) (d : Int32) (om : Nat → Int64), la_Ok l E yL_change cL_change 6 [(0, 12, 15, 25)] yX7_change cX7_change 4 [.int a, .int b, .int d] xm ym om J
abbrev la_O_absent (l : Launch) (E : bd_E) (xm ym : bd_M) (J : bd_M → bd_M → Prop) : Prop := ∀ (a : Int32) (b : Int32) (om : Nat → Int64), la_Ok l E yL_absent cL_absent 5 [(0, 10, 13, 25), (0, 10, 17, 13)] yX7_absent cX7_absent 4 [.int a, .int b] xm ym om J
abbrev la_O_rehearse (l : Launch) (E : bd_E) (xm ym : bd_M) (J : bd_M → bd_M → Prop) : Prop := ∀ (a : Int32) (om : Nat → Int64), la_Ok l E yL_rehearse cL_rehearse 4 [(0, 9, 12, 25)] yX7_rehearse cX7_rehearse 4 [.int a] xm ym om J
abbrev la_O_setPiece (l : Launch) (E : bd_E) (xm ym : bd_M) (J : bd_M → bd_M → Prop) : Prop := ∀ (a : Int32) (b : Int32) (om : Nat → Int64), la_Ok l E yL_setPiece cL_setPiece 5 [(0, 10, 13, 25), (0, 10, 17, 13)] yX7_setPiece cX7_setPiece 4 [.int a, .int b] xm ym om J
abbrev la_O_setTaste (l : Launch) (E : bd_E) (xm ym : bd_M) (J : bd_M → bd_M → Prop) : Prop := ∀ (a : Int32) (b : Int32) (om : Nat → Int64), la_Ok l E yL_setTaste cL_setTaste 5 [(0, 10, 13, 25), (0, 10, 17, 13)] yX7_setTaste cX7_setTaste 4 [.int a, .int b] xm ym om J
abbrev la_O_player (l : Launch) (E : bd_E) (xm ym : bd_M) (J : bd_M → bd_M → Prop) : Prop := ∀ (a : Int32) (b : Int32) (om : Nat → Int64), la_Ok l E yL_player cL_player 5 [(0, 10, 13, 25)] yX7_player cX7_player 3 [.int a, .int b] xm ym om J
abbrev la_O_band (l : Launch) (E : bd_E) (xm ym : bd_M) (J : bd_M → bd_M → Prop) : Prop := ∀ (a : Int32) (b : Int32) (om : Nat → Int64), la_Ok l E yL_band cL_band 5 [(0, 10, 13, 25)] yX7_band cX7_band 3 [.int a, .int b] xm ym om J
abbrev la_O_chair (l : Launch) (E : bd_E) (xm ym : bd_M) (J : bd_M → bd_M → Prop) : Prop := ∀ (a : Int32) (b : Int32) (d : Int32) (om : Nat → Int64), la_Ok l E yL_chair cL_chair 6 [(0, 12, 15, 25)] yX7_chair cX7_chair 4 [.int a, .int b, .int d] xm ym om J
abbrev la_O_contest (l : Launch) (E : bd_E) (xm ym : bd_M) (J : bd_M → bd_M → Prop) : Prop := ∀ (om : Nat → Int64), la_Ok l E yL_contest cL_contest 3 [(0, 8, 11, 15)] yX7_contest cX7_contest 1 [] xm ym om J
abbrev la_O_rank (l : Launch) (E : bd_E) (xm ym : bd_M) (J : bd_M → bd_M → Prop) : Prop := ∀ (a : Int32) (om : Nat → Int64), la_Ok l E yL_rank cL_rank 4 [(0, 9, 12, 25)] yX7_rank cX7_rank 5 [.int a] xm ym om J
abbrev la_O_count (l : Launch) (E : bd_E) (xm ym : bd_M) (J : bd_M → bd_M → Prop) : Prop := ∀ (a : Int32) (om : Nat → Int64), la_Ok l E yL_count cL_count 4 [(0, 9, 12, 25)] yX7_count cX7_count 2 [.int a] xm ym om J
abbrev la_O_foresee (l : Launch) (E : bd_E) (xm ym : bd_M) (J : bd_M → bd_M → Prop) : Prop := ∀ (a : Int32) (b : Int32) (d : Int32) (om : Nat → Int64), la_Ok l E yL_foresee cL_foresee 6 [(0, 12, 15, 25), (0, 12, 19, 13)] yX7_foresee cX7_foresee 5 [.int a, .int b, .int d] xm ym om J
abbrev la_O_advise (l : Launch) (E : bd_E) (xm ym : bd_M) (J : bd_M → bd_M → Prop) : Prop := ∀ (a : Int32) (om : Nat → Int64), la_Ok l E yL_advise cL_advise 4 [(0, 9, 12, 25)] yX7_advise cX7_advise 6 [.int a] xm ym om J
abbrev la_O_free (l : Launch) (E : bd_E) (xm ym : bd_M) (J : bd_M → bd_M → Prop) : Prop := ∀ (a : Int32) (om : Nat → Int64), la_Ok l E yL_free cL_free 4 [(0, 9, 12, 25)] yX7_free cX7_free 4 [.int a] xm ym om J
abbrev la_O_mean (l : Launch) (E : bd_E) (xm ym : bd_M) (J : bd_M → bd_M → Prop) : Prop := ∀ om : Nat → Int64, ∃ (fr lo mc ms fr2 lo2 mc2 ms2 : Nat) (xm' ym' : bd_M) (v : UInt64), (fr ≤ 11 ∧ lo ≤ 400 ∧ fr2 ≤ 11 ∧ lo2 ≤ 400 ∧ mc + mc2 ≤ 400 ∧ ms + ms2 ≤ 1600) ∧ bd_Ct l yX5_mean cX5_mean 1 (some .double) fr lo mc ms E [.ref (bd_ea E 0 0 0)] xm ym om xm' ym om (some (.double v)) ∧ bd_Ct l yX7_mean cX7_mean 4 (some .double) fr2 lo2 mc2 ms2 E [.ref (bd_ea E 12 0 0)] xm' ym om xm' ym' om (some (.double v)) ∧ J xm' ym'
abbrev la_O_digest (l : Launch) (E : bd_E) (xm ym : bd_M) (J : bd_M → bd_M → Prop) : Prop := ∀ om : Nat → Int64, ∃ (fr lo mc ms fr2 lo2 mc2 ms2 : Nat) (xm' ym' : bd_M) (v : Int64), (fr ≤ 11 ∧ lo ≤ 400 ∧ fr2 ≤ 11 ∧ lo2 ≤ 400 ∧ mc + mc2 ≤ 400 ∧ ms + ms2 ≤ 1600) ∧ bd_Ct l yX5_digest cX5_digest 1 (some .long) fr lo mc ms E [.ref (bd_ea E 0 0 0)] xm ym om xm' ym om (some (.long v)) ∧ bd_Ct l yX7_digest cX7_digest 6 (some .long) fr2 lo2 mc2 ms2 E [.ref (bd_ea E 12 0 0)] xm' ym om xm' ym' om (some (.long v)) ∧ J xm' ym'
def la_All (l : Launch) (E : bd_E) (xm ym : bd_M) (J : bd_M → bd_M → Prop) : Prop := la_O_addPlayer l E xm ym J ∧ la_O_found l E xm ym J ∧ la_O_seat l E xm ym J ∧ la_O_change l E xm ym J ∧ la_O_absent l E xm ym J ∧ la_O_rehearse l E xm ym J ∧ la_O_setPiece l E xm ym J ∧ la_O_setTaste l E xm ym J ∧ la_O_player l E xm ym J ∧ la_O_band l E xm ym J ∧ la_O_chair l E xm ym J ∧ la_O_contest l E xm ym J ∧ la_O_rank l E xm ym J ∧ la_O_count l E xm ym J ∧ la_O_foresee l E xm ym J ∧ la_O_advise l E xm ym J ∧ la_O_free l E xm ym J ∧ la_O_mean l E xm ym J ∧ la_O_digest l E xm ym J ∧ J xm ym
theorem la_and (x : Int32) : ∃ k : Nat, k < 32 ∧ x &&& 31 = nI k := by
  refine ⟨(x &&& 31).toBitVec.toNat, ?_, ?_⟩
  · rw [Int32.toBitVec_and]
    show (x.toBitVec &&& 31#32).toNat < 32
    rw [BitVec.toNat_and]
    exact Nat.lt_of_le_of_lt Nat.and_le_right (by decide)
  · apply Int32.toBitVec_inj.mp
    show _ = BitVec.ofNat 32 _
    rw [BitVec.ofNat_toNat]
    simp
theorem la_gt {L g : Nat} (hL : L ≤ 2560) (hg : g ≤ 2560) (h : ¬ Int32.ofNat L - 5 < nI g) : g + 5 ≤ L := by
  by_cases h5 : 5 ≤ L
  · have e : Int32.ofNat L - 5 = nI (L - 5) := by
      show nI L - nI 5 = nI (L - 5)
      rw [show nI L = nI (L - 5) + nI 5 by rw [nI_add]; congr 1; omega]
      exact Int32.add_sub_cancel _ _
    rw [e, nI_ltI (by omega) (by omega)] at h
    omega
  · exfalso
    apply h
    have hp : (0 : Int32) ≤ nI g := Int32.not_lt.mp (nI_pos (by omega))
    obtain rfl | rfl | rfl | rfl | rfl : L = 0 ∨ L = 1 ∨ L = 2 ∨ L = 3 ∨ L = 4 := by omega
    all_goals exact Int32.lt_of_lt_of_le (by decide) hp
section LAL
variable {p : Program} {l : Launch} {e : Env} {R : Room} {s : State} {m : MethodId} {below : List Frame} {meth : Method} {c : Code} {Q : State → Prop} {E : bd_E} {b L : Nat} {xs : Nat → Int32}
set_option maxHeartbeats 8000000 in
set_option maxRecDepth 100000 in
theorem la_loop (A : la_At E p s m c b L xs) (hR0 : 12 ≤ R.frames ∧ 440 ≤ R.locals) (Jn : Nat → bd_M → bd_M → Prop) (st : ∀ i xm ym, i < 512 → Jn i xm ym → la_All l E xm ym (Jn (i + 1))) (c0 s0 : Nat) (hf : c0 + 400 * 512 ≤ R.cells ∧ s0 + 1600 * 512 ≤ R.slots)
    (fin : ∀ (H : Heap) (locs : List Loc) (ls : Array Slot), va_S (bd_A E) s.heap H locs → W p l e R s m #[Value.ref b] below meth c H locs (c0 + 400 * 512) (s0 + 1600 * 512) Q (F0 m 1321 ls [])) :
    ∀ (t i : Nat), i ≤ 512 → 512 - i < t → ∀ (xm ym : bd_M) (om : Nat → Int64) (H : Heap) (locs : List Loc) (ls : Array Slot), Jn i xm ym → bd_Rep E xm ym om H → va_S (bd_A E) s.heap H locs → lv_has ls 9 (la_lv E b (5 * i)) → W p l e R s m #[Value.ref b] below meth c H locs (c0 + 400 * i) (s0 + 1600 * i) Q (F0 m 23 ls []) := by
  intro t
  induction t with
  | zero => intro i h1 h2; exact absurd h2 (Nat.not_lt_zero _)
  | succ t ih =>
    intro i hi1 hi2 xm ym om H locs ls hJ hR hS hl
    have C := A.1
    have hx := C.1.1
    have hb := C.1.2.1
    have hL := A.2.2.2.2.2.2
    refine lv_iload hx hb dL_law_23 (lv_at hl 4 rfl) ?_
    refine lv_aload_n hx hb dL_law_25 rfl (lv_at hl 0 rfl) ?_
    refine va_slen hx hb A.2.2.2.1 A.2.2.2.2.1 A.2.2.2.2.2.1 hS dL_law_26 ?_
    refine lv_iconst (v := 5) hx hb dL_law_27 (by decide) ?_
    refine lv_isub hx hb dL_law_28 ?_
    refine lv_icmp_gt (tgt := 1321) hx hb dL_law_29 (by decide) (fun _ => ?_) (fun c29 => ?_)
    · exact W.widen (by omega) (by omega) (fin H locs ls hS)
    · have hg : 5 * i + 5 ≤ L := la_gt hL (by omega) c29
      have hi5 : i < 512 := by omega
      have hf2 : c0 + 400 * i + 400 ≤ R.cells ∧ s0 + 1600 * i + 1600 ≤ R.slots := ⟨by omega, by omega⟩
      have nxt : ∀ (xm' ym' : bd_M) (om' : Nat → Int64) (H1 : Heap) (locs1 : List Loc) (ls1 : Array Slot), Jn (i + 1) xm' ym' → bd_Rep E xm' ym' om' H1 → va_S (bd_A E) s.heap H1 locs1 → lv_has ls1 9 (la_lv E b (5 * i)) → W p l e R s m #[Value.ref b] below meth c H1 locs1 (c0 + 400 * i + 400) (s0 + 1600 * i + 1600) Q (F0 m 1315 ls1 []) := by
        intro xm' ym' om' H1 locs1 ls1 hJ' hR' hS' hl'
        refine lv_iinc (v := nI (5 * (i + 1))) (lv' := [(4, .int (nI (5 * (i + 1)))), (0, .ref b), (1, .ref (bd_ea E 0 0 0)), (2, .ref (bd_ea E 12 0 0)), (3, .ref (bd_ea E 30 0 0))]) hx hb dL_law_1315 hl' (k := 4) rfl (by show nI (5 * i) + nI 5 = _; rw [nI_add]; congr 1) (by decide) rfl (fun ls2 hl2 => ?_)
        refine lv_goto (tgt := 23) hx hb dL_law_1318 (by decide) ?_
        exact W.widen (by omega) (by omega) (ih (i + 1) (by omega) (by omega) xm' ym' om' H1 locs1 ls2 hJ' hR' hS' (lv_sub hl2 [1, 2, 3, 4, 0] rfl))
      obtain ⟨o0, o1, o2, o3, o4, o5, o6, o7, o8, o9, o10, o11, o12, o13, o14, o15, o16, o17, o18, o19⟩ := st i xm ym hi5 hJ
      refine lv_aload_n hx hb dL_law_32 rfl (lv_at hl 0 rfl) ?_
      refine lv_iload hx hb dL_law_33 (lv_at hl 4 rfl) ?_
      refine la_sld0 A hS (by omega) dL_law_35 ?_
      refine lv_bipush (v := 31) hx hb dL_law_36 (by decide) ?_
      refine lv_iand hx hb dL_law_38 ?_
      obtain ⟨k, hk, ek⟩ := la_and (xs (5 * i))
      rw [ek]
      match k, hk with
      | 0, _ => exact lv_tableIn (tgt := 128) hx hb dL_law_39 (by decide) (by decide) rfl (by decide) (la_addPlayer A hR0 (by omega) (o0 (xs (5 * i + 1)) (xs (5 * i + 2)) (xs (5 * i + 3)) (xs (5 * i + 4)) om) hR hS hl hf2 nxt)
      | 1, _ => exact lv_tableIn (tgt := 220) hx hb dL_law_39 (by decide) (by decide) rfl (by decide) (la_found A hR0 (by omega) (o1 (xs (5 * i + 1)) om) hR hS hl hf2 nxt)
      | 2, _ => exact lv_tableIn (tgt := 276) hx hb dL_law_39 (by decide) (by decide) rfl (by decide) (la_seat A hR0 (by omega) (o2 (xs (5 * i + 1)) (xs (5 * i + 2)) (xs (5 * i + 3)) om) hR hS hl hf2 nxt)
      | 3, _ => exact lv_tableIn (tgt := 356) hx hb dL_law_39 (by decide) (by decide) rfl (by decide) (la_change A hR0 (by omega) (o3 (xs (5 * i + 1)) (xs (5 * i + 2)) (xs (5 * i + 3)) om) hR hS hl hf2 nxt)
      | 4, _ => exact lv_tableIn (tgt := 436) hx hb dL_law_39 (by decide) (by decide) rfl (by decide) (la_absent A hR0 (by omega) (o4 (xs (5 * i + 1)) (xs (5 * i + 2)) om) hR hS hl hf2 nxt)
      | 5, _ => exact lv_tableIn (tgt := 504) hx hb dL_law_39 (by decide) (by decide) rfl (by decide) (la_rehearse A hR0 (by omega) (o5 (xs (5 * i + 1)) om) hR hS hl hf2 nxt)
      | 6, _ => exact lv_tableIn (tgt := 560) hx hb dL_law_39 (by decide) (by decide) rfl (by decide) (la_setPiece A hR0 (by omega) (o6 (xs (5 * i + 1)) (xs (5 * i + 2)) om) hR hS hl hf2 nxt)
      | 7, _ => exact lv_tableIn (tgt := 628) hx hb dL_law_39 (by decide) (by decide) rfl (by decide) (la_setTaste A hR0 (by omega) (o7 (xs (5 * i + 1)) (xs (5 * i + 2)) om) hR hS hl hf2 nxt)
      | 8, _ => exact lv_tableIn (tgt := 696) hx hb dL_law_39 (by decide) (by decide) rfl (by decide) (la_player A hR0 (by omega) (o8 (xs (5 * i + 1)) (xs (5 * i + 2)) om) hR hS hl hf2 nxt)
      | 9, _ => exact lv_tableIn (tgt := 764) hx hb dL_law_39 (by decide) (by decide) rfl (by decide) (la_band A hR0 (by omega) (o9 (xs (5 * i + 1)) (xs (5 * i + 2)) om) hR hS hl hf2 nxt)
      | 10, _ => exact lv_tableIn (tgt := 832) hx hb dL_law_39 (by decide) (by decide) rfl (by decide) (la_chair A hR0 (by omega) (o10 (xs (5 * i + 1)) (xs (5 * i + 2)) (xs (5 * i + 3)) om) hR hS hl hf2 nxt)
      | 11, _ => exact lv_tableIn (tgt := 912) hx hb dL_law_39 (by decide) (by decide) rfl (by decide) (la_contest A hR0 (by omega) (o11 om) hR hS hl hf2 nxt)
      | 12, _ => exact lv_tableIn (tgt := 956) hx hb dL_law_39 (by decide) (by decide) rfl (by decide) (la_rank A hR0 (by omega) (o12 (xs (5 * i + 1)) om) hR hS hl hf2 nxt)
      | 13, _ => exact lv_tableIn (tgt := 1012) hx hb dL_law_39 (by decide) (by decide) rfl (by decide) (la_count A hR0 (by omega) (o13 (xs (5 * i + 1)) om) hR hS hl hf2 nxt)
      | 14, _ => exact lv_tableIn (tgt := 1068) hx hb dL_law_39 (by decide) (by decide) rfl (by decide) (la_foresee A hR0 (by omega) (o14 (xs (5 * i + 1)) (xs (5 * i + 2)) (xs (5 * i + 3)) om) hR hS hl hf2 nxt)
      | 15, _ => exact lv_tableIn (tgt := 1148) hx hb dL_law_39 (by decide) (by decide) rfl (by decide) (la_advise A hR0 (by omega) (o15 (xs (5 * i + 1)) om) hR hS hl hf2 nxt)
      | 16, _ => exact lv_tableIn (tgt := 1204) hx hb dL_law_39 (by decide) (by decide) rfl (by decide) (la_free A hR0 (by omega) (o16 (xs (5 * i + 1)) om) hR hS hl hf2 nxt)
      | 17, _ =>
        obtain ⟨fr, lo, mc, ms, fr2, lo2, mc2, ms2, xm', ym', v, hB, hM, hM2, hJ'⟩ := o17 om
        exact lv_tableIn (tgt := 1260) hx hb dL_law_39 (by decide) (by decide) rfl (by decide) (la_mean A hR0 hB hM hM2 hR hS hl hf2 (fun H1 locs1 ls1 hR' hS' hl' => nxt xm' ym' om H1 locs1 ls1 hJ' hR' hS' hl'))
      | 18, _ =>
        obtain ⟨fr, lo, mc, ms, fr2, lo2, mc2, ms2, xm', ym', v, hB, hM, hM2, hJ'⟩ := o18 om
        exact lv_tableIn (tgt := 1301) hx hb dL_law_39 (by decide) (by decide) rfl (by decide) (la_digest A hR0 hB hM hM2 hR hS hl hf2 (fun H1 locs1 ls1 hR' hS' hl' => nxt xm' ym' om H1 locs1 ls1 hJ' hR' hS' hl'))
      | k + 19, hk =>
        refine lv_tableOut (tgt := 1315) hx hb dL_law_39 (Or.inr ?_) (by decide) ?_
        · rw [nI_toInt (by omega)]
          omega
        · exact W.widen (by omega) (by omega) (nxt xm ym om H locs ls o19 hR hS hl)
end LAL
