/-! ROWS: one instruction each, over the world bd_Rep (printed by wip/whole/tools/mkrows.py) -/
/-- the family in which a field of the class's memory stands -/
def bd_fam (f : Nat) : Nat := if f ≤ 7 then 7 else if f ≤ 12 then 11 else if f ≤ 27 then 9 else if f ≤ 34 then 1 else if f = 35 then 5 else if f = 36 then 6 else 8
/-- families of many objects a season -/
def bd_ob (f : Nat) : Bool := f == 7 || f == 8 || f == 9 || f == 11
theorem bd_up_s {x : bd_M} {f w k : Nat} {v : Int32} : bd_up x f w k v f w k = v := by simp [bd_up]
theorem bd_up_n {x : bd_M} {f w k f' w' k' : Nat} {v : Int32} (h : ¬ (f' = f ∧ w' = w ∧ k' = k)) : bd_up x f w k v f' w' k' = x f' w' k' := if_neg h
theorem bd_up_f {x : bd_M} {f w k f' w' k' : Nat} {v : Int32} (h : f' ≠ f) : bd_up x f w k v f' w' k' = x f' w' k' := if_neg (fun q => h q.1)
theorem bd_ceX {E : bd_E} {xm xm' ym : bd_M} {om : Nat → Int64} {f w k : Nat} (hd : bd_dm f w k) (h : ∀ F k2, bd_fam F = f → (bd_ob f = true → k2 = k) → xm' F w k2 = xm F w k2) : bd_ce E xm' ym om f w k = bd_ce E xm ym om f w k := by
  obtain ⟨h1, h2, h3⟩ := hd
  match f, h1, h2, h3, h with

  | 0, _, _, _, _ => rfl
  | 1, _, h2, h3, h => have e : k = 0 := Nat.lt_one_iff.mp h3; subst e; simp only [bd_ce]; rw [h 30 0 (by decide) (by decide), h 31 0 (by decide) (by decide), h 32 0 (by decide) (by decide), h 33 0 (by decide) (by decide), h 34 0 (by decide) (by decide)]
  | 2, _, _, _, _ => rfl
  | 3, _, _, _, _ => rfl
  | 4, _, _, _, _ => rfl
  | 5, _, _, _, h => have e : (fun j => xm' 35 w j) = (fun j => xm 35 w j) := funext fun j => h 35 j (by decide) (fun q => absurd q (by decide)); simp only [bd_ce]; rw [e]
  | 6, _, _, _, h => have e : (fun j => xm' 36 w j) = (fun j => xm 36 w j) := funext fun j => h 36 j (by decide) (fun q => absurd q (by decide)); simp only [bd_ce]; rw [e]
  | 7, _, _, _, h => simp only [bd_ce]; rw [h 0 k (by decide) (fun _ => rfl), h 1 k (by decide) (fun _ => rfl), h 2 k (by decide) (fun _ => rfl), h 3 k (by decide) (fun _ => rfl), h 4 k (by decide) (fun _ => rfl), h 5 k (by decide) (fun _ => rfl), h 6 k (by decide) (fun _ => rfl), h 7 k (by decide) (fun _ => rfl)]
  | 8, _, _, _, h => have e : (fun j => xm' (j + 1000) w k) = (fun j => xm (j + 1000) w k) := funext fun j => h (j + 1000) k (by simp only [bd_fam]; repeat (first | rw [if_neg (by omega)] | rfl)) (fun _ => rfl); simp only [bd_ce]; rw [e]
  | 9, _, _, _, h => simp only [bd_ce]; rw [h 20 k (by decide) (fun _ => rfl), h 21 k (by decide) (fun _ => rfl), h 22 k (by decide) (fun _ => rfl), h 23 k (by decide) (fun _ => rfl), h 24 k (by decide) (fun _ => rfl), h 25 k (by decide) (fun _ => rfl), h 26 k (by decide) (fun _ => rfl), h 27 k (by decide) (fun _ => rfl)]
  | 10, _, _, _, _ => rfl
  | 11, _, _, _, h => simp only [bd_ce]; rw [h 10 k (by decide) (fun _ => rfl), h 11 k (by decide) (fun _ => rfl), h 12 k (by decide) (fun _ => rfl)]
  | 12, _, _, _, _ => rfl
  | 13, _, _, _, _ => rfl
  | 14, _, _, _, _ => rfl
  | 15, _, _, _, _ => rfl
  | 16, _, _, _, _ => rfl
  | 17, _, _, _, _ => rfl
  | 18, _, _, _, _ => rfl
  | 19, _, _, _, _ => rfl
  | 20, _, _, _, _ => rfl
  | 21, _, _, _, _ => rfl
  | 22, _, _, _, _ => rfl
  | 23, _, _, _, _ => rfl
  | 24, _, _, _, _ => rfl
  | 25, _, _, _, _ => rfl
  | 26, _, _, _, _ => rfl
  | 27, _, _, _, _ => rfl
  | 28, _, _, _, _ => rfl
  | 29, _, _, _, _ => rfl
  | 30, _, _, _, _ => rfl
  | n + 31, h1, _, _, _ => exact absurd h1 (by omega)
theorem bd_upX {E : bd_E} {xm ym : bd_M} {om : Nat → Int64} {F w kk kc : Nat} {v : Int32} {e : va_E} (hc : bd_ce E (bd_up xm F w kk v) ym om (bd_fam F) w kc = e) (h1 : bd_ob (bd_fam F) = true → kc = kk) (h2 : bd_ob (bd_fam F) = false → kc = 0 ∧ bd_kN (bd_fam F) = 1) : bd_Up E xm ym om (bd_up xm F w kk v) ym om (bd_fam F) w kc e := by
  refine ⟨hc, fun f' w' k' hd hn => bd_ceX hd fun F2 k2 hF hk => bd_up_n (fun q => hn ?_)⟩
  obtain ⟨rfl, rfl, rfl⟩ := q
  subst hF
  refine ⟨rfl, rfl, ?_⟩
  cases hb : bd_ob (bd_fam F2) with
  | true => rw [h1 hb, hk hb]
  | false =>
    obtain ⟨a1, a2⟩ := h2 hb
    have h3 := hd.2.2
    rw [a2] at h3
    omega
def bd_fmY (f : Nat) : Nat := if f ≤ 2 then 12 else if f ≤ 12 then 18 else f
theorem bd_ceY {E : bd_E} {xm ym ym' : bd_M} {om : Nat → Int64} {f w k : Nat} (hd : bd_dm f w k) (h : ∀ F k2, bd_fmY F = f → ym' F w k2 = ym F w k2) : bd_ce E xm ym' om f w k = bd_ce E xm ym om f w k := by
  obtain ⟨h1, h2, h3⟩ := hd
  match f, h1, h2, h3, h with
  | 0, _, _, _, _ => rfl
  | 1, _, _, _, _ => rfl
  | 2, _, _, _, _ => rfl
  | 3, _, _, _, _ => rfl
  | 4, _, _, _, _ => rfl
  | 5, _, _, _, _ => rfl
  | 6, _, _, _, _ => rfl
  | 7, _, _, _, _ => rfl
  | 8, _, _, _, _ => rfl
  | 9, _, _, _, _ => rfl
  | 10, _, _, _, _ => rfl
  | 11, _, _, _, _ => rfl
  | 12, _, h2, _, h => have e : w = 0 := Nat.lt_one_iff.mp h2; subst e; simp only [bd_ce]; rw [h 0 0 (by decide), h 1 0 (by decide), h 2 0 (by decide)]
  | 13, _, _, _, h => have e : (fun j => ym' 13 w j) = (fun j => ym 13 w j) := funext fun j => h 13 j (by decide); simp only [bd_ce]; rw [e]
  | 14, _, _, _, h => have e : (fun j => ym' 14 w j) = (fun j => ym 14 w j) := funext fun j => h 14 j (by decide); simp only [bd_ce]; rw [e]
  | 15, _, _, _, h => have e : (fun j => ym' 15 w j) = (fun j => ym 15 w j) := funext fun j => h 15 j (by decide); simp only [bd_ce]; rw [e]
  | 16, _, _, _, h => have e : (fun j => ym' 16 w j) = (fun j => ym 16 w j) := funext fun j => h 16 j (by decide); simp only [bd_ce]; rw [e]
  | 17, _, _, _, h => have e : (fun j => ym' 17 w j) = (fun j => ym 17 w j) := funext fun j => h 17 j (by decide); simp only [bd_ce]; rw [e]
  | 18, _, _, _, h => simp only [bd_ce]; rw [h 10 0 (by decide), h 11 0 (by decide), h 12 0 (by decide)]
  | 19, _, _, _, h => have e : (fun j => ym' 19 w j) = (fun j => ym 19 w j) := funext fun j => h 19 j (by decide); simp only [bd_ce]; rw [e]
  | 20, _, _, _, h => have e : (fun j => ym' 20 w j) = (fun j => ym 20 w j) := funext fun j => h 20 j (by decide); simp only [bd_ce]; rw [e]
  | 21, _, _, _, h => have e : (fun j => ym' 21 w j) = (fun j => ym 21 w j) := funext fun j => h 21 j (by decide); simp only [bd_ce]; rw [e]
  | 22, _, _, _, h => have e : (fun j => ym' 22 w j) = (fun j => ym 22 w j) := funext fun j => h 22 j (by decide); simp only [bd_ce]; rw [e]
  | 23, _, _, _, h => have e : (fun j => ym' 23 w j) = (fun j => ym 23 w j) := funext fun j => h 23 j (by decide); simp only [bd_ce]; rw [e]
  | 24, _, _, _, h => have e : (fun j => ym' 24 w j) = (fun j => ym 24 w j) := funext fun j => h 24 j (by decide); simp only [bd_ce]; rw [e]
  | 25, _, _, _, h => have e : (fun j => ym' 25 w j) = (fun j => ym 25 w j) := funext fun j => h 25 j (by decide); simp only [bd_ce]; rw [e]
  | 26, _, _, _, h => have e : (fun j => ym' 26 w j) = (fun j => ym 26 w j) := funext fun j => h 26 j (by decide); simp only [bd_ce]; rw [e]
  | 27, _, _, _, h => have e : (fun j => ym' 27 w j) = (fun j => ym 27 w j) := funext fun j => h 27 j (by decide); simp only [bd_ce]; rw [e]
  | 28, _, _, _, h => have e : (fun j => ym' 28 w j) = (fun j => ym 28 w j) := funext fun j => h 28 j (by decide); simp only [bd_ce]; rw [e]
  | 29, _, _, _, h => have e : (fun j => ym' 29 w j) = (fun j => ym 29 w j) := funext fun j => h 29 j (by decide); simp only [bd_ce]; rw [e]
  | 30, _, _, _, _ => rfl
  | n + 31, h1, _, _, _ => exact absurd h1 (by omega)
theorem bd_upY {E : bd_E} {xm ym : bd_M} {om : Nat → Int64} {F w kk : Nat} {v : Int32} {e : va_E} (hc : bd_ce E xm (bd_up ym F w kk v) om (bd_fmY F) w 0 = e) (h2 : bd_kN (bd_fmY F) = 1) : bd_Up E xm ym om xm (bd_up ym F w kk v) om (bd_fmY F) w 0 e := by
  refine ⟨hc, fun f' w' k' hd hn => bd_ceY hd fun F2 k2 hF => bd_up_n (fun q => hn ?_)⟩
  obtain ⟨rfl, rfl, rfl⟩ := q
  subst hF
  have h3 := hd.2.2
  rw [h2] at h3
  exact ⟨rfl, rfl, by omega⟩
/-- a row of one season becomes another one -/
def bd_ro (x : bd_M) (f w : Nat) (g : Nat → Int32) : bd_M := fun f' w' k' => if f' = f ∧ w' = w then g k' else x f' w' k'
/-- the skills of a player become others -/
def bd_sk (x : bd_M) (w k : Nat) (g : Nat → Int32) : bd_M := fun f' w' k' => if 1000 ≤ f' ∧ w' = w ∧ k' = k then g (f' - 1000) else x f' w' k'
theorem bd_roY {E : bd_E} {xm ym : bd_M} {om : Nat → Int64} {F w : Nat} {g : Nat → Int32} {e : va_E} (hc : bd_ce E xm (bd_ro ym F w g) om (bd_fmY F) w 0 = e) (h2 : bd_kN (bd_fmY F) = 1) : bd_Up E xm ym om xm (bd_ro ym F w g) om (bd_fmY F) w 0 e := by
  refine ⟨hc, fun f' w' k' hd hn => bd_ceY hd fun F2 k2 hF => if_neg (fun q => hn ?_)⟩
  obtain ⟨rfl, rfl⟩ := q
  subst hF
  have h3 := hd.2.2
  rw [h2] at h3
  exact ⟨rfl, rfl, by omega⟩
theorem bd_roX {E : bd_E} {xm ym : bd_M} {om : Nat → Int64} {F w : Nat} {g : Nat → Int32} {e : va_E} (hc : bd_ce E (bd_ro xm F w g) ym om (bd_fam F) w 0 = e) (h2 : bd_kN (bd_fam F) = 1) : bd_Up E xm ym om (bd_ro xm F w g) ym om (bd_fam F) w 0 e := by
  refine ⟨hc, fun f' w' k' hd hn => bd_ceX hd fun F2 k2 hF _ => if_neg (fun q => hn ?_)⟩
  obtain ⟨rfl, rfl⟩ := q
  subst hF
  have h3 := hd.2.2
  rw [h2] at h3
  exact ⟨rfl, rfl, by omega⟩
theorem bd_skX {E : bd_E} {xm ym : bd_M} {om : Nat → Int64} {w k : Nat} {g : Nat → Int32} : bd_Up E xm ym om (bd_sk xm w k g) ym om 8 w k (bd_iA E 4 g) := by
  refine ⟨?_, fun f' w' k' hd hn => bd_ceX hd fun F2 k2 hF hk => if_neg (fun q => hn ?_)⟩
  · have e : (fun j => bd_sk xm w k g (j + 1000) w k) = g := funext fun j => by simp [bd_sk]
    simp only [bd_ce]
    rw [e]
  · obtain ⟨a1, rfl, a2⟩ := q
    have hf : bd_fam F2 = 8 := by
      simp only [bd_fam]
      repeat (first | rw [if_neg (by omega)] | rfl)
    rw [hf] at hF
    subst hF
    exact ⟨rfl, rfl, by rw [← hk (by decide), a2]⟩
/-- what a method's rows stand on -/
abbrev bd_Cx (E : bd_E) (p : Program) (m : MethodId) (c : Code) (cc : ByteArray) (nL : Nat) (s : State) (args : Array Value) (own : String) : Prop := CallFix p m c cc nL s args wsL_law own ∧ bd_KK E s
section BDR
variable {p : Program} {l : Launch} {e : Env} {R : Room} {s : State} {m : MethodId} {args : Array Value} {below : List Frame} {meth : Method} {c : Code} {H H0 : Heap} {locs : List Loc} {cells slots : Nat} {Q : State → Prop}
variable {cc : ByteArray} {pc nL : Nat} {ls : Array Slot} {rest : List Value} {E : bd_E} {xm ym : bd_M} {om : Nat → Int64} {own : String} {w k i : Nat}
theorem bd_g_X0_chairs (C : bd_Cx E p m c cc nL s args own) (hR : bd_Rep E xm ym om H) (hw : w < 2) (hk : k < 6) (hl : Cond.fieldLink own i "BandDay$Band" "chairs" "[LBandDay$Chair;" ∈ wsL_law) (hdg : decode cc pc = .ok (.getfield i, 3)) (kk : W p l e R s m args below meth c H locs cells slots Q (F0 m (pc + 3) ls (.ref (bd_ea E 10 w k) :: rest))) : W p l e R s m args below meth c H locs cells slots Q (F0 m pc ls (.ref (bd_ea E 9 w k) :: rest)) := by
  obtain ⟨q, hq⟩ := bd_pos (f := 9) (w := w) (k := k) ⟨by decide, hw, hk⟩
  exact va_get (D := bd_eD E) (ci := 0) (C := RX0) (T := TX0) (N := 9) C.1.1 C.1.2.1 C.1.2.2.2.2 inlX0 C.1.2.2.2.1 C.2.1 hR.P q (bd_ws_at hq) rfl 0 (by decide) (C.1.2.2.2.2 _ hl) (fun _ h => h) rfl hdg kk
theorem bd_g_X0_size (C : bd_Cx E p m c cc nL s args own) (hR : bd_Rep E xm ym om H) (hw : w < 2) (hk : k < 6) (hl : Cond.fieldLink own i "BandDay$Band" "size" "I" ∈ wsL_law) (hdg : decode cc pc = .ok (.getfield i, 3)) (kk : W p l e R s m args below meth c H locs cells slots Q (F0 m (pc + 3) ls (.int (xm 20 w k) :: rest))) : W p l e R s m args below meth c H locs cells slots Q (F0 m pc ls (.ref (bd_ea E 9 w k) :: rest)) := by
  obtain ⟨q, hq⟩ := bd_pos (f := 9) (w := w) (k := k) ⟨by decide, hw, hk⟩
  exact va_get (D := bd_eD E) (ci := 0) (C := RX0) (T := TX0) (N := 9) C.1.1 C.1.2.1 C.1.2.2.2.2 inlX0 C.1.2.2.2.1 C.2.1 hR.P q (bd_ws_at hq) rfl 1 (by decide) (C.1.2.2.2.2 _ hl) (fun _ h => h) rfl hdg kk
theorem bd_p_X0_size (C : bd_Cx E p m c cc nL s args own) (hR : bd_Rep E xm ym om H) (hS : va_S (bd_A E) H0 H locs) (hw : w < 2) (hk : k < 6) (hl : Cond.fieldLink own i "BandDay$Band" "size" "I" ∈ wsL_law) (hdg : decode cc pc = .ok (.putfield i, 3)) {v : Int32} (kk : ∀ (H1 : Heap) (locs1 : List Loc), bd_Rep E (bd_up xm 20 w k v) ym om H1 → va_S (bd_A E) H0 H1 locs1 → W p l e R s m args below meth c H1 locs1 cells slots Q (F0 m (pc + 3) ls rest)) : W p l e R s m args below meth c H locs cells slots Q (F0 m pc ls (.int v :: .ref (bd_ea E 9 w k) :: rest)) := by
  obtain ⟨q, hq⟩ := bd_pos (f := 9) (w := w) (k := k) ⟨by decide, hw, hk⟩
  exact va_put (D := bd_eD E) (ci := 0) (v := .int v) (ty := .int) (C := RX0) (T := TX0) (N := 9) C.1.1 C.1.2.1 C.1.2.2.2.2 inlX0 tyX0 tyX0_ok nmX0 C.1.2.2.2.1 C.2.1 hR.P hR.D hS q (bd_ws_at hq) rfl 1 (by decide) (C.1.2.2.2.2 _ hl) (fun _ h => h) rfl (by decide +kernel) rfl rfl (Nat.le_of_ble_eq_true rfl) hdg (fun H1 locs1 hP _ hS1 => kk H1 locs1 (bd_back hR hq (bd_upX (F := 20) (by simp [bd_ce, bd_up, bd_fam, bd_fmY]) (fun _ => rfl) (fun h => absurd h (by decide))) hP) hS1)
theorem bd_g_X0_spirit (C : bd_Cx E p m c cc nL s args own) (hR : bd_Rep E xm ym om H) (hw : w < 2) (hk : k < 6) (hl : Cond.fieldLink own i "BandDay$Band" "spirit" "I" ∈ wsL_law) (hdg : decode cc pc = .ok (.getfield i, 3)) (kk : W p l e R s m args below meth c H locs cells slots Q (F0 m (pc + 3) ls (.int (xm 21 w k) :: rest))) : W p l e R s m args below meth c H locs cells slots Q (F0 m pc ls (.ref (bd_ea E 9 w k) :: rest)) := by
  obtain ⟨q, hq⟩ := bd_pos (f := 9) (w := w) (k := k) ⟨by decide, hw, hk⟩
  exact va_get (D := bd_eD E) (ci := 0) (C := RX0) (T := TX0) (N := 9) C.1.1 C.1.2.1 C.1.2.2.2.2 inlX0 C.1.2.2.2.1 C.2.1 hR.P q (bd_ws_at hq) rfl 2 (by decide) (C.1.2.2.2.2 _ hl) (fun _ h => h) rfl hdg kk
theorem bd_p_X0_spirit (C : bd_Cx E p m c cc nL s args own) (hR : bd_Rep E xm ym om H) (hS : va_S (bd_A E) H0 H locs) (hw : w < 2) (hk : k < 6) (hl : Cond.fieldLink own i "BandDay$Band" "spirit" "I" ∈ wsL_law) (hdg : decode cc pc = .ok (.putfield i, 3)) {v : Int32} (kk : ∀ (H1 : Heap) (locs1 : List Loc), bd_Rep E (bd_up xm 21 w k v) ym om H1 → va_S (bd_A E) H0 H1 locs1 → W p l e R s m args below meth c H1 locs1 cells slots Q (F0 m (pc + 3) ls rest)) : W p l e R s m args below meth c H locs cells slots Q (F0 m pc ls (.int v :: .ref (bd_ea E 9 w k) :: rest)) := by
  obtain ⟨q, hq⟩ := bd_pos (f := 9) (w := w) (k := k) ⟨by decide, hw, hk⟩
  exact va_put (D := bd_eD E) (ci := 0) (v := .int v) (ty := .int) (C := RX0) (T := TX0) (N := 9) C.1.1 C.1.2.1 C.1.2.2.2.2 inlX0 tyX0 tyX0_ok nmX0 C.1.2.2.2.1 C.2.1 hR.P hR.D hS q (bd_ws_at hq) rfl 2 (by decide) (C.1.2.2.2.2 _ hl) (fun _ h => h) rfl (by decide +kernel) rfl rfl (Nat.le_of_ble_eq_true rfl) hdg (fun H1 locs1 hP _ hS1 => kk H1 locs1 (bd_back hR hq (bd_upX (F := 21) (by simp [bd_ce, bd_up, bd_fam, bd_fmY]) (fun _ => rfl) (fun h => absurd h (by decide))) hP) hS1)
theorem bd_g_X0_marks (C : bd_Cx E p m c cc nL s args own) (hR : bd_Rep E xm ym om H) (hw : w < 2) (hk : k < 6) (hl : Cond.fieldLink own i "BandDay$Band" "marks" "I" ∈ wsL_law) (hdg : decode cc pc = .ok (.getfield i, 3)) (kk : W p l e R s m args below meth c H locs cells slots Q (F0 m (pc + 3) ls (.int (xm 22 w k) :: rest))) : W p l e R s m args below meth c H locs cells slots Q (F0 m pc ls (.ref (bd_ea E 9 w k) :: rest)) := by
  obtain ⟨q, hq⟩ := bd_pos (f := 9) (w := w) (k := k) ⟨by decide, hw, hk⟩
  exact va_get (D := bd_eD E) (ci := 0) (C := RX0) (T := TX0) (N := 9) C.1.1 C.1.2.1 C.1.2.2.2.2 inlX0 C.1.2.2.2.1 C.2.1 hR.P q (bd_ws_at hq) rfl 3 (by decide) (C.1.2.2.2.2 _ hl) (fun _ h => h) rfl hdg kk
theorem bd_p_X0_marks (C : bd_Cx E p m c cc nL s args own) (hR : bd_Rep E xm ym om H) (hS : va_S (bd_A E) H0 H locs) (hw : w < 2) (hk : k < 6) (hl : Cond.fieldLink own i "BandDay$Band" "marks" "I" ∈ wsL_law) (hdg : decode cc pc = .ok (.putfield i, 3)) {v : Int32} (kk : ∀ (H1 : Heap) (locs1 : List Loc), bd_Rep E (bd_up xm 22 w k v) ym om H1 → va_S (bd_A E) H0 H1 locs1 → W p l e R s m args below meth c H1 locs1 cells slots Q (F0 m (pc + 3) ls rest)) : W p l e R s m args below meth c H locs cells slots Q (F0 m pc ls (.int v :: .ref (bd_ea E 9 w k) :: rest)) := by
  obtain ⟨q, hq⟩ := bd_pos (f := 9) (w := w) (k := k) ⟨by decide, hw, hk⟩
  exact va_put (D := bd_eD E) (ci := 0) (v := .int v) (ty := .int) (C := RX0) (T := TX0) (N := 9) C.1.1 C.1.2.1 C.1.2.2.2.2 inlX0 tyX0 tyX0_ok nmX0 C.1.2.2.2.1 C.2.1 hR.P hR.D hS q (bd_ws_at hq) rfl 3 (by decide) (C.1.2.2.2.2 _ hl) (fun _ h => h) rfl (by decide +kernel) rfl rfl (Nat.le_of_ble_eq_true rfl) hdg (fun H1 locs1 hP _ hS1 => kk H1 locs1 (bd_back hR hq (bd_upX (F := 22) (by simp [bd_ce, bd_up, bd_fam, bd_fmY]) (fun _ => rfl) (fun h => absurd h (by decide))) hP) hS1)
theorem bd_g_X0_place (C : bd_Cx E p m c cc nL s args own) (hR : bd_Rep E xm ym om H) (hw : w < 2) (hk : k < 6) (hl : Cond.fieldLink own i "BandDay$Band" "place" "I" ∈ wsL_law) (hdg : decode cc pc = .ok (.getfield i, 3)) (kk : W p l e R s m args below meth c H locs cells slots Q (F0 m (pc + 3) ls (.int (xm 23 w k) :: rest))) : W p l e R s m args below meth c H locs cells slots Q (F0 m pc ls (.ref (bd_ea E 9 w k) :: rest)) := by
  obtain ⟨q, hq⟩ := bd_pos (f := 9) (w := w) (k := k) ⟨by decide, hw, hk⟩
  exact va_get (D := bd_eD E) (ci := 0) (C := RX0) (T := TX0) (N := 9) C.1.1 C.1.2.1 C.1.2.2.2.2 inlX0 C.1.2.2.2.1 C.2.1 hR.P q (bd_ws_at hq) rfl 4 (by decide) (C.1.2.2.2.2 _ hl) (fun _ h => h) rfl hdg kk
theorem bd_p_X0_place (C : bd_Cx E p m c cc nL s args own) (hR : bd_Rep E xm ym om H) (hS : va_S (bd_A E) H0 H locs) (hw : w < 2) (hk : k < 6) (hl : Cond.fieldLink own i "BandDay$Band" "place" "I" ∈ wsL_law) (hdg : decode cc pc = .ok (.putfield i, 3)) {v : Int32} (kk : ∀ (H1 : Heap) (locs1 : List Loc), bd_Rep E (bd_up xm 23 w k v) ym om H1 → va_S (bd_A E) H0 H1 locs1 → W p l e R s m args below meth c H1 locs1 cells slots Q (F0 m (pc + 3) ls rest)) : W p l e R s m args below meth c H locs cells slots Q (F0 m pc ls (.int v :: .ref (bd_ea E 9 w k) :: rest)) := by
  obtain ⟨q, hq⟩ := bd_pos (f := 9) (w := w) (k := k) ⟨by decide, hw, hk⟩
  exact va_put (D := bd_eD E) (ci := 0) (v := .int v) (ty := .int) (C := RX0) (T := TX0) (N := 9) C.1.1 C.1.2.1 C.1.2.2.2.2 inlX0 tyX0 tyX0_ok nmX0 C.1.2.2.2.1 C.2.1 hR.P hR.D hS q (bd_ws_at hq) rfl 4 (by decide) (C.1.2.2.2.2 _ hl) (fun _ h => h) rfl (by decide +kernel) rfl rfl (Nat.le_of_ble_eq_true rfl) hdg (fun H1 locs1 hP _ hS1 => kk H1 locs1 (bd_back hR hq (bd_upX (F := 23) (by simp [bd_ce, bd_up, bd_fam, bd_fmY]) (fun _ => rfl) (fun h => absurd h (by decide))) hP) hS1)
theorem bd_g_X0_deputies (C : bd_Cx E p m c cc nL s args own) (hR : bd_Rep E xm ym om H) (hw : w < 2) (hk : k < 6) (hl : Cond.fieldLink own i "BandDay$Band" "deputies" "I" ∈ wsL_law) (hdg : decode cc pc = .ok (.getfield i, 3)) (kk : W p l e R s m args below meth c H locs cells slots Q (F0 m (pc + 3) ls (.int (xm 24 w k) :: rest))) : W p l e R s m args below meth c H locs cells slots Q (F0 m pc ls (.ref (bd_ea E 9 w k) :: rest)) := by
  obtain ⟨q, hq⟩ := bd_pos (f := 9) (w := w) (k := k) ⟨by decide, hw, hk⟩
  exact va_get (D := bd_eD E) (ci := 0) (C := RX0) (T := TX0) (N := 9) C.1.1 C.1.2.1 C.1.2.2.2.2 inlX0 C.1.2.2.2.1 C.2.1 hR.P q (bd_ws_at hq) rfl 5 (by decide) (C.1.2.2.2.2 _ hl) (fun _ h => h) rfl hdg kk
theorem bd_p_X0_deputies (C : bd_Cx E p m c cc nL s args own) (hR : bd_Rep E xm ym om H) (hS : va_S (bd_A E) H0 H locs) (hw : w < 2) (hk : k < 6) (hl : Cond.fieldLink own i "BandDay$Band" "deputies" "I" ∈ wsL_law) (hdg : decode cc pc = .ok (.putfield i, 3)) {v : Int32} (kk : ∀ (H1 : Heap) (locs1 : List Loc), bd_Rep E (bd_up xm 24 w k v) ym om H1 → va_S (bd_A E) H0 H1 locs1 → W p l e R s m args below meth c H1 locs1 cells slots Q (F0 m (pc + 3) ls rest)) : W p l e R s m args below meth c H locs cells slots Q (F0 m pc ls (.int v :: .ref (bd_ea E 9 w k) :: rest)) := by
  obtain ⟨q, hq⟩ := bd_pos (f := 9) (w := w) (k := k) ⟨by decide, hw, hk⟩
  exact va_put (D := bd_eD E) (ci := 0) (v := .int v) (ty := .int) (C := RX0) (T := TX0) (N := 9) C.1.1 C.1.2.1 C.1.2.2.2.2 inlX0 tyX0 tyX0_ok nmX0 C.1.2.2.2.1 C.2.1 hR.P hR.D hS q (bd_ws_at hq) rfl 5 (by decide) (C.1.2.2.2.2 _ hl) (fun _ h => h) rfl (by decide +kernel) rfl rfl (Nat.le_of_ble_eq_true rfl) hdg (fun H1 locs1 hP _ hS1 => kk H1 locs1 (bd_back hR hq (bd_upX (F := 24) (by simp [bd_ce, bd_up, bd_fam, bd_fmY]) (fun _ => rfl) (fun h => absurd h (by decide))) hP) hS1)
theorem bd_g_X0_empties (C : bd_Cx E p m c cc nL s args own) (hR : bd_Rep E xm ym om H) (hw : w < 2) (hk : k < 6) (hl : Cond.fieldLink own i "BandDay$Band" "empties" "I" ∈ wsL_law) (hdg : decode cc pc = .ok (.getfield i, 3)) (kk : W p l e R s m args below meth c H locs cells slots Q (F0 m (pc + 3) ls (.int (xm 25 w k) :: rest))) : W p l e R s m args below meth c H locs cells slots Q (F0 m pc ls (.ref (bd_ea E 9 w k) :: rest)) := by
  obtain ⟨q, hq⟩ := bd_pos (f := 9) (w := w) (k := k) ⟨by decide, hw, hk⟩
  exact va_get (D := bd_eD E) (ci := 0) (C := RX0) (T := TX0) (N := 9) C.1.1 C.1.2.1 C.1.2.2.2.2 inlX0 C.1.2.2.2.1 C.2.1 hR.P q (bd_ws_at hq) rfl 6 (by decide) (C.1.2.2.2.2 _ hl) (fun _ h => h) rfl hdg kk
theorem bd_p_X0_empties (C : bd_Cx E p m c cc nL s args own) (hR : bd_Rep E xm ym om H) (hS : va_S (bd_A E) H0 H locs) (hw : w < 2) (hk : k < 6) (hl : Cond.fieldLink own i "BandDay$Band" "empties" "I" ∈ wsL_law) (hdg : decode cc pc = .ok (.putfield i, 3)) {v : Int32} (kk : ∀ (H1 : Heap) (locs1 : List Loc), bd_Rep E (bd_up xm 25 w k v) ym om H1 → va_S (bd_A E) H0 H1 locs1 → W p l e R s m args below meth c H1 locs1 cells slots Q (F0 m (pc + 3) ls rest)) : W p l e R s m args below meth c H locs cells slots Q (F0 m pc ls (.int v :: .ref (bd_ea E 9 w k) :: rest)) := by
  obtain ⟨q, hq⟩ := bd_pos (f := 9) (w := w) (k := k) ⟨by decide, hw, hk⟩
  exact va_put (D := bd_eD E) (ci := 0) (v := .int v) (ty := .int) (C := RX0) (T := TX0) (N := 9) C.1.1 C.1.2.1 C.1.2.2.2.2 inlX0 tyX0 tyX0_ok nmX0 C.1.2.2.2.1 C.2.1 hR.P hR.D hS q (bd_ws_at hq) rfl 6 (by decide) (C.1.2.2.2.2 _ hl) (fun _ h => h) rfl (by decide +kernel) rfl rfl (Nat.le_of_ble_eq_true rfl) hdg (fun H1 locs1 hP _ hS1 => kk H1 locs1 (bd_back hR hq (bd_upX (F := 25) (by simp [bd_ce, bd_up, bd_fam, bd_fmY]) (fun _ => rfl) (fun h => absurd h (by decide))) hP) hS1)
theorem bd_g_X0_points (C : bd_Cx E p m c cc nL s args own) (hR : bd_Rep E xm ym om H) (hw : w < 2) (hk : k < 6) (hl : Cond.fieldLink own i "BandDay$Band" "points" "I" ∈ wsL_law) (hdg : decode cc pc = .ok (.getfield i, 3)) (kk : W p l e R s m args below meth c H locs cells slots Q (F0 m (pc + 3) ls (.int (xm 26 w k) :: rest))) : W p l e R s m args below meth c H locs cells slots Q (F0 m pc ls (.ref (bd_ea E 9 w k) :: rest)) := by
  obtain ⟨q, hq⟩ := bd_pos (f := 9) (w := w) (k := k) ⟨by decide, hw, hk⟩
  exact va_get (D := bd_eD E) (ci := 0) (C := RX0) (T := TX0) (N := 9) C.1.1 C.1.2.1 C.1.2.2.2.2 inlX0 C.1.2.2.2.1 C.2.1 hR.P q (bd_ws_at hq) rfl 7 (by decide) (C.1.2.2.2.2 _ hl) (fun _ h => h) rfl hdg kk
theorem bd_p_X0_points (C : bd_Cx E p m c cc nL s args own) (hR : bd_Rep E xm ym om H) (hS : va_S (bd_A E) H0 H locs) (hw : w < 2) (hk : k < 6) (hl : Cond.fieldLink own i "BandDay$Band" "points" "I" ∈ wsL_law) (hdg : decode cc pc = .ok (.putfield i, 3)) {v : Int32} (kk : ∀ (H1 : Heap) (locs1 : List Loc), bd_Rep E (bd_up xm 26 w k v) ym om H1 → va_S (bd_A E) H0 H1 locs1 → W p l e R s m args below meth c H1 locs1 cells slots Q (F0 m (pc + 3) ls rest)) : W p l e R s m args below meth c H locs cells slots Q (F0 m pc ls (.int v :: .ref (bd_ea E 9 w k) :: rest)) := by
  obtain ⟨q, hq⟩ := bd_pos (f := 9) (w := w) (k := k) ⟨by decide, hw, hk⟩
  exact va_put (D := bd_eD E) (ci := 0) (v := .int v) (ty := .int) (C := RX0) (T := TX0) (N := 9) C.1.1 C.1.2.1 C.1.2.2.2.2 inlX0 tyX0 tyX0_ok nmX0 C.1.2.2.2.1 C.2.1 hR.P hR.D hS q (bd_ws_at hq) rfl 7 (by decide) (C.1.2.2.2.2 _ hl) (fun _ h => h) rfl (by decide +kernel) rfl rfl (Nat.le_of_ble_eq_true rfl) hdg (fun H1 locs1 hP _ hS1 => kk H1 locs1 (bd_back hR hq (bd_upX (F := 26) (by simp [bd_ce, bd_up, bd_fam, bd_fmY]) (fun _ => rfl) (fun h => absurd h (by decide))) hP) hS1)
theorem bd_g_X0_outs (C : bd_Cx E p m c cc nL s args own) (hR : bd_Rep E xm ym om H) (hw : w < 2) (hk : k < 6) (hl : Cond.fieldLink own i "BandDay$Band" "outs" "I" ∈ wsL_law) (hdg : decode cc pc = .ok (.getfield i, 3)) (kk : W p l e R s m args below meth c H locs cells slots Q (F0 m (pc + 3) ls (.int (xm 27 w k) :: rest))) : W p l e R s m args below meth c H locs cells slots Q (F0 m pc ls (.ref (bd_ea E 9 w k) :: rest)) := by
  obtain ⟨q, hq⟩ := bd_pos (f := 9) (w := w) (k := k) ⟨by decide, hw, hk⟩
  exact va_get (D := bd_eD E) (ci := 0) (C := RX0) (T := TX0) (N := 9) C.1.1 C.1.2.1 C.1.2.2.2.2 inlX0 C.1.2.2.2.1 C.2.1 hR.P q (bd_ws_at hq) rfl 8 (by decide) (C.1.2.2.2.2 _ hl) (fun _ h => h) rfl hdg kk
theorem bd_p_X0_outs (C : bd_Cx E p m c cc nL s args own) (hR : bd_Rep E xm ym om H) (hS : va_S (bd_A E) H0 H locs) (hw : w < 2) (hk : k < 6) (hl : Cond.fieldLink own i "BandDay$Band" "outs" "I" ∈ wsL_law) (hdg : decode cc pc = .ok (.putfield i, 3)) {v : Int32} (kk : ∀ (H1 : Heap) (locs1 : List Loc), bd_Rep E (bd_up xm 27 w k v) ym om H1 → va_S (bd_A E) H0 H1 locs1 → W p l e R s m args below meth c H1 locs1 cells slots Q (F0 m (pc + 3) ls rest)) : W p l e R s m args below meth c H locs cells slots Q (F0 m pc ls (.int v :: .ref (bd_ea E 9 w k) :: rest)) := by
  obtain ⟨q, hq⟩ := bd_pos (f := 9) (w := w) (k := k) ⟨by decide, hw, hk⟩
  exact va_put (D := bd_eD E) (ci := 0) (v := .int v) (ty := .int) (C := RX0) (T := TX0) (N := 9) C.1.1 C.1.2.1 C.1.2.2.2.2 inlX0 tyX0 tyX0_ok nmX0 C.1.2.2.2.1 C.2.1 hR.P hR.D hS q (bd_ws_at hq) rfl 8 (by decide) (C.1.2.2.2.2 _ hl) (fun _ h => h) rfl (by decide +kernel) rfl rfl (Nat.le_of_ble_eq_true rfl) hdg (fun H1 locs1 hP _ hS1 => kk H1 locs1 (bd_back hR hq (bd_upX (F := 27) (by simp [bd_ce, bd_up, bd_fam, bd_fmY]) (fun _ => rfl) (fun h => absurd h (by decide))) hP) hS1)
theorem bd_g_X1_instrument (C : bd_Cx E p m c cc nL s args own) (hR : bd_Rep E xm ym om H) (hw : w < 2) (hk : k < 48) (hl : Cond.fieldLink own i "BandDay$Chair" "instrument" "I" ∈ wsL_law) (hdg : decode cc pc = .ok (.getfield i, 3)) (kk : W p l e R s m args below meth c H locs cells slots Q (F0 m (pc + 3) ls (.int (xm 10 w k) :: rest))) : W p l e R s m args below meth c H locs cells slots Q (F0 m pc ls (.ref (bd_ea E 11 w k) :: rest)) := by
  obtain ⟨q, hq⟩ := bd_pos (f := 11) (w := w) (k := k) ⟨by decide, hw, hk⟩
  exact va_get (D := bd_eD E) (ci := 1) (C := RX1) (T := TX1) (N := 3) C.1.1 C.1.2.1 C.1.2.2.2.2 inlX1 C.1.2.2.2.1 C.2.1 hR.P q (bd_ws_at hq) rfl 0 (by decide) (C.1.2.2.2.2 _ hl) (fun _ h => h) rfl hdg kk
theorem bd_p_X1_instrument (C : bd_Cx E p m c cc nL s args own) (hR : bd_Rep E xm ym om H) (hS : va_S (bd_A E) H0 H locs) (hw : w < 2) (hk : k < 48) (hl : Cond.fieldLink own i "BandDay$Chair" "instrument" "I" ∈ wsL_law) (hdg : decode cc pc = .ok (.putfield i, 3)) {v : Int32} (kk : ∀ (H1 : Heap) (locs1 : List Loc), bd_Rep E (bd_up xm 10 w k v) ym om H1 → va_S (bd_A E) H0 H1 locs1 → W p l e R s m args below meth c H1 locs1 cells slots Q (F0 m (pc + 3) ls rest)) : W p l e R s m args below meth c H locs cells slots Q (F0 m pc ls (.int v :: .ref (bd_ea E 11 w k) :: rest)) := by
  obtain ⟨q, hq⟩ := bd_pos (f := 11) (w := w) (k := k) ⟨by decide, hw, hk⟩
  exact va_put (D := bd_eD E) (ci := 1) (v := .int v) (ty := .int) (C := RX1) (T := TX1) (N := 3) C.1.1 C.1.2.1 C.1.2.2.2.2 inlX1 tyX1 tyX1_ok nmX1 C.1.2.2.2.1 C.2.1 hR.P hR.D hS q (bd_ws_at hq) rfl 0 (by decide) (C.1.2.2.2.2 _ hl) (fun _ h => h) rfl (by decide +kernel) rfl rfl (Nat.le_of_ble_eq_true rfl) hdg (fun H1 locs1 hP _ hS1 => kk H1 locs1 (bd_back hR hq (bd_upX (F := 10) (by simp [bd_ce, bd_up, bd_fam, bd_fmY]) (fun _ => rfl) (fun h => absurd h (by decide))) hP) hS1)
theorem bd_g_X1_member (C : bd_Cx E p m c cc nL s args own) (hR : bd_Rep E xm ym om H) (hw : w < 2) (hk : k < 48) (hl : Cond.fieldLink own i "BandDay$Chair" "member" "I" ∈ wsL_law) (hdg : decode cc pc = .ok (.getfield i, 3)) (kk : W p l e R s m args below meth c H locs cells slots Q (F0 m (pc + 3) ls (.int (xm 11 w k) :: rest))) : W p l e R s m args below meth c H locs cells slots Q (F0 m pc ls (.ref (bd_ea E 11 w k) :: rest)) := by
  obtain ⟨q, hq⟩ := bd_pos (f := 11) (w := w) (k := k) ⟨by decide, hw, hk⟩
  exact va_get (D := bd_eD E) (ci := 1) (C := RX1) (T := TX1) (N := 3) C.1.1 C.1.2.1 C.1.2.2.2.2 inlX1 C.1.2.2.2.1 C.2.1 hR.P q (bd_ws_at hq) rfl 1 (by decide) (C.1.2.2.2.2 _ hl) (fun _ h => h) rfl hdg kk
theorem bd_p_X1_member (C : bd_Cx E p m c cc nL s args own) (hR : bd_Rep E xm ym om H) (hS : va_S (bd_A E) H0 H locs) (hw : w < 2) (hk : k < 48) (hl : Cond.fieldLink own i "BandDay$Chair" "member" "I" ∈ wsL_law) (hdg : decode cc pc = .ok (.putfield i, 3)) {v : Int32} (kk : ∀ (H1 : Heap) (locs1 : List Loc), bd_Rep E (bd_up xm 11 w k v) ym om H1 → va_S (bd_A E) H0 H1 locs1 → W p l e R s m args below meth c H1 locs1 cells slots Q (F0 m (pc + 3) ls rest)) : W p l e R s m args below meth c H locs cells slots Q (F0 m pc ls (.int v :: .ref (bd_ea E 11 w k) :: rest)) := by
  obtain ⟨q, hq⟩ := bd_pos (f := 11) (w := w) (k := k) ⟨by decide, hw, hk⟩
  exact va_put (D := bd_eD E) (ci := 1) (v := .int v) (ty := .int) (C := RX1) (T := TX1) (N := 3) C.1.1 C.1.2.1 C.1.2.2.2.2 inlX1 tyX1 tyX1_ok nmX1 C.1.2.2.2.1 C.2.1 hR.P hR.D hS q (bd_ws_at hq) rfl 1 (by decide) (C.1.2.2.2.2 _ hl) (fun _ h => h) rfl (by decide +kernel) rfl rfl (Nat.le_of_ble_eq_true rfl) hdg (fun H1 locs1 hP _ hS1 => kk H1 locs1 (bd_back hR hq (bd_upX (F := 11) (by simp [bd_ce, bd_up, bd_fam, bd_fmY]) (fun _ => rfl) (fun h => absurd h (by decide))) hP) hS1)
theorem bd_g_X1_sitter (C : bd_Cx E p m c cc nL s args own) (hR : bd_Rep E xm ym om H) (hw : w < 2) (hk : k < 48) (hl : Cond.fieldLink own i "BandDay$Chair" "sitter" "I" ∈ wsL_law) (hdg : decode cc pc = .ok (.getfield i, 3)) (kk : W p l e R s m args below meth c H locs cells slots Q (F0 m (pc + 3) ls (.int (xm 12 w k) :: rest))) : W p l e R s m args below meth c H locs cells slots Q (F0 m pc ls (.ref (bd_ea E 11 w k) :: rest)) := by
  obtain ⟨q, hq⟩ := bd_pos (f := 11) (w := w) (k := k) ⟨by decide, hw, hk⟩
  exact va_get (D := bd_eD E) (ci := 1) (C := RX1) (T := TX1) (N := 3) C.1.1 C.1.2.1 C.1.2.2.2.2 inlX1 C.1.2.2.2.1 C.2.1 hR.P q (bd_ws_at hq) rfl 2 (by decide) (C.1.2.2.2.2 _ hl) (fun _ h => h) rfl hdg kk
theorem bd_p_X1_sitter (C : bd_Cx E p m c cc nL s args own) (hR : bd_Rep E xm ym om H) (hS : va_S (bd_A E) H0 H locs) (hw : w < 2) (hk : k < 48) (hl : Cond.fieldLink own i "BandDay$Chair" "sitter" "I" ∈ wsL_law) (hdg : decode cc pc = .ok (.putfield i, 3)) {v : Int32} (kk : ∀ (H1 : Heap) (locs1 : List Loc), bd_Rep E (bd_up xm 12 w k v) ym om H1 → va_S (bd_A E) H0 H1 locs1 → W p l e R s m args below meth c H1 locs1 cells slots Q (F0 m (pc + 3) ls rest)) : W p l e R s m args below meth c H locs cells slots Q (F0 m pc ls (.int v :: .ref (bd_ea E 11 w k) :: rest)) := by
  obtain ⟨q, hq⟩ := bd_pos (f := 11) (w := w) (k := k) ⟨by decide, hw, hk⟩
  exact va_put (D := bd_eD E) (ci := 1) (v := .int v) (ty := .int) (C := RX1) (T := TX1) (N := 3) C.1.1 C.1.2.1 C.1.2.2.2.2 inlX1 tyX1 tyX1_ok nmX1 C.1.2.2.2.1 C.2.1 hR.P hR.D hS q (bd_ws_at hq) rfl 2 (by decide) (C.1.2.2.2.2 _ hl) (fun _ h => h) rfl (by decide +kernel) rfl rfl (Nat.le_of_ble_eq_true rfl) hdg (fun H1 locs1 hP _ hS1 => kk H1 locs1 (bd_back hR hq (bd_upX (F := 12) (by simp [bd_ce, bd_up, bd_fam, bd_fmY]) (fun _ => rfl) (fun h => absurd h (by decide))) hP) hS1)
theorem bd_g_X2_season (C : bd_Cx E p m c cc nL s args own) (hR : bd_Rep E xm ym om H) (hw : w < 2) (hl : Cond.fieldLink own i "BandDay$Contest" "season" "LBandDay$Season;" ∈ wsL_law) (hdg : decode cc pc = .ok (.getfield i, 3)) (kk : W p l e R s m args below meth c H locs cells slots Q (F0 m (pc + 3) ls (.ref (bd_ea E 1 w 0) :: rest))) : W p l e R s m args below meth c H locs cells slots Q (F0 m pc ls (.ref (bd_ea E 2 w 0) :: rest)) := by
  obtain ⟨q, hq⟩ := bd_pos (f := 2) (w := w) (k := 0) ⟨by decide, hw, by decide⟩
  exact va_get (D := bd_eD E) (ci := 2) (C := RX2) (T := TX2) (N := 1) C.1.1 C.1.2.1 C.1.2.2.2.2 inlX2 C.1.2.2.2.1 C.2.1 hR.P q (bd_ws_at hq) rfl 0 (by decide) (C.1.2.2.2.2 _ hl) (fun _ h => h) rfl hdg kk
theorem bd_g_X3_skills (C : bd_Cx E p m c cc nL s args own) (hR : bd_Rep E xm ym om H) (hw : w < 2) (hk : k < 24) (hl : Cond.fieldLink own i "BandDay$Player" "skills" "[I" ∈ wsL_law) (hdg : decode cc pc = .ok (.getfield i, 3)) (kk : W p l e R s m args below meth c H locs cells slots Q (F0 m (pc + 3) ls (.ref (bd_ea E 8 w k) :: rest))) : W p l e R s m args below meth c H locs cells slots Q (F0 m pc ls (.ref (bd_ea E 7 w k) :: rest)) := by
  obtain ⟨q, hq⟩ := bd_pos (f := 7) (w := w) (k := k) ⟨by decide, hw, hk⟩
  exact va_get (D := bd_eD E) (ci := 3) (C := RX3) (T := TX3) (N := 9) C.1.1 C.1.2.1 C.1.2.2.2.2 inlX3 C.1.2.2.2.1 C.2.1 hR.P q (bd_ws_at hq) rfl 0 (by decide) (C.1.2.2.2.2 _ hl) (fun _ h => h) rfl hdg kk
theorem bd_g_X3_tired (C : bd_Cx E p m c cc nL s args own) (hR : bd_Rep E xm ym om H) (hw : w < 2) (hk : k < 24) (hl : Cond.fieldLink own i "BandDay$Player" "tired" "I" ∈ wsL_law) (hdg : decode cc pc = .ok (.getfield i, 3)) (kk : W p l e R s m args below meth c H locs cells slots Q (F0 m (pc + 3) ls (.int (xm 0 w k) :: rest))) : W p l e R s m args below meth c H locs cells slots Q (F0 m pc ls (.ref (bd_ea E 7 w k) :: rest)) := by
  obtain ⟨q, hq⟩ := bd_pos (f := 7) (w := w) (k := k) ⟨by decide, hw, hk⟩
  exact va_get (D := bd_eD E) (ci := 3) (C := RX3) (T := TX3) (N := 9) C.1.1 C.1.2.1 C.1.2.2.2.2 inlX3 C.1.2.2.2.1 C.2.1 hR.P q (bd_ws_at hq) rfl 1 (by decide) (C.1.2.2.2.2 _ hl) (fun _ h => h) rfl hdg kk
theorem bd_p_X3_tired (C : bd_Cx E p m c cc nL s args own) (hR : bd_Rep E xm ym om H) (hS : va_S (bd_A E) H0 H locs) (hw : w < 2) (hk : k < 24) (hl : Cond.fieldLink own i "BandDay$Player" "tired" "I" ∈ wsL_law) (hdg : decode cc pc = .ok (.putfield i, 3)) {v : Int32} (kk : ∀ (H1 : Heap) (locs1 : List Loc), bd_Rep E (bd_up xm 0 w k v) ym om H1 → va_S (bd_A E) H0 H1 locs1 → W p l e R s m args below meth c H1 locs1 cells slots Q (F0 m (pc + 3) ls rest)) : W p l e R s m args below meth c H locs cells slots Q (F0 m pc ls (.int v :: .ref (bd_ea E 7 w k) :: rest)) := by
  obtain ⟨q, hq⟩ := bd_pos (f := 7) (w := w) (k := k) ⟨by decide, hw, hk⟩
  exact va_put (D := bd_eD E) (ci := 3) (v := .int v) (ty := .int) (C := RX3) (T := TX3) (N := 9) C.1.1 C.1.2.1 C.1.2.2.2.2 inlX3 tyX3 tyX3_ok nmX3 C.1.2.2.2.1 C.2.1 hR.P hR.D hS q (bd_ws_at hq) rfl 1 (by decide) (C.1.2.2.2.2 _ hl) (fun _ h => h) rfl (by decide +kernel) rfl rfl (Nat.le_of_ble_eq_true rfl) hdg (fun H1 locs1 hP _ hS1 => kk H1 locs1 (bd_back hR hq (bd_upX (F := 0) (by simp [bd_ce, bd_up, bd_fam, bd_fmY]) (fun _ => rfl) (fun h => absurd h (by decide))) hP) hS1)
theorem bd_g_X3_absences (C : bd_Cx E p m c cc nL s args own) (hR : bd_Rep E xm ym om H) (hw : w < 2) (hk : k < 24) (hl : Cond.fieldLink own i "BandDay$Player" "absences" "I" ∈ wsL_law) (hdg : decode cc pc = .ok (.getfield i, 3)) (kk : W p l e R s m args below meth c H locs cells slots Q (F0 m (pc + 3) ls (.int (xm 1 w k) :: rest))) : W p l e R s m args below meth c H locs cells slots Q (F0 m pc ls (.ref (bd_ea E 7 w k) :: rest)) := by
  obtain ⟨q, hq⟩ := bd_pos (f := 7) (w := w) (k := k) ⟨by decide, hw, hk⟩
  exact va_get (D := bd_eD E) (ci := 3) (C := RX3) (T := TX3) (N := 9) C.1.1 C.1.2.1 C.1.2.2.2.2 inlX3 C.1.2.2.2.1 C.2.1 hR.P q (bd_ws_at hq) rfl 2 (by decide) (C.1.2.2.2.2 _ hl) (fun _ h => h) rfl hdg kk
theorem bd_p_X3_absences (C : bd_Cx E p m c cc nL s args own) (hR : bd_Rep E xm ym om H) (hS : va_S (bd_A E) H0 H locs) (hw : w < 2) (hk : k < 24) (hl : Cond.fieldLink own i "BandDay$Player" "absences" "I" ∈ wsL_law) (hdg : decode cc pc = .ok (.putfield i, 3)) {v : Int32} (kk : ∀ (H1 : Heap) (locs1 : List Loc), bd_Rep E (bd_up xm 1 w k v) ym om H1 → va_S (bd_A E) H0 H1 locs1 → W p l e R s m args below meth c H1 locs1 cells slots Q (F0 m (pc + 3) ls rest)) : W p l e R s m args below meth c H locs cells slots Q (F0 m pc ls (.int v :: .ref (bd_ea E 7 w k) :: rest)) := by
  obtain ⟨q, hq⟩ := bd_pos (f := 7) (w := w) (k := k) ⟨by decide, hw, hk⟩
  exact va_put (D := bd_eD E) (ci := 3) (v := .int v) (ty := .int) (C := RX3) (T := TX3) (N := 9) C.1.1 C.1.2.1 C.1.2.2.2.2 inlX3 tyX3 tyX3_ok nmX3 C.1.2.2.2.1 C.2.1 hR.P hR.D hS q (bd_ws_at hq) rfl 2 (by decide) (C.1.2.2.2.2 _ hl) (fun _ h => h) rfl (by decide +kernel) rfl rfl (Nat.le_of_ble_eq_true rfl) hdg (fun H1 locs1 hP _ hS1 => kk H1 locs1 (bd_back hR hq (bd_upX (F := 1) (by simp [bd_ce, bd_up, bd_fam, bd_fmY]) (fun _ => rfl) (fun h => absurd h (by decide))) hP) hS1)
theorem bd_g_X3_band (C : bd_Cx E p m c cc nL s args own) (hR : bd_Rep E xm ym om H) (hw : w < 2) (hk : k < 24) (hl : Cond.fieldLink own i "BandDay$Player" "band" "I" ∈ wsL_law) (hdg : decode cc pc = .ok (.getfield i, 3)) (kk : W p l e R s m args below meth c H locs cells slots Q (F0 m (pc + 3) ls (.int (xm 2 w k) :: rest))) : W p l e R s m args below meth c H locs cells slots Q (F0 m pc ls (.ref (bd_ea E 7 w k) :: rest)) := by
  obtain ⟨q, hq⟩ := bd_pos (f := 7) (w := w) (k := k) ⟨by decide, hw, hk⟩
  exact va_get (D := bd_eD E) (ci := 3) (C := RX3) (T := TX3) (N := 9) C.1.1 C.1.2.1 C.1.2.2.2.2 inlX3 C.1.2.2.2.1 C.2.1 hR.P q (bd_ws_at hq) rfl 3 (by decide) (C.1.2.2.2.2 _ hl) (fun _ h => h) rfl hdg kk
theorem bd_p_X3_band (C : bd_Cx E p m c cc nL s args own) (hR : bd_Rep E xm ym om H) (hS : va_S (bd_A E) H0 H locs) (hw : w < 2) (hk : k < 24) (hl : Cond.fieldLink own i "BandDay$Player" "band" "I" ∈ wsL_law) (hdg : decode cc pc = .ok (.putfield i, 3)) {v : Int32} (kk : ∀ (H1 : Heap) (locs1 : List Loc), bd_Rep E (bd_up xm 2 w k v) ym om H1 → va_S (bd_A E) H0 H1 locs1 → W p l e R s m args below meth c H1 locs1 cells slots Q (F0 m (pc + 3) ls rest)) : W p l e R s m args below meth c H locs cells slots Q (F0 m pc ls (.int v :: .ref (bd_ea E 7 w k) :: rest)) := by
  obtain ⟨q, hq⟩ := bd_pos (f := 7) (w := w) (k := k) ⟨by decide, hw, hk⟩
  exact va_put (D := bd_eD E) (ci := 3) (v := .int v) (ty := .int) (C := RX3) (T := TX3) (N := 9) C.1.1 C.1.2.1 C.1.2.2.2.2 inlX3 tyX3 tyX3_ok nmX3 C.1.2.2.2.1 C.2.1 hR.P hR.D hS q (bd_ws_at hq) rfl 3 (by decide) (C.1.2.2.2.2 _ hl) (fun _ h => h) rfl (by decide +kernel) rfl rfl (Nat.le_of_ble_eq_true rfl) hdg (fun H1 locs1 hP _ hS1 => kk H1 locs1 (bd_back hR hq (bd_upX (F := 2) (by simp [bd_ce, bd_up, bd_fam, bd_fmY]) (fun _ => rfl) (fun h => absurd h (by decide))) hP) hS1)
theorem bd_g_X3_seat (C : bd_Cx E p m c cc nL s args own) (hR : bd_Rep E xm ym om H) (hw : w < 2) (hk : k < 24) (hl : Cond.fieldLink own i "BandDay$Player" "seat" "I" ∈ wsL_law) (hdg : decode cc pc = .ok (.getfield i, 3)) (kk : W p l e R s m args below meth c H locs cells slots Q (F0 m (pc + 3) ls (.int (xm 3 w k) :: rest))) : W p l e R s m args below meth c H locs cells slots Q (F0 m pc ls (.ref (bd_ea E 7 w k) :: rest)) := by
  obtain ⟨q, hq⟩ := bd_pos (f := 7) (w := w) (k := k) ⟨by decide, hw, hk⟩
  exact va_get (D := bd_eD E) (ci := 3) (C := RX3) (T := TX3) (N := 9) C.1.1 C.1.2.1 C.1.2.2.2.2 inlX3 C.1.2.2.2.1 C.2.1 hR.P q (bd_ws_at hq) rfl 4 (by decide) (C.1.2.2.2.2 _ hl) (fun _ h => h) rfl hdg kk
theorem bd_p_X3_seat (C : bd_Cx E p m c cc nL s args own) (hR : bd_Rep E xm ym om H) (hS : va_S (bd_A E) H0 H locs) (hw : w < 2) (hk : k < 24) (hl : Cond.fieldLink own i "BandDay$Player" "seat" "I" ∈ wsL_law) (hdg : decode cc pc = .ok (.putfield i, 3)) {v : Int32} (kk : ∀ (H1 : Heap) (locs1 : List Loc), bd_Rep E (bd_up xm 3 w k v) ym om H1 → va_S (bd_A E) H0 H1 locs1 → W p l e R s m args below meth c H1 locs1 cells slots Q (F0 m (pc + 3) ls rest)) : W p l e R s m args below meth c H locs cells slots Q (F0 m pc ls (.int v :: .ref (bd_ea E 7 w k) :: rest)) := by
  obtain ⟨q, hq⟩ := bd_pos (f := 7) (w := w) (k := k) ⟨by decide, hw, hk⟩
  exact va_put (D := bd_eD E) (ci := 3) (v := .int v) (ty := .int) (C := RX3) (T := TX3) (N := 9) C.1.1 C.1.2.1 C.1.2.2.2.2 inlX3 tyX3 tyX3_ok nmX3 C.1.2.2.2.1 C.2.1 hR.P hR.D hS q (bd_ws_at hq) rfl 4 (by decide) (C.1.2.2.2.2 _ hl) (fun _ h => h) rfl (by decide +kernel) rfl rfl (Nat.le_of_ble_eq_true rfl) hdg (fun H1 locs1 hP _ hS1 => kk H1 locs1 (bd_back hR hq (bd_upX (F := 3) (by simp [bd_ce, bd_up, bd_fam, bd_fmY]) (fun _ => rfl) (fun h => absurd h (by decide))) hP) hS1)
theorem bd_g_X3_sittings (C : bd_Cx E p m c cc nL s args own) (hR : bd_Rep E xm ym om H) (hw : w < 2) (hk : k < 24) (hl : Cond.fieldLink own i "BandDay$Player" "sittings" "I" ∈ wsL_law) (hdg : decode cc pc = .ok (.getfield i, 3)) (kk : W p l e R s m args below meth c H locs cells slots Q (F0 m (pc + 3) ls (.int (xm 4 w k) :: rest))) : W p l e R s m args below meth c H locs cells slots Q (F0 m pc ls (.ref (bd_ea E 7 w k) :: rest)) := by
  obtain ⟨q, hq⟩ := bd_pos (f := 7) (w := w) (k := k) ⟨by decide, hw, hk⟩
  exact va_get (D := bd_eD E) (ci := 3) (C := RX3) (T := TX3) (N := 9) C.1.1 C.1.2.1 C.1.2.2.2.2 inlX3 C.1.2.2.2.1 C.2.1 hR.P q (bd_ws_at hq) rfl 5 (by decide) (C.1.2.2.2.2 _ hl) (fun _ h => h) rfl hdg kk
theorem bd_p_X3_sittings (C : bd_Cx E p m c cc nL s args own) (hR : bd_Rep E xm ym om H) (hS : va_S (bd_A E) H0 H locs) (hw : w < 2) (hk : k < 24) (hl : Cond.fieldLink own i "BandDay$Player" "sittings" "I" ∈ wsL_law) (hdg : decode cc pc = .ok (.putfield i, 3)) {v : Int32} (kk : ∀ (H1 : Heap) (locs1 : List Loc), bd_Rep E (bd_up xm 4 w k v) ym om H1 → va_S (bd_A E) H0 H1 locs1 → W p l e R s m args below meth c H1 locs1 cells slots Q (F0 m (pc + 3) ls rest)) : W p l e R s m args below meth c H locs cells slots Q (F0 m pc ls (.int v :: .ref (bd_ea E 7 w k) :: rest)) := by
  obtain ⟨q, hq⟩ := bd_pos (f := 7) (w := w) (k := k) ⟨by decide, hw, hk⟩
  exact va_put (D := bd_eD E) (ci := 3) (v := .int v) (ty := .int) (C := RX3) (T := TX3) (N := 9) C.1.1 C.1.2.1 C.1.2.2.2.2 inlX3 tyX3 tyX3_ok nmX3 C.1.2.2.2.1 C.2.1 hR.P hR.D hS q (bd_ws_at hq) rfl 5 (by decide) (C.1.2.2.2.2 _ hl) (fun _ h => h) rfl (by decide +kernel) rfl rfl (Nat.le_of_ble_eq_true rfl) hdg (fun H1 locs1 hP _ hS1 => kk H1 locs1 (bd_back hR hq (bd_upX (F := 4) (by simp [bd_ce, bd_up, bd_fam, bd_fmY]) (fun _ => rfl) (fun h => absurd h (by decide))) hP) hS1)
theorem bd_g_X3_deputySittings (C : bd_Cx E p m c cc nL s args own) (hR : bd_Rep E xm ym om H) (hw : w < 2) (hk : k < 24) (hl : Cond.fieldLink own i "BandDay$Player" "deputySittings" "I" ∈ wsL_law) (hdg : decode cc pc = .ok (.getfield i, 3)) (kk : W p l e R s m args below meth c H locs cells slots Q (F0 m (pc + 3) ls (.int (xm 5 w k) :: rest))) : W p l e R s m args below meth c H locs cells slots Q (F0 m pc ls (.ref (bd_ea E 7 w k) :: rest)) := by
  obtain ⟨q, hq⟩ := bd_pos (f := 7) (w := w) (k := k) ⟨by decide, hw, hk⟩
  exact va_get (D := bd_eD E) (ci := 3) (C := RX3) (T := TX3) (N := 9) C.1.1 C.1.2.1 C.1.2.2.2.2 inlX3 C.1.2.2.2.1 C.2.1 hR.P q (bd_ws_at hq) rfl 6 (by decide) (C.1.2.2.2.2 _ hl) (fun _ h => h) rfl hdg kk
theorem bd_p_X3_deputySittings (C : bd_Cx E p m c cc nL s args own) (hR : bd_Rep E xm ym om H) (hS : va_S (bd_A E) H0 H locs) (hw : w < 2) (hk : k < 24) (hl : Cond.fieldLink own i "BandDay$Player" "deputySittings" "I" ∈ wsL_law) (hdg : decode cc pc = .ok (.putfield i, 3)) {v : Int32} (kk : ∀ (H1 : Heap) (locs1 : List Loc), bd_Rep E (bd_up xm 5 w k v) ym om H1 → va_S (bd_A E) H0 H1 locs1 → W p l e R s m args below meth c H1 locs1 cells slots Q (F0 m (pc + 3) ls rest)) : W p l e R s m args below meth c H locs cells slots Q (F0 m pc ls (.int v :: .ref (bd_ea E 7 w k) :: rest)) := by
  obtain ⟨q, hq⟩ := bd_pos (f := 7) (w := w) (k := k) ⟨by decide, hw, hk⟩
  exact va_put (D := bd_eD E) (ci := 3) (v := .int v) (ty := .int) (C := RX3) (T := TX3) (N := 9) C.1.1 C.1.2.1 C.1.2.2.2.2 inlX3 tyX3 tyX3_ok nmX3 C.1.2.2.2.1 C.2.1 hR.P hR.D hS q (bd_ws_at hq) rfl 6 (by decide) (C.1.2.2.2.2 _ hl) (fun _ h => h) rfl (by decide +kernel) rfl rfl (Nat.le_of_ble_eq_true rfl) hdg (fun H1 locs1 hP _ hS1 => kk H1 locs1 (bd_back hR hq (bd_upX (F := 5) (by simp [bd_ce, bd_up, bd_fam, bd_fmY]) (fun _ => rfl) (fun h => absurd h (by decide))) hP) hS1)
theorem bd_g_X3_deputyToday (C : bd_Cx E p m c cc nL s args own) (hR : bd_Rep E xm ym om H) (hw : w < 2) (hk : k < 24) (hl : Cond.fieldLink own i "BandDay$Player" "deputyToday" "I" ∈ wsL_law) (hdg : decode cc pc = .ok (.getfield i, 3)) (kk : W p l e R s m args below meth c H locs cells slots Q (F0 m (pc + 3) ls (.int (xm 6 w k) :: rest))) : W p l e R s m args below meth c H locs cells slots Q (F0 m pc ls (.ref (bd_ea E 7 w k) :: rest)) := by
  obtain ⟨q, hq⟩ := bd_pos (f := 7) (w := w) (k := k) ⟨by decide, hw, hk⟩
  exact va_get (D := bd_eD E) (ci := 3) (C := RX3) (T := TX3) (N := 9) C.1.1 C.1.2.1 C.1.2.2.2.2 inlX3 C.1.2.2.2.1 C.2.1 hR.P q (bd_ws_at hq) rfl 7 (by decide) (C.1.2.2.2.2 _ hl) (fun _ h => h) rfl hdg kk
theorem bd_p_X3_deputyToday (C : bd_Cx E p m c cc nL s args own) (hR : bd_Rep E xm ym om H) (hS : va_S (bd_A E) H0 H locs) (hw : w < 2) (hk : k < 24) (hl : Cond.fieldLink own i "BandDay$Player" "deputyToday" "I" ∈ wsL_law) (hdg : decode cc pc = .ok (.putfield i, 3)) {v : Int32} (kk : ∀ (H1 : Heap) (locs1 : List Loc), bd_Rep E (bd_up xm 6 w k v) ym om H1 → va_S (bd_A E) H0 H1 locs1 → W p l e R s m args below meth c H1 locs1 cells slots Q (F0 m (pc + 3) ls rest)) : W p l e R s m args below meth c H locs cells slots Q (F0 m pc ls (.int v :: .ref (bd_ea E 7 w k) :: rest)) := by
  obtain ⟨q, hq⟩ := bd_pos (f := 7) (w := w) (k := k) ⟨by decide, hw, hk⟩
  exact va_put (D := bd_eD E) (ci := 3) (v := .int v) (ty := .int) (C := RX3) (T := TX3) (N := 9) C.1.1 C.1.2.1 C.1.2.2.2.2 inlX3 tyX3 tyX3_ok nmX3 C.1.2.2.2.1 C.2.1 hR.P hR.D hS q (bd_ws_at hq) rfl 7 (by decide) (C.1.2.2.2.2 _ hl) (fun _ h => h) rfl (by decide +kernel) rfl rfl (Nat.le_of_ble_eq_true rfl) hdg (fun H1 locs1 hP _ hS1 => kk H1 locs1 (bd_back hR hq (bd_upX (F := 6) (by simp [bd_ce, bd_up, bd_fam, bd_fmY]) (fun _ => rfl) (fun h => absurd h (by decide))) hP) hS1)
theorem bd_g_X3_sits (C : bd_Cx E p m c cc nL s args own) (hR : bd_Rep E xm ym om H) (hw : w < 2) (hk : k < 24) (hl : Cond.fieldLink own i "BandDay$Player" "sits" "Z" ∈ wsL_law) (hdg : decode cc pc = .ok (.getfield i, 3)) (kk : W p l e R s m args below meth c H locs cells slots Q (F0 m (pc + 3) ls (.int (xm 7 w k) :: rest))) : W p l e R s m args below meth c H locs cells slots Q (F0 m pc ls (.ref (bd_ea E 7 w k) :: rest)) := by
  obtain ⟨q, hq⟩ := bd_pos (f := 7) (w := w) (k := k) ⟨by decide, hw, hk⟩
  exact va_get (D := bd_eD E) (ci := 3) (C := RX3) (T := TX3) (N := 9) C.1.1 C.1.2.1 C.1.2.2.2.2 inlX3 C.1.2.2.2.1 C.2.1 hR.P q (bd_ws_at hq) rfl 8 (by decide) (C.1.2.2.2.2 _ hl) (fun _ h => h) rfl hdg kk
theorem bd_p_X3_sits (C : bd_Cx E p m c cc nL s args own) (hR : bd_Rep E xm ym om H) (hS : va_S (bd_A E) H0 H locs) (hw : w < 2) (hk : k < 24) (hl : Cond.fieldLink own i "BandDay$Player" "sits" "Z" ∈ wsL_law) (hdg : decode cc pc = .ok (.putfield i, 3)) {v : Int32} (hv : narrow .boolean (.int v) = .int v) (hf : fits .boolean (.int v) = true) (kk : ∀ (H1 : Heap) (locs1 : List Loc), bd_Rep E (bd_up xm 7 w k v) ym om H1 → va_S (bd_A E) H0 H1 locs1 → W p l e R s m args below meth c H1 locs1 cells slots Q (F0 m (pc + 3) ls rest)) : W p l e R s m args below meth c H locs cells slots Q (F0 m pc ls (.int v :: .ref (bd_ea E 7 w k) :: rest)) := by
  obtain ⟨q, hq⟩ := bd_pos (f := 7) (w := w) (k := k) ⟨by decide, hw, hk⟩
  exact va_put (D := bd_eD E) (ci := 3) (v := .int v) (ty := .boolean) (C := RX3) (T := TX3) (N := 9) C.1.1 C.1.2.1 C.1.2.2.2.2 inlX3 tyX3 tyX3_ok nmX3 C.1.2.2.2.1 C.2.1 hR.P hR.D hS q (bd_ws_at hq) rfl 8 (by decide) (C.1.2.2.2.2 _ hl) (fun _ h => h) rfl (by decide +kernel) hv hf (Nat.le_of_ble_eq_true rfl) hdg (fun H1 locs1 hP _ hS1 => kk H1 locs1 (bd_back hR hq (bd_upX (F := 7) (by simp [bd_ce, bd_up, bd_fam, bd_fmY]) (fun _ => rfl) (fun h => absurd h (by decide))) hP) hS1)
theorem bd_g_X4_players (C : bd_Cx E p m c cc nL s args own) (hR : bd_Rep E xm ym om H) (hw : w < 2) (hl : Cond.fieldLink own i "BandDay$Season" "players" "[LBandDay$Player;" ∈ wsL_law) (hdg : decode cc pc = .ok (.getfield i, 3)) (kk : W p l e R s m args below meth c H locs cells slots Q (F0 m (pc + 3) ls (.ref (bd_ea E 3 w 0) :: rest))) : W p l e R s m args below meth c H locs cells slots Q (F0 m pc ls (.ref (bd_ea E 1 w 0) :: rest)) := by
  obtain ⟨q, hq⟩ := bd_pos (f := 1) (w := w) (k := 0) ⟨by decide, hw, by decide⟩
  exact va_get (D := bd_eD E) (ci := 4) (C := RX4) (T := TX4) (N := 9) C.1.1 C.1.2.1 C.1.2.2.2.2 inlX4 C.1.2.2.2.1 C.2.1 hR.P q (bd_ws_at hq) rfl 0 (by decide) (C.1.2.2.2.2 _ hl) (fun _ h => h) rfl hdg kk
theorem bd_g_X4_bands (C : bd_Cx E p m c cc nL s args own) (hR : bd_Rep E xm ym om H) (hw : w < 2) (hl : Cond.fieldLink own i "BandDay$Season" "bands" "[LBandDay$Band;" ∈ wsL_law) (hdg : decode cc pc = .ok (.getfield i, 3)) (kk : W p l e R s m args below meth c H locs cells slots Q (F0 m (pc + 3) ls (.ref (bd_ea E 4 w 0) :: rest))) : W p l e R s m args below meth c H locs cells slots Q (F0 m pc ls (.ref (bd_ea E 1 w 0) :: rest)) := by
  obtain ⟨q, hq⟩ := bd_pos (f := 1) (w := w) (k := 0) ⟨by decide, hw, by decide⟩
  exact va_get (D := bd_eD E) (ci := 4) (C := RX4) (T := TX4) (N := 9) C.1.1 C.1.2.1 C.1.2.2.2.2 inlX4 C.1.2.2.2.1 C.2.1 hR.P q (bd_ws_at hq) rfl 1 (by decide) (C.1.2.2.2.2 _ hl) (fun _ h => h) rfl hdg kk
theorem bd_g_X4_hard (C : bd_Cx E p m c cc nL s args own) (hR : bd_Rep E xm ym om H) (hw : w < 2) (hl : Cond.fieldLink own i "BandDay$Season" "hard" "[I" ∈ wsL_law) (hdg : decode cc pc = .ok (.getfield i, 3)) (kk : W p l e R s m args below meth c H locs cells slots Q (F0 m (pc + 3) ls (.ref (bd_ea E 5 w 0) :: rest))) : W p l e R s m args below meth c H locs cells slots Q (F0 m pc ls (.ref (bd_ea E 1 w 0) :: rest)) := by
  obtain ⟨q, hq⟩ := bd_pos (f := 1) (w := w) (k := 0) ⟨by decide, hw, by decide⟩
  exact va_get (D := bd_eD E) (ci := 4) (C := RX4) (T := TX4) (N := 9) C.1.1 C.1.2.1 C.1.2.2.2.2 inlX4 C.1.2.2.2.1 C.2.1 hR.P q (bd_ws_at hq) rfl 2 (by decide) (C.1.2.2.2.2 _ hl) (fun _ h => h) rfl hdg kk
theorem bd_g_X4_weight (C : bd_Cx E p m c cc nL s args own) (hR : bd_Rep E xm ym om H) (hw : w < 2) (hl : Cond.fieldLink own i "BandDay$Season" "weight" "[I" ∈ wsL_law) (hdg : decode cc pc = .ok (.getfield i, 3)) (kk : W p l e R s m args below meth c H locs cells slots Q (F0 m (pc + 3) ls (.ref (bd_ea E 6 w 0) :: rest))) : W p l e R s m args below meth c H locs cells slots Q (F0 m pc ls (.ref (bd_ea E 1 w 0) :: rest)) := by
  obtain ⟨q, hq⟩ := bd_pos (f := 1) (w := w) (k := 0) ⟨by decide, hw, by decide⟩
  exact va_get (D := bd_eD E) (ci := 4) (C := RX4) (T := TX4) (N := 9) C.1.1 C.1.2.1 C.1.2.2.2.2 inlX4 C.1.2.2.2.1 C.2.1 hR.P q (bd_ws_at hq) rfl 3 (by decide) (C.1.2.2.2.2 _ hl) (fun _ h => h) rfl hdg kk
theorem bd_g_X4_playerCount (C : bd_Cx E p m c cc nL s args own) (hR : bd_Rep E xm ym om H) (hw : w < 2) (hl : Cond.fieldLink own i "BandDay$Season" "playerCount" "I" ∈ wsL_law) (hdg : decode cc pc = .ok (.getfield i, 3)) (kk : W p l e R s m args below meth c H locs cells slots Q (F0 m (pc + 3) ls (.int (xm 30 w 0) :: rest))) : W p l e R s m args below meth c H locs cells slots Q (F0 m pc ls (.ref (bd_ea E 1 w 0) :: rest)) := by
  obtain ⟨q, hq⟩ := bd_pos (f := 1) (w := w) (k := 0) ⟨by decide, hw, by decide⟩
  exact va_get (D := bd_eD E) (ci := 4) (C := RX4) (T := TX4) (N := 9) C.1.1 C.1.2.1 C.1.2.2.2.2 inlX4 C.1.2.2.2.1 C.2.1 hR.P q (bd_ws_at hq) rfl 4 (by decide) (C.1.2.2.2.2 _ hl) (fun _ h => h) rfl hdg kk
theorem bd_p_X4_playerCount (C : bd_Cx E p m c cc nL s args own) (hR : bd_Rep E xm ym om H) (hS : va_S (bd_A E) H0 H locs) (hw : w < 2) (hl : Cond.fieldLink own i "BandDay$Season" "playerCount" "I" ∈ wsL_law) (hdg : decode cc pc = .ok (.putfield i, 3)) {v : Int32} (kk : ∀ (H1 : Heap) (locs1 : List Loc), bd_Rep E (bd_up xm 30 w 0 v) ym om H1 → va_S (bd_A E) H0 H1 locs1 → W p l e R s m args below meth c H1 locs1 cells slots Q (F0 m (pc + 3) ls rest)) : W p l e R s m args below meth c H locs cells slots Q (F0 m pc ls (.int v :: .ref (bd_ea E 1 w 0) :: rest)) := by
  obtain ⟨q, hq⟩ := bd_pos (f := 1) (w := w) (k := 0) ⟨by decide, hw, by decide⟩
  exact va_put (D := bd_eD E) (ci := 4) (v := .int v) (ty := .int) (C := RX4) (T := TX4) (N := 9) C.1.1 C.1.2.1 C.1.2.2.2.2 inlX4 tyX4 tyX4_ok nmX4 C.1.2.2.2.1 C.2.1 hR.P hR.D hS q (bd_ws_at hq) rfl 4 (by decide) (C.1.2.2.2.2 _ hl) (fun _ h => h) rfl (by decide +kernel) rfl rfl (Nat.le_of_ble_eq_true rfl) hdg (fun H1 locs1 hP _ hS1 => kk H1 locs1 (bd_back hR hq (bd_upX (F := 30) (by simp [bd_ce, bd_up, bd_fam, bd_fmY]) (fun _ => rfl) (fun h => ⟨rfl, rfl⟩)) hP) hS1)
theorem bd_g_X4_bandCount (C : bd_Cx E p m c cc nL s args own) (hR : bd_Rep E xm ym om H) (hw : w < 2) (hl : Cond.fieldLink own i "BandDay$Season" "bandCount" "I" ∈ wsL_law) (hdg : decode cc pc = .ok (.getfield i, 3)) (kk : W p l e R s m args below meth c H locs cells slots Q (F0 m (pc + 3) ls (.int (xm 31 w 0) :: rest))) : W p l e R s m args below meth c H locs cells slots Q (F0 m pc ls (.ref (bd_ea E 1 w 0) :: rest)) := by
  obtain ⟨q, hq⟩ := bd_pos (f := 1) (w := w) (k := 0) ⟨by decide, hw, by decide⟩
  exact va_get (D := bd_eD E) (ci := 4) (C := RX4) (T := TX4) (N := 9) C.1.1 C.1.2.1 C.1.2.2.2.2 inlX4 C.1.2.2.2.1 C.2.1 hR.P q (bd_ws_at hq) rfl 5 (by decide) (C.1.2.2.2.2 _ hl) (fun _ h => h) rfl hdg kk
theorem bd_p_X4_bandCount (C : bd_Cx E p m c cc nL s args own) (hR : bd_Rep E xm ym om H) (hS : va_S (bd_A E) H0 H locs) (hw : w < 2) (hl : Cond.fieldLink own i "BandDay$Season" "bandCount" "I" ∈ wsL_law) (hdg : decode cc pc = .ok (.putfield i, 3)) {v : Int32} (kk : ∀ (H1 : Heap) (locs1 : List Loc), bd_Rep E (bd_up xm 31 w 0 v) ym om H1 → va_S (bd_A E) H0 H1 locs1 → W p l e R s m args below meth c H1 locs1 cells slots Q (F0 m (pc + 3) ls rest)) : W p l e R s m args below meth c H locs cells slots Q (F0 m pc ls (.int v :: .ref (bd_ea E 1 w 0) :: rest)) := by
  obtain ⟨q, hq⟩ := bd_pos (f := 1) (w := w) (k := 0) ⟨by decide, hw, by decide⟩
  exact va_put (D := bd_eD E) (ci := 4) (v := .int v) (ty := .int) (C := RX4) (T := TX4) (N := 9) C.1.1 C.1.2.1 C.1.2.2.2.2 inlX4 tyX4 tyX4_ok nmX4 C.1.2.2.2.1 C.2.1 hR.P hR.D hS q (bd_ws_at hq) rfl 5 (by decide) (C.1.2.2.2.2 _ hl) (fun _ h => h) rfl (by decide +kernel) rfl rfl (Nat.le_of_ble_eq_true rfl) hdg (fun H1 locs1 hP _ hS1 => kk H1 locs1 (bd_back hR hq (bd_upX (F := 31) (by simp [bd_ce, bd_up, bd_fam, bd_fmY]) (fun _ => rfl) (fun h => ⟨rfl, rfl⟩)) hP) hS1)
theorem bd_g_X4_contests (C : bd_Cx E p m c cc nL s args own) (hR : bd_Rep E xm ym om H) (hw : w < 2) (hl : Cond.fieldLink own i "BandDay$Season" "contests" "I" ∈ wsL_law) (hdg : decode cc pc = .ok (.getfield i, 3)) (kk : W p l e R s m args below meth c H locs cells slots Q (F0 m (pc + 3) ls (.int (xm 32 w 0) :: rest))) : W p l e R s m args below meth c H locs cells slots Q (F0 m pc ls (.ref (bd_ea E 1 w 0) :: rest)) := by
  obtain ⟨q, hq⟩ := bd_pos (f := 1) (w := w) (k := 0) ⟨by decide, hw, by decide⟩
  exact va_get (D := bd_eD E) (ci := 4) (C := RX4) (T := TX4) (N := 9) C.1.1 C.1.2.1 C.1.2.2.2.2 inlX4 C.1.2.2.2.1 C.2.1 hR.P q (bd_ws_at hq) rfl 6 (by decide) (C.1.2.2.2.2 _ hl) (fun _ h => h) rfl hdg kk
theorem bd_p_X4_contests (C : bd_Cx E p m c cc nL s args own) (hR : bd_Rep E xm ym om H) (hS : va_S (bd_A E) H0 H locs) (hw : w < 2) (hl : Cond.fieldLink own i "BandDay$Season" "contests" "I" ∈ wsL_law) (hdg : decode cc pc = .ok (.putfield i, 3)) {v : Int32} (kk : ∀ (H1 : Heap) (locs1 : List Loc), bd_Rep E (bd_up xm 32 w 0 v) ym om H1 → va_S (bd_A E) H0 H1 locs1 → W p l e R s m args below meth c H1 locs1 cells slots Q (F0 m (pc + 3) ls rest)) : W p l e R s m args below meth c H locs cells slots Q (F0 m pc ls (.int v :: .ref (bd_ea E 1 w 0) :: rest)) := by
  obtain ⟨q, hq⟩ := bd_pos (f := 1) (w := w) (k := 0) ⟨by decide, hw, by decide⟩
  exact va_put (D := bd_eD E) (ci := 4) (v := .int v) (ty := .int) (C := RX4) (T := TX4) (N := 9) C.1.1 C.1.2.1 C.1.2.2.2.2 inlX4 tyX4 tyX4_ok nmX4 C.1.2.2.2.1 C.2.1 hR.P hR.D hS q (bd_ws_at hq) rfl 6 (by decide) (C.1.2.2.2.2 _ hl) (fun _ h => h) rfl (by decide +kernel) rfl rfl (Nat.le_of_ble_eq_true rfl) hdg (fun H1 locs1 hP _ hS1 => kk H1 locs1 (bd_back hR hq (bd_upX (F := 32) (by simp [bd_ce, bd_up, bd_fam, bd_fmY]) (fun _ => rfl) (fun h => ⟨rfl, rfl⟩)) hP) hS1)
theorem bd_g_X4_deputies (C : bd_Cx E p m c cc nL s args own) (hR : bd_Rep E xm ym om H) (hw : w < 2) (hl : Cond.fieldLink own i "BandDay$Season" "deputies" "I" ∈ wsL_law) (hdg : decode cc pc = .ok (.getfield i, 3)) (kk : W p l e R s m args below meth c H locs cells slots Q (F0 m (pc + 3) ls (.int (xm 33 w 0) :: rest))) : W p l e R s m args below meth c H locs cells slots Q (F0 m pc ls (.ref (bd_ea E 1 w 0) :: rest)) := by
  obtain ⟨q, hq⟩ := bd_pos (f := 1) (w := w) (k := 0) ⟨by decide, hw, by decide⟩
  exact va_get (D := bd_eD E) (ci := 4) (C := RX4) (T := TX4) (N := 9) C.1.1 C.1.2.1 C.1.2.2.2.2 inlX4 C.1.2.2.2.1 C.2.1 hR.P q (bd_ws_at hq) rfl 7 (by decide) (C.1.2.2.2.2 _ hl) (fun _ h => h) rfl hdg kk
theorem bd_p_X4_deputies (C : bd_Cx E p m c cc nL s args own) (hR : bd_Rep E xm ym om H) (hS : va_S (bd_A E) H0 H locs) (hw : w < 2) (hl : Cond.fieldLink own i "BandDay$Season" "deputies" "I" ∈ wsL_law) (hdg : decode cc pc = .ok (.putfield i, 3)) {v : Int32} (kk : ∀ (H1 : Heap) (locs1 : List Loc), bd_Rep E (bd_up xm 33 w 0 v) ym om H1 → va_S (bd_A E) H0 H1 locs1 → W p l e R s m args below meth c H1 locs1 cells slots Q (F0 m (pc + 3) ls rest)) : W p l e R s m args below meth c H locs cells slots Q (F0 m pc ls (.int v :: .ref (bd_ea E 1 w 0) :: rest)) := by
  obtain ⟨q, hq⟩ := bd_pos (f := 1) (w := w) (k := 0) ⟨by decide, hw, by decide⟩
  exact va_put (D := bd_eD E) (ci := 4) (v := .int v) (ty := .int) (C := RX4) (T := TX4) (N := 9) C.1.1 C.1.2.1 C.1.2.2.2.2 inlX4 tyX4 tyX4_ok nmX4 C.1.2.2.2.1 C.2.1 hR.P hR.D hS q (bd_ws_at hq) rfl 7 (by decide) (C.1.2.2.2.2 _ hl) (fun _ h => h) rfl (by decide +kernel) rfl rfl (Nat.le_of_ble_eq_true rfl) hdg (fun H1 locs1 hP _ hS1 => kk H1 locs1 (bd_back hR hq (bd_upX (F := 33) (by simp [bd_ce, bd_up, bd_fam, bd_fmY]) (fun _ => rfl) (fun h => ⟨rfl, rfl⟩)) hP) hS1)
theorem bd_g_X4_empties (C : bd_Cx E p m c cc nL s args own) (hR : bd_Rep E xm ym om H) (hw : w < 2) (hl : Cond.fieldLink own i "BandDay$Season" "empties" "I" ∈ wsL_law) (hdg : decode cc pc = .ok (.getfield i, 3)) (kk : W p l e R s m args below meth c H locs cells slots Q (F0 m (pc + 3) ls (.int (xm 34 w 0) :: rest))) : W p l e R s m args below meth c H locs cells slots Q (F0 m pc ls (.ref (bd_ea E 1 w 0) :: rest)) := by
  obtain ⟨q, hq⟩ := bd_pos (f := 1) (w := w) (k := 0) ⟨by decide, hw, by decide⟩
  exact va_get (D := bd_eD E) (ci := 4) (C := RX4) (T := TX4) (N := 9) C.1.1 C.1.2.1 C.1.2.2.2.2 inlX4 C.1.2.2.2.1 C.2.1 hR.P q (bd_ws_at hq) rfl 8 (by decide) (C.1.2.2.2.2 _ hl) (fun _ h => h) rfl hdg kk
theorem bd_p_X4_empties (C : bd_Cx E p m c cc nL s args own) (hR : bd_Rep E xm ym om H) (hS : va_S (bd_A E) H0 H locs) (hw : w < 2) (hl : Cond.fieldLink own i "BandDay$Season" "empties" "I" ∈ wsL_law) (hdg : decode cc pc = .ok (.putfield i, 3)) {v : Int32} (kk : ∀ (H1 : Heap) (locs1 : List Loc), bd_Rep E (bd_up xm 34 w 0 v) ym om H1 → va_S (bd_A E) H0 H1 locs1 → W p l e R s m args below meth c H1 locs1 cells slots Q (F0 m (pc + 3) ls rest)) : W p l e R s m args below meth c H locs cells slots Q (F0 m pc ls (.int v :: .ref (bd_ea E 1 w 0) :: rest)) := by
  obtain ⟨q, hq⟩ := bd_pos (f := 1) (w := w) (k := 0) ⟨by decide, hw, by decide⟩
  exact va_put (D := bd_eD E) (ci := 4) (v := .int v) (ty := .int) (C := RX4) (T := TX4) (N := 9) C.1.1 C.1.2.1 C.1.2.2.2.2 inlX4 tyX4 tyX4_ok nmX4 C.1.2.2.2.1 C.2.1 hR.P hR.D hS q (bd_ws_at hq) rfl 8 (by decide) (C.1.2.2.2.2 _ hl) (fun _ h => h) rfl (by decide +kernel) rfl rfl (Nat.le_of_ble_eq_true rfl) hdg (fun H1 locs1 hP _ hS1 => kk H1 locs1 (bd_back hR hq (bd_upX (F := 34) (by simp [bd_ce, bd_up, bd_fam, bd_fmY]) (fun _ => rfl) (fun h => ⟨rfl, rfl⟩)) hP) hS1)
theorem bd_g_X5_contest (C : bd_Cx E p m c cc nL s args own) (hR : bd_Rep E xm ym om H) (hl : Cond.fieldLink own i "BandDay" "contest" "LBandDay$Contest;" ∈ wsL_law) (hdg : decode cc pc = .ok (.getfield i, 3)) (kk : W p l e R s m args below meth c H locs cells slots Q (F0 m (pc + 3) ls (.ref (bd_ea E 2 0 0) :: rest))) : W p l e R s m args below meth c H locs cells slots Q (F0 m pc ls (.ref (bd_ea E 0 0 0) :: rest)) := by
  obtain ⟨q, hq⟩ := bd_pos (f := 0) (w := 0) (k := 0) ⟨by decide, by decide, by decide⟩
  exact va_get (D := bd_eD E) (ci := 5) (C := RX5) (T := TX5) (N := 4) C.1.1 C.1.2.1 C.1.2.2.2.2 inlX5 C.1.2.2.2.1 C.2.1 hR.P q (bd_ws_at hq) rfl 0 (by decide) (C.1.2.2.2.2 _ hl) (fun _ h => h) rfl hdg kk
theorem bd_g_X5_season (C : bd_Cx E p m c cc nL s args own) (hR : bd_Rep E xm ym om H) (hl : Cond.fieldLink own i "BandDay" "season" "LBandDay$Season;" ∈ wsL_law) (hdg : decode cc pc = .ok (.getfield i, 3)) (kk : W p l e R s m args below meth c H locs cells slots Q (F0 m (pc + 3) ls (.ref (bd_ea E 1 0 0) :: rest))) : W p l e R s m args below meth c H locs cells slots Q (F0 m pc ls (.ref (bd_ea E 0 0 0) :: rest)) := by
  obtain ⟨q, hq⟩ := bd_pos (f := 0) (w := 0) (k := 0) ⟨by decide, by decide, by decide⟩
  exact va_get (D := bd_eD E) (ci := 5) (C := RX5) (T := TX5) (N := 4) C.1.1 C.1.2.1 C.1.2.2.2.2 inlX5 C.1.2.2.2.1 C.2.1 hR.P q (bd_ws_at hq) rfl 1 (by decide) (C.1.2.2.2.2 _ hl) (fun _ h => h) rfl hdg kk
theorem bd_g_X5_trialContest (C : bd_Cx E p m c cc nL s args own) (hR : bd_Rep E xm ym om H) (hl : Cond.fieldLink own i "BandDay" "trialContest" "LBandDay$Contest;" ∈ wsL_law) (hdg : decode cc pc = .ok (.getfield i, 3)) (kk : W p l e R s m args below meth c H locs cells slots Q (F0 m (pc + 3) ls (.ref (bd_ea E 2 1 0) :: rest))) : W p l e R s m args below meth c H locs cells slots Q (F0 m pc ls (.ref (bd_ea E 0 0 0) :: rest)) := by
  obtain ⟨q, hq⟩ := bd_pos (f := 0) (w := 0) (k := 0) ⟨by decide, by decide, by decide⟩
  exact va_get (D := bd_eD E) (ci := 5) (C := RX5) (T := TX5) (N := 4) C.1.1 C.1.2.1 C.1.2.2.2.2 inlX5 C.1.2.2.2.1 C.2.1 hR.P q (bd_ws_at hq) rfl 2 (by decide) (C.1.2.2.2.2 _ hl) (fun _ h => h) rfl hdg kk
theorem bd_g_X5_trial (C : bd_Cx E p m c cc nL s args own) (hR : bd_Rep E xm ym om H) (hl : Cond.fieldLink own i "BandDay" "trial" "LBandDay$Season;" ∈ wsL_law) (hdg : decode cc pc = .ok (.getfield i, 3)) (kk : W p l e R s m args below meth c H locs cells slots Q (F0 m (pc + 3) ls (.ref (bd_ea E 1 1 0) :: rest))) : W p l e R s m args below meth c H locs cells slots Q (F0 m pc ls (.ref (bd_ea E 0 0 0) :: rest)) := by
  obtain ⟨q, hq⟩ := bd_pos (f := 0) (w := 0) (k := 0) ⟨by decide, by decide, by decide⟩
  exact va_get (D := bd_eD E) (ci := 5) (C := RX5) (T := TX5) (N := 4) C.1.1 C.1.2.1 C.1.2.2.2.2 inlX5 C.1.2.2.2.1 C.2.1 hR.P q (bd_ws_at hq) rfl 3 (by decide) (C.1.2.2.2.2 _ hl) (fun _ h => h) rfl hdg kk
theorem bd_g_X6_contests (C : bd_Cx E p m c cc nL s args own) (hR : bd_Rep E xm ym om H) (hw : w < 2) (hl : Cond.fieldLink own i "BandDayModel$State" "contests" "I" ∈ wsL_law) (hdg : decode cc pc = .ok (.getfield i, 3)) (kk : W p l e R s m args below meth c H locs cells slots Q (F0 m (pc + 3) ls (.int (ym 10 w 0) :: rest))) : W p l e R s m args below meth c H locs cells slots Q (F0 m pc ls (.ref (bd_ea E 18 w 0) :: rest)) := by
  obtain ⟨q, hq⟩ := bd_pos (f := 18) (w := w) (k := 0) ⟨by decide, hw, by decide⟩
  exact va_get (D := bd_eD E) (ci := 6) (C := RX6) (T := TX6) (N := 15) C.1.1 C.1.2.1 C.1.2.2.2.2 inlX6 C.1.2.2.2.1 C.2.1 hR.P q (bd_ws_at hq) rfl 0 (by decide) (C.1.2.2.2.2 _ hl) (fun _ h => h) rfl hdg kk
theorem bd_gN_X6_contests (C : bd_Cx E p m c cc nL s args own) (hR : bd_Rep E xm ym om H) (hw : w < 2) (hl : Cond.fieldLinkNest own i "BandDayModel$State" "contests" "I" "BandDayModel" ∈ bd_N) (hdg : decode cc pc = .ok (.getfield i, 3)) (kk : W p l e R s m args below meth c H locs cells slots Q (F0 m (pc + 3) ls (.int (ym 10 w 0) :: rest))) : W p l e R s m args below meth c H locs cells slots Q (F0 m pc ls (.ref (bd_ea E 18 w 0) :: rest)) := by
  obtain ⟨q, hq⟩ := bd_pos (f := 18) (w := w) (k := 0) ⟨by decide, hw, by decide⟩
  exact va_getN (D := bd_eD E) (ci := 6) (C := RX6) (T := TX6) (N := 15) C.1.1 C.1.2.1 C.1.2.2.2.2 inlX6 C.1.2.2.2.1 C.2.1 hR.P q (bd_ws_at hq) rfl 0 (by decide) (va_Nw.use rfl (C.2.2.1 _ hl)) (fun _ h => h) rfl hdg kk
theorem bd_p_X6_contests (C : bd_Cx E p m c cc nL s args own) (hR : bd_Rep E xm ym om H) (hS : va_S (bd_A E) H0 H locs) (hw : w < 2) (hl : Cond.fieldLink own i "BandDayModel$State" "contests" "I" ∈ wsL_law) (hdg : decode cc pc = .ok (.putfield i, 3)) {v : Int32} (kk : ∀ (H1 : Heap) (locs1 : List Loc), bd_Rep E xm (bd_up ym 10 w 0 v) om H1 → va_S (bd_A E) H0 H1 locs1 → W p l e R s m args below meth c H1 locs1 cells slots Q (F0 m (pc + 3) ls rest)) : W p l e R s m args below meth c H locs cells slots Q (F0 m pc ls (.int v :: .ref (bd_ea E 18 w 0) :: rest)) := by
  obtain ⟨q, hq⟩ := bd_pos (f := 18) (w := w) (k := 0) ⟨by decide, hw, by decide⟩
  exact va_put (D := bd_eD E) (ci := 6) (v := .int v) (ty := .int) (C := RX6) (T := TX6) (N := 15) C.1.1 C.1.2.1 C.1.2.2.2.2 inlX6 tyX6 tyX6_ok nmX6 C.1.2.2.2.1 C.2.1 hR.P hR.D hS q (bd_ws_at hq) rfl 0 (by decide) (C.1.2.2.2.2 _ hl) (fun _ h => h) rfl (by decide +kernel) rfl rfl (Nat.le_of_ble_eq_true rfl) hdg (fun H1 locs1 hP _ hS1 => kk H1 locs1 (bd_back hR hq (bd_upY (F := 10) (by simp [bd_ce, bd_up, bd_fam, bd_fmY]) (by decide)) hP) hS1)
theorem bd_g_X6_deputies (C : bd_Cx E p m c cc nL s args own) (hR : bd_Rep E xm ym om H) (hw : w < 2) (hl : Cond.fieldLink own i "BandDayModel$State" "deputies" "I" ∈ wsL_law) (hdg : decode cc pc = .ok (.getfield i, 3)) (kk : W p l e R s m args below meth c H locs cells slots Q (F0 m (pc + 3) ls (.int (ym 11 w 0) :: rest))) : W p l e R s m args below meth c H locs cells slots Q (F0 m pc ls (.ref (bd_ea E 18 w 0) :: rest)) := by
  obtain ⟨q, hq⟩ := bd_pos (f := 18) (w := w) (k := 0) ⟨by decide, hw, by decide⟩
  exact va_get (D := bd_eD E) (ci := 6) (C := RX6) (T := TX6) (N := 15) C.1.1 C.1.2.1 C.1.2.2.2.2 inlX6 C.1.2.2.2.1 C.2.1 hR.P q (bd_ws_at hq) rfl 1 (by decide) (C.1.2.2.2.2 _ hl) (fun _ h => h) rfl hdg kk
theorem bd_gN_X6_deputies (C : bd_Cx E p m c cc nL s args own) (hR : bd_Rep E xm ym om H) (hw : w < 2) (hl : Cond.fieldLinkNest own i "BandDayModel$State" "deputies" "I" "BandDayModel" ∈ bd_N) (hdg : decode cc pc = .ok (.getfield i, 3)) (kk : W p l e R s m args below meth c H locs cells slots Q (F0 m (pc + 3) ls (.int (ym 11 w 0) :: rest))) : W p l e R s m args below meth c H locs cells slots Q (F0 m pc ls (.ref (bd_ea E 18 w 0) :: rest)) := by
  obtain ⟨q, hq⟩ := bd_pos (f := 18) (w := w) (k := 0) ⟨by decide, hw, by decide⟩
  exact va_getN (D := bd_eD E) (ci := 6) (C := RX6) (T := TX6) (N := 15) C.1.1 C.1.2.1 C.1.2.2.2.2 inlX6 C.1.2.2.2.1 C.2.1 hR.P q (bd_ws_at hq) rfl 1 (by decide) (va_Nw.use rfl (C.2.2.1 _ hl)) (fun _ h => h) rfl hdg kk
theorem bd_p_X6_deputies (C : bd_Cx E p m c cc nL s args own) (hR : bd_Rep E xm ym om H) (hS : va_S (bd_A E) H0 H locs) (hw : w < 2) (hl : Cond.fieldLink own i "BandDayModel$State" "deputies" "I" ∈ wsL_law) (hdg : decode cc pc = .ok (.putfield i, 3)) {v : Int32} (kk : ∀ (H1 : Heap) (locs1 : List Loc), bd_Rep E xm (bd_up ym 11 w 0 v) om H1 → va_S (bd_A E) H0 H1 locs1 → W p l e R s m args below meth c H1 locs1 cells slots Q (F0 m (pc + 3) ls rest)) : W p l e R s m args below meth c H locs cells slots Q (F0 m pc ls (.int v :: .ref (bd_ea E 18 w 0) :: rest)) := by
  obtain ⟨q, hq⟩ := bd_pos (f := 18) (w := w) (k := 0) ⟨by decide, hw, by decide⟩
  exact va_put (D := bd_eD E) (ci := 6) (v := .int v) (ty := .int) (C := RX6) (T := TX6) (N := 15) C.1.1 C.1.2.1 C.1.2.2.2.2 inlX6 tyX6 tyX6_ok nmX6 C.1.2.2.2.1 C.2.1 hR.P hR.D hS q (bd_ws_at hq) rfl 1 (by decide) (C.1.2.2.2.2 _ hl) (fun _ h => h) rfl (by decide +kernel) rfl rfl (Nat.le_of_ble_eq_true rfl) hdg (fun H1 locs1 hP _ hS1 => kk H1 locs1 (bd_back hR hq (bd_upY (F := 11) (by simp [bd_ce, bd_up, bd_fam, bd_fmY]) (by decide)) hP) hS1)
theorem bd_g_X6_empties (C : bd_Cx E p m c cc nL s args own) (hR : bd_Rep E xm ym om H) (hw : w < 2) (hl : Cond.fieldLink own i "BandDayModel$State" "empties" "I" ∈ wsL_law) (hdg : decode cc pc = .ok (.getfield i, 3)) (kk : W p l e R s m args below meth c H locs cells slots Q (F0 m (pc + 3) ls (.int (ym 12 w 0) :: rest))) : W p l e R s m args below meth c H locs cells slots Q (F0 m pc ls (.ref (bd_ea E 18 w 0) :: rest)) := by
  obtain ⟨q, hq⟩ := bd_pos (f := 18) (w := w) (k := 0) ⟨by decide, hw, by decide⟩
  exact va_get (D := bd_eD E) (ci := 6) (C := RX6) (T := TX6) (N := 15) C.1.1 C.1.2.1 C.1.2.2.2.2 inlX6 C.1.2.2.2.1 C.2.1 hR.P q (bd_ws_at hq) rfl 2 (by decide) (C.1.2.2.2.2 _ hl) (fun _ h => h) rfl hdg kk
theorem bd_gN_X6_empties (C : bd_Cx E p m c cc nL s args own) (hR : bd_Rep E xm ym om H) (hw : w < 2) (hl : Cond.fieldLinkNest own i "BandDayModel$State" "empties" "I" "BandDayModel" ∈ bd_N) (hdg : decode cc pc = .ok (.getfield i, 3)) (kk : W p l e R s m args below meth c H locs cells slots Q (F0 m (pc + 3) ls (.int (ym 12 w 0) :: rest))) : W p l e R s m args below meth c H locs cells slots Q (F0 m pc ls (.ref (bd_ea E 18 w 0) :: rest)) := by
  obtain ⟨q, hq⟩ := bd_pos (f := 18) (w := w) (k := 0) ⟨by decide, hw, by decide⟩
  exact va_getN (D := bd_eD E) (ci := 6) (C := RX6) (T := TX6) (N := 15) C.1.1 C.1.2.1 C.1.2.2.2.2 inlX6 C.1.2.2.2.1 C.2.1 hR.P q (bd_ws_at hq) rfl 2 (by decide) (va_Nw.use rfl (C.2.2.1 _ hl)) (fun _ h => h) rfl hdg kk
theorem bd_p_X6_empties (C : bd_Cx E p m c cc nL s args own) (hR : bd_Rep E xm ym om H) (hS : va_S (bd_A E) H0 H locs) (hw : w < 2) (hl : Cond.fieldLink own i "BandDayModel$State" "empties" "I" ∈ wsL_law) (hdg : decode cc pc = .ok (.putfield i, 3)) {v : Int32} (kk : ∀ (H1 : Heap) (locs1 : List Loc), bd_Rep E xm (bd_up ym 12 w 0 v) om H1 → va_S (bd_A E) H0 H1 locs1 → W p l e R s m args below meth c H1 locs1 cells slots Q (F0 m (pc + 3) ls rest)) : W p l e R s m args below meth c H locs cells slots Q (F0 m pc ls (.int v :: .ref (bd_ea E 18 w 0) :: rest)) := by
  obtain ⟨q, hq⟩ := bd_pos (f := 18) (w := w) (k := 0) ⟨by decide, hw, by decide⟩
  exact va_put (D := bd_eD E) (ci := 6) (v := .int v) (ty := .int) (C := RX6) (T := TX6) (N := 15) C.1.1 C.1.2.1 C.1.2.2.2.2 inlX6 tyX6 tyX6_ok nmX6 C.1.2.2.2.1 C.2.1 hR.P hR.D hS q (bd_ws_at hq) rfl 2 (by decide) (C.1.2.2.2.2 _ hl) (fun _ h => h) rfl (by decide +kernel) rfl rfl (Nat.le_of_ble_eq_true rfl) hdg (fun H1 locs1 hP _ hS1 => kk H1 locs1 (bd_back hR hq (bd_upY (F := 12) (by simp [bd_ce, bd_up, bd_fam, bd_fmY]) (by decide)) hP) hS1)
theorem bd_g_X6_tired (C : bd_Cx E p m c cc nL s args own) (hR : bd_Rep E xm ym om H) (hw : w < 2) (hl : Cond.fieldLink own i "BandDayModel$State" "tired" "[I" ∈ wsL_law) (hdg : decode cc pc = .ok (.getfield i, 3)) (kk : W p l e R s m args below meth c H locs cells slots Q (F0 m (pc + 3) ls (.ref (bd_ea E 19 w 0) :: rest))) : W p l e R s m args below meth c H locs cells slots Q (F0 m pc ls (.ref (bd_ea E 18 w 0) :: rest)) := by
  obtain ⟨q, hq⟩ := bd_pos (f := 18) (w := w) (k := 0) ⟨by decide, hw, by decide⟩
  exact va_get (D := bd_eD E) (ci := 6) (C := RX6) (T := TX6) (N := 15) C.1.1 C.1.2.1 C.1.2.2.2.2 inlX6 C.1.2.2.2.1 C.2.1 hR.P q (bd_ws_at hq) rfl 3 (by decide) (C.1.2.2.2.2 _ hl) (fun _ h => h) rfl hdg kk
theorem bd_gN_X6_tired (C : bd_Cx E p m c cc nL s args own) (hR : bd_Rep E xm ym om H) (hw : w < 2) (hl : Cond.fieldLinkNest own i "BandDayModel$State" "tired" "[I" "BandDayModel" ∈ bd_N) (hdg : decode cc pc = .ok (.getfield i, 3)) (kk : W p l e R s m args below meth c H locs cells slots Q (F0 m (pc + 3) ls (.ref (bd_ea E 19 w 0) :: rest))) : W p l e R s m args below meth c H locs cells slots Q (F0 m pc ls (.ref (bd_ea E 18 w 0) :: rest)) := by
  obtain ⟨q, hq⟩ := bd_pos (f := 18) (w := w) (k := 0) ⟨by decide, hw, by decide⟩
  exact va_getN (D := bd_eD E) (ci := 6) (C := RX6) (T := TX6) (N := 15) C.1.1 C.1.2.1 C.1.2.2.2.2 inlX6 C.1.2.2.2.1 C.2.1 hR.P q (bd_ws_at hq) rfl 3 (by decide) (va_Nw.use rfl (C.2.2.1 _ hl)) (fun _ h => h) rfl hdg kk
theorem bd_g_X6_absent (C : bd_Cx E p m c cc nL s args own) (hR : bd_Rep E xm ym om H) (hw : w < 2) (hl : Cond.fieldLink own i "BandDayModel$State" "absent" "[I" ∈ wsL_law) (hdg : decode cc pc = .ok (.getfield i, 3)) (kk : W p l e R s m args below meth c H locs cells slots Q (F0 m (pc + 3) ls (.ref (bd_ea E 20 w 0) :: rest))) : W p l e R s m args below meth c H locs cells slots Q (F0 m pc ls (.ref (bd_ea E 18 w 0) :: rest)) := by
  obtain ⟨q, hq⟩ := bd_pos (f := 18) (w := w) (k := 0) ⟨by decide, hw, by decide⟩
  exact va_get (D := bd_eD E) (ci := 6) (C := RX6) (T := TX6) (N := 15) C.1.1 C.1.2.1 C.1.2.2.2.2 inlX6 C.1.2.2.2.1 C.2.1 hR.P q (bd_ws_at hq) rfl 4 (by decide) (C.1.2.2.2.2 _ hl) (fun _ h => h) rfl hdg kk
theorem bd_gN_X6_absent (C : bd_Cx E p m c cc nL s args own) (hR : bd_Rep E xm ym om H) (hw : w < 2) (hl : Cond.fieldLinkNest own i "BandDayModel$State" "absent" "[I" "BandDayModel" ∈ bd_N) (hdg : decode cc pc = .ok (.getfield i, 3)) (kk : W p l e R s m args below meth c H locs cells slots Q (F0 m (pc + 3) ls (.ref (bd_ea E 20 w 0) :: rest))) : W p l e R s m args below meth c H locs cells slots Q (F0 m pc ls (.ref (bd_ea E 18 w 0) :: rest)) := by
  obtain ⟨q, hq⟩ := bd_pos (f := 18) (w := w) (k := 0) ⟨by decide, hw, by decide⟩
  exact va_getN (D := bd_eD E) (ci := 6) (C := RX6) (T := TX6) (N := 15) C.1.1 C.1.2.1 C.1.2.2.2.2 inlX6 C.1.2.2.2.1 C.2.1 hR.P q (bd_ws_at hq) rfl 4 (by decide) (va_Nw.use rfl (C.2.2.1 _ hl)) (fun _ h => h) rfl hdg kk
theorem bd_g_X6_sat (C : bd_Cx E p m c cc nL s args own) (hR : bd_Rep E xm ym om H) (hw : w < 2) (hl : Cond.fieldLink own i "BandDayModel$State" "sat" "[I" ∈ wsL_law) (hdg : decode cc pc = .ok (.getfield i, 3)) (kk : W p l e R s m args below meth c H locs cells slots Q (F0 m (pc + 3) ls (.ref (bd_ea E 21 w 0) :: rest))) : W p l e R s m args below meth c H locs cells slots Q (F0 m pc ls (.ref (bd_ea E 18 w 0) :: rest)) := by
  obtain ⟨q, hq⟩ := bd_pos (f := 18) (w := w) (k := 0) ⟨by decide, hw, by decide⟩
  exact va_get (D := bd_eD E) (ci := 6) (C := RX6) (T := TX6) (N := 15) C.1.1 C.1.2.1 C.1.2.2.2.2 inlX6 C.1.2.2.2.1 C.2.1 hR.P q (bd_ws_at hq) rfl 5 (by decide) (C.1.2.2.2.2 _ hl) (fun _ h => h) rfl hdg kk
theorem bd_gN_X6_sat (C : bd_Cx E p m c cc nL s args own) (hR : bd_Rep E xm ym om H) (hw : w < 2) (hl : Cond.fieldLinkNest own i "BandDayModel$State" "sat" "[I" "BandDayModel" ∈ bd_N) (hdg : decode cc pc = .ok (.getfield i, 3)) (kk : W p l e R s m args below meth c H locs cells slots Q (F0 m (pc + 3) ls (.ref (bd_ea E 21 w 0) :: rest))) : W p l e R s m args below meth c H locs cells slots Q (F0 m pc ls (.ref (bd_ea E 18 w 0) :: rest)) := by
  obtain ⟨q, hq⟩ := bd_pos (f := 18) (w := w) (k := 0) ⟨by decide, hw, by decide⟩
  exact va_getN (D := bd_eD E) (ci := 6) (C := RX6) (T := TX6) (N := 15) C.1.1 C.1.2.1 C.1.2.2.2.2 inlX6 C.1.2.2.2.1 C.2.1 hR.P q (bd_ws_at hq) rfl 5 (by decide) (va_Nw.use rfl (C.2.2.1 _ hl)) (fun _ h => h) rfl hdg kk
theorem bd_g_X6_deputy (C : bd_Cx E p m c cc nL s args own) (hR : bd_Rep E xm ym om H) (hw : w < 2) (hl : Cond.fieldLink own i "BandDayModel$State" "deputy" "[I" ∈ wsL_law) (hdg : decode cc pc = .ok (.getfield i, 3)) (kk : W p l e R s m args below meth c H locs cells slots Q (F0 m (pc + 3) ls (.ref (bd_ea E 22 w 0) :: rest))) : W p l e R s m args below meth c H locs cells slots Q (F0 m pc ls (.ref (bd_ea E 18 w 0) :: rest)) := by
  obtain ⟨q, hq⟩ := bd_pos (f := 18) (w := w) (k := 0) ⟨by decide, hw, by decide⟩
  exact va_get (D := bd_eD E) (ci := 6) (C := RX6) (T := TX6) (N := 15) C.1.1 C.1.2.1 C.1.2.2.2.2 inlX6 C.1.2.2.2.1 C.2.1 hR.P q (bd_ws_at hq) rfl 6 (by decide) (C.1.2.2.2.2 _ hl) (fun _ h => h) rfl hdg kk
theorem bd_gN_X6_deputy (C : bd_Cx E p m c cc nL s args own) (hR : bd_Rep E xm ym om H) (hw : w < 2) (hl : Cond.fieldLinkNest own i "BandDayModel$State" "deputy" "[I" "BandDayModel" ∈ bd_N) (hdg : decode cc pc = .ok (.getfield i, 3)) (kk : W p l e R s m args below meth c H locs cells slots Q (F0 m (pc + 3) ls (.ref (bd_ea E 22 w 0) :: rest))) : W p l e R s m args below meth c H locs cells slots Q (F0 m pc ls (.ref (bd_ea E 18 w 0) :: rest)) := by
  obtain ⟨q, hq⟩ := bd_pos (f := 18) (w := w) (k := 0) ⟨by decide, hw, by decide⟩
  exact va_getN (D := bd_eD E) (ci := 6) (C := RX6) (T := TX6) (N := 15) C.1.1 C.1.2.1 C.1.2.2.2.2 inlX6 C.1.2.2.2.1 C.2.1 hR.P q (bd_ws_at hq) rfl 6 (by decide) (va_Nw.use rfl (C.2.2.1 _ hl)) (fun _ h => h) rfl hdg kk
theorem bd_g_X6_member (C : bd_Cx E p m c cc nL s args own) (hR : bd_Rep E xm ym om H) (hw : w < 2) (hl : Cond.fieldLink own i "BandDayModel$State" "member" "[I" ∈ wsL_law) (hdg : decode cc pc = .ok (.getfield i, 3)) (kk : W p l e R s m args below meth c H locs cells slots Q (F0 m (pc + 3) ls (.ref (bd_ea E 23 w 0) :: rest))) : W p l e R s m args below meth c H locs cells slots Q (F0 m pc ls (.ref (bd_ea E 18 w 0) :: rest)) := by
  obtain ⟨q, hq⟩ := bd_pos (f := 18) (w := w) (k := 0) ⟨by decide, hw, by decide⟩
  exact va_get (D := bd_eD E) (ci := 6) (C := RX6) (T := TX6) (N := 15) C.1.1 C.1.2.1 C.1.2.2.2.2 inlX6 C.1.2.2.2.1 C.2.1 hR.P q (bd_ws_at hq) rfl 7 (by decide) (C.1.2.2.2.2 _ hl) (fun _ h => h) rfl hdg kk
theorem bd_gN_X6_member (C : bd_Cx E p m c cc nL s args own) (hR : bd_Rep E xm ym om H) (hw : w < 2) (hl : Cond.fieldLinkNest own i "BandDayModel$State" "member" "[I" "BandDayModel" ∈ bd_N) (hdg : decode cc pc = .ok (.getfield i, 3)) (kk : W p l e R s m args below meth c H locs cells slots Q (F0 m (pc + 3) ls (.ref (bd_ea E 23 w 0) :: rest))) : W p l e R s m args below meth c H locs cells slots Q (F0 m pc ls (.ref (bd_ea E 18 w 0) :: rest)) := by
  obtain ⟨q, hq⟩ := bd_pos (f := 18) (w := w) (k := 0) ⟨by decide, hw, by decide⟩
  exact va_getN (D := bd_eD E) (ci := 6) (C := RX6) (T := TX6) (N := 15) C.1.1 C.1.2.1 C.1.2.2.2.2 inlX6 C.1.2.2.2.1 C.2.1 hR.P q (bd_ws_at hq) rfl 7 (by decide) (va_Nw.use rfl (C.2.2.1 _ hl)) (fun _ h => h) rfl hdg kk
theorem bd_g_X6_who (C : bd_Cx E p m c cc nL s args own) (hR : bd_Rep E xm ym om H) (hw : w < 2) (hl : Cond.fieldLink own i "BandDayModel$State" "who" "[I" ∈ wsL_law) (hdg : decode cc pc = .ok (.getfield i, 3)) (kk : W p l e R s m args below meth c H locs cells slots Q (F0 m (pc + 3) ls (.ref (bd_ea E 24 w 0) :: rest))) : W p l e R s m args below meth c H locs cells slots Q (F0 m pc ls (.ref (bd_ea E 18 w 0) :: rest)) := by
  obtain ⟨q, hq⟩ := bd_pos (f := 18) (w := w) (k := 0) ⟨by decide, hw, by decide⟩
  exact va_get (D := bd_eD E) (ci := 6) (C := RX6) (T := TX6) (N := 15) C.1.1 C.1.2.1 C.1.2.2.2.2 inlX6 C.1.2.2.2.1 C.2.1 hR.P q (bd_ws_at hq) rfl 8 (by decide) (C.1.2.2.2.2 _ hl) (fun _ h => h) rfl hdg kk
theorem bd_gN_X6_who (C : bd_Cx E p m c cc nL s args own) (hR : bd_Rep E xm ym om H) (hw : w < 2) (hl : Cond.fieldLinkNest own i "BandDayModel$State" "who" "[I" "BandDayModel" ∈ bd_N) (hdg : decode cc pc = .ok (.getfield i, 3)) (kk : W p l e R s m args below meth c H locs cells slots Q (F0 m (pc + 3) ls (.ref (bd_ea E 24 w 0) :: rest))) : W p l e R s m args below meth c H locs cells slots Q (F0 m pc ls (.ref (bd_ea E 18 w 0) :: rest)) := by
  obtain ⟨q, hq⟩ := bd_pos (f := 18) (w := w) (k := 0) ⟨by decide, hw, by decide⟩
  exact va_getN (D := bd_eD E) (ci := 6) (C := RX6) (T := TX6) (N := 15) C.1.1 C.1.2.1 C.1.2.2.2.2 inlX6 C.1.2.2.2.1 C.2.1 hR.P q (bd_ws_at hq) rfl 8 (by decide) (va_Nw.use rfl (C.2.2.1 _ hl)) (fun _ h => h) rfl hdg kk
theorem bd_g_X6_spirit (C : bd_Cx E p m c cc nL s args own) (hR : bd_Rep E xm ym om H) (hw : w < 2) (hl : Cond.fieldLink own i "BandDayModel$State" "spirit" "[I" ∈ wsL_law) (hdg : decode cc pc = .ok (.getfield i, 3)) (kk : W p l e R s m args below meth c H locs cells slots Q (F0 m (pc + 3) ls (.ref (bd_ea E 25 w 0) :: rest))) : W p l e R s m args below meth c H locs cells slots Q (F0 m pc ls (.ref (bd_ea E 18 w 0) :: rest)) := by
  obtain ⟨q, hq⟩ := bd_pos (f := 18) (w := w) (k := 0) ⟨by decide, hw, by decide⟩
  exact va_get (D := bd_eD E) (ci := 6) (C := RX6) (T := TX6) (N := 15) C.1.1 C.1.2.1 C.1.2.2.2.2 inlX6 C.1.2.2.2.1 C.2.1 hR.P q (bd_ws_at hq) rfl 9 (by decide) (C.1.2.2.2.2 _ hl) (fun _ h => h) rfl hdg kk
theorem bd_gN_X6_spirit (C : bd_Cx E p m c cc nL s args own) (hR : bd_Rep E xm ym om H) (hw : w < 2) (hl : Cond.fieldLinkNest own i "BandDayModel$State" "spirit" "[I" "BandDayModel" ∈ bd_N) (hdg : decode cc pc = .ok (.getfield i, 3)) (kk : W p l e R s m args below meth c H locs cells slots Q (F0 m (pc + 3) ls (.ref (bd_ea E 25 w 0) :: rest))) : W p l e R s m args below meth c H locs cells slots Q (F0 m pc ls (.ref (bd_ea E 18 w 0) :: rest)) := by
  obtain ⟨q, hq⟩ := bd_pos (f := 18) (w := w) (k := 0) ⟨by decide, hw, by decide⟩
  exact va_getN (D := bd_eD E) (ci := 6) (C := RX6) (T := TX6) (N := 15) C.1.1 C.1.2.1 C.1.2.2.2.2 inlX6 C.1.2.2.2.1 C.2.1 hR.P q (bd_ws_at hq) rfl 9 (by decide) (va_Nw.use rfl (C.2.2.1 _ hl)) (fun _ h => h) rfl hdg kk
theorem bd_g_X6_points (C : bd_Cx E p m c cc nL s args own) (hR : bd_Rep E xm ym om H) (hw : w < 2) (hl : Cond.fieldLink own i "BandDayModel$State" "points" "[I" ∈ wsL_law) (hdg : decode cc pc = .ok (.getfield i, 3)) (kk : W p l e R s m args below meth c H locs cells slots Q (F0 m (pc + 3) ls (.ref (bd_ea E 26 w 0) :: rest))) : W p l e R s m args below meth c H locs cells slots Q (F0 m pc ls (.ref (bd_ea E 18 w 0) :: rest)) := by
  obtain ⟨q, hq⟩ := bd_pos (f := 18) (w := w) (k := 0) ⟨by decide, hw, by decide⟩
  exact va_get (D := bd_eD E) (ci := 6) (C := RX6) (T := TX6) (N := 15) C.1.1 C.1.2.1 C.1.2.2.2.2 inlX6 C.1.2.2.2.1 C.2.1 hR.P q (bd_ws_at hq) rfl 10 (by decide) (C.1.2.2.2.2 _ hl) (fun _ h => h) rfl hdg kk
theorem bd_gN_X6_points (C : bd_Cx E p m c cc nL s args own) (hR : bd_Rep E xm ym om H) (hw : w < 2) (hl : Cond.fieldLinkNest own i "BandDayModel$State" "points" "[I" "BandDayModel" ∈ bd_N) (hdg : decode cc pc = .ok (.getfield i, 3)) (kk : W p l e R s m args below meth c H locs cells slots Q (F0 m (pc + 3) ls (.ref (bd_ea E 26 w 0) :: rest))) : W p l e R s m args below meth c H locs cells slots Q (F0 m pc ls (.ref (bd_ea E 18 w 0) :: rest)) := by
  obtain ⟨q, hq⟩ := bd_pos (f := 18) (w := w) (k := 0) ⟨by decide, hw, by decide⟩
  exact va_getN (D := bd_eD E) (ci := 6) (C := RX6) (T := TX6) (N := 15) C.1.1 C.1.2.1 C.1.2.2.2.2 inlX6 C.1.2.2.2.1 C.2.1 hR.P q (bd_ws_at hq) rfl 10 (by decide) (va_Nw.use rfl (C.2.2.1 _ hl)) (fun _ h => h) rfl hdg kk
theorem bd_g_X6_outs (C : bd_Cx E p m c cc nL s args own) (hR : bd_Rep E xm ym om H) (hw : w < 2) (hl : Cond.fieldLink own i "BandDayModel$State" "outs" "[I" ∈ wsL_law) (hdg : decode cc pc = .ok (.getfield i, 3)) (kk : W p l e R s m args below meth c H locs cells slots Q (F0 m (pc + 3) ls (.ref (bd_ea E 27 w 0) :: rest))) : W p l e R s m args below meth c H locs cells slots Q (F0 m pc ls (.ref (bd_ea E 18 w 0) :: rest)) := by
  obtain ⟨q, hq⟩ := bd_pos (f := 18) (w := w) (k := 0) ⟨by decide, hw, by decide⟩
  exact va_get (D := bd_eD E) (ci := 6) (C := RX6) (T := TX6) (N := 15) C.1.1 C.1.2.1 C.1.2.2.2.2 inlX6 C.1.2.2.2.1 C.2.1 hR.P q (bd_ws_at hq) rfl 11 (by decide) (C.1.2.2.2.2 _ hl) (fun _ h => h) rfl hdg kk
theorem bd_gN_X6_outs (C : bd_Cx E p m c cc nL s args own) (hR : bd_Rep E xm ym om H) (hw : w < 2) (hl : Cond.fieldLinkNest own i "BandDayModel$State" "outs" "[I" "BandDayModel" ∈ bd_N) (hdg : decode cc pc = .ok (.getfield i, 3)) (kk : W p l e R s m args below meth c H locs cells slots Q (F0 m (pc + 3) ls (.ref (bd_ea E 27 w 0) :: rest))) : W p l e R s m args below meth c H locs cells slots Q (F0 m pc ls (.ref (bd_ea E 18 w 0) :: rest)) := by
  obtain ⟨q, hq⟩ := bd_pos (f := 18) (w := w) (k := 0) ⟨by decide, hw, by decide⟩
  exact va_getN (D := bd_eD E) (ci := 6) (C := RX6) (T := TX6) (N := 15) C.1.1 C.1.2.1 C.1.2.2.2.2 inlX6 C.1.2.2.2.1 C.2.1 hR.P q (bd_ws_at hq) rfl 11 (by decide) (va_Nw.use rfl (C.2.2.1 _ hl)) (fun _ h => h) rfl hdg kk
theorem bd_g_X6_latest (C : bd_Cx E p m c cc nL s args own) (hR : bd_Rep E xm ym om H) (hw : w < 2) (hl : Cond.fieldLink own i "BandDayModel$State" "latest" "[I" ∈ wsL_law) (hdg : decode cc pc = .ok (.getfield i, 3)) (kk : W p l e R s m args below meth c H locs cells slots Q (F0 m (pc + 3) ls (.ref (bd_ea E 28 w 0) :: rest))) : W p l e R s m args below meth c H locs cells slots Q (F0 m pc ls (.ref (bd_ea E 18 w 0) :: rest)) := by
  obtain ⟨q, hq⟩ := bd_pos (f := 18) (w := w) (k := 0) ⟨by decide, hw, by decide⟩
  exact va_get (D := bd_eD E) (ci := 6) (C := RX6) (T := TX6) (N := 15) C.1.1 C.1.2.1 C.1.2.2.2.2 inlX6 C.1.2.2.2.1 C.2.1 hR.P q (bd_ws_at hq) rfl 12 (by decide) (C.1.2.2.2.2 _ hl) (fun _ h => h) rfl hdg kk
theorem bd_gN_X6_latest (C : bd_Cx E p m c cc nL s args own) (hR : bd_Rep E xm ym om H) (hw : w < 2) (hl : Cond.fieldLinkNest own i "BandDayModel$State" "latest" "[I" "BandDayModel" ∈ bd_N) (hdg : decode cc pc = .ok (.getfield i, 3)) (kk : W p l e R s m args below meth c H locs cells slots Q (F0 m (pc + 3) ls (.ref (bd_ea E 28 w 0) :: rest))) : W p l e R s m args below meth c H locs cells slots Q (F0 m pc ls (.ref (bd_ea E 18 w 0) :: rest)) := by
  obtain ⟨q, hq⟩ := bd_pos (f := 18) (w := w) (k := 0) ⟨by decide, hw, by decide⟩
  exact va_getN (D := bd_eD E) (ci := 6) (C := RX6) (T := TX6) (N := 15) C.1.1 C.1.2.1 C.1.2.2.2.2 inlX6 C.1.2.2.2.1 C.2.1 hR.P q (bd_ws_at hq) rfl 12 (by decide) (va_Nw.use rfl (C.2.2.1 _ hl)) (fun _ h => h) rfl hdg kk
theorem bd_g_X6_times (C : bd_Cx E p m c cc nL s args own) (hR : bd_Rep E xm ym om H) (hw : w < 2) (hl : Cond.fieldLink own i "BandDayModel$State" "times" "[I" ∈ wsL_law) (hdg : decode cc pc = .ok (.getfield i, 3)) (kk : W p l e R s m args below meth c H locs cells slots Q (F0 m (pc + 3) ls (.ref (bd_ea E 29 w 0) :: rest))) : W p l e R s m args below meth c H locs cells slots Q (F0 m pc ls (.ref (bd_ea E 18 w 0) :: rest)) := by
  obtain ⟨q, hq⟩ := bd_pos (f := 18) (w := w) (k := 0) ⟨by decide, hw, by decide⟩
  exact va_get (D := bd_eD E) (ci := 6) (C := RX6) (T := TX6) (N := 15) C.1.1 C.1.2.1 C.1.2.2.2.2 inlX6 C.1.2.2.2.1 C.2.1 hR.P q (bd_ws_at hq) rfl 13 (by decide) (C.1.2.2.2.2 _ hl) (fun _ h => h) rfl hdg kk
theorem bd_g_X6_this_0 (C : bd_Cx E p m c cc nL s args own) (hR : bd_Rep E xm ym om H) (hw : w < 2) (hl : Cond.fieldLink own i "BandDayModel$State" "this$0" "LBandDayModel;" ∈ wsL_law) (hdg : decode cc pc = .ok (.getfield i, 3)) (kk : W p l e R s m args below meth c H locs cells slots Q (F0 m (pc + 3) ls (.ref (bd_ea E 12 0 0) :: rest))) : W p l e R s m args below meth c H locs cells slots Q (F0 m pc ls (.ref (bd_ea E 18 w 0) :: rest)) := by
  obtain ⟨q, hq⟩ := bd_pos (f := 18) (w := w) (k := 0) ⟨by decide, hw, by decide⟩
  exact va_get (D := bd_eD E) (ci := 6) (C := RX6) (T := TX6) (N := 15) C.1.1 C.1.2.1 C.1.2.2.2.2 inlX6 C.1.2.2.2.1 C.2.1 hR.P q (bd_ws_at hq) rfl 14 (by decide) (C.1.2.2.2.2 _ hl) (fun _ h => h) rfl hdg kk
theorem bd_g_X7_thrown (C : bd_Cx E p m c cc nL s args own) (hR : bd_Rep E xm ym om H) (hl : Cond.fieldLink own i "BandDayModel" "thrown" "I" ∈ wsL_law) (hdg : decode cc pc = .ok (.getfield i, 3)) (kk : W p l e R s m args below meth c H locs cells slots Q (F0 m (pc + 3) ls (.int (ym 0 0 0) :: rest))) : W p l e R s m args below meth c H locs cells slots Q (F0 m pc ls (.ref (bd_ea E 12 0 0) :: rest)) := by
  obtain ⟨q, hq⟩ := bd_pos (f := 12) (w := 0) (k := 0) ⟨by decide, by decide, by decide⟩
  exact va_get (D := bd_eD E) (ci := 7) (C := RX7) (T := TX7) (N := 10) C.1.1 C.1.2.1 C.1.2.2.2.2 inlX7 C.1.2.2.2.1 C.2.1 hR.P q (bd_ws_at hq) rfl 0 (by decide) (C.1.2.2.2.2 _ hl) (fun _ h => h) rfl hdg kk
theorem bd_p_X7_thrown (C : bd_Cx E p m c cc nL s args own) (hR : bd_Rep E xm ym om H) (hS : va_S (bd_A E) H0 H locs) (hl : Cond.fieldLink own i "BandDayModel" "thrown" "I" ∈ wsL_law) (hdg : decode cc pc = .ok (.putfield i, 3)) {v : Int32} (kk : ∀ (H1 : Heap) (locs1 : List Loc), bd_Rep E xm (bd_up ym 0 0 0 v) om H1 → va_S (bd_A E) H0 H1 locs1 → W p l e R s m args below meth c H1 locs1 cells slots Q (F0 m (pc + 3) ls rest)) : W p l e R s m args below meth c H locs cells slots Q (F0 m pc ls (.int v :: .ref (bd_ea E 12 0 0) :: rest)) := by
  obtain ⟨q, hq⟩ := bd_pos (f := 12) (w := 0) (k := 0) ⟨by decide, by decide, by decide⟩
  exact va_put (D := bd_eD E) (ci := 7) (v := .int v) (ty := .int) (C := RX7) (T := TX7) (N := 10) C.1.1 C.1.2.1 C.1.2.2.2.2 inlX7 tyX7 tyX7_ok nmX7 C.1.2.2.2.1 C.2.1 hR.P hR.D hS q (bd_ws_at hq) rfl 0 (by decide) (C.1.2.2.2.2 _ hl) (fun _ h => h) rfl (by decide +kernel) rfl rfl (Nat.le_of_ble_eq_true rfl) hdg (fun H1 locs1 hP _ hS1 => kk H1 locs1 (bd_back hR hq (bd_upY (F := 0) (by simp [bd_ce, bd_up, bd_fam, bd_fmY]) (by decide)) hP) hS1)
theorem bd_g_X7_players (C : bd_Cx E p m c cc nL s args own) (hR : bd_Rep E xm ym om H) (hl : Cond.fieldLink own i "BandDayModel" "players" "I" ∈ wsL_law) (hdg : decode cc pc = .ok (.getfield i, 3)) (kk : W p l e R s m args below meth c H locs cells slots Q (F0 m (pc + 3) ls (.int (ym 1 0 0) :: rest))) : W p l e R s m args below meth c H locs cells slots Q (F0 m pc ls (.ref (bd_ea E 12 0 0) :: rest)) := by
  obtain ⟨q, hq⟩ := bd_pos (f := 12) (w := 0) (k := 0) ⟨by decide, by decide, by decide⟩
  exact va_get (D := bd_eD E) (ci := 7) (C := RX7) (T := TX7) (N := 10) C.1.1 C.1.2.1 C.1.2.2.2.2 inlX7 C.1.2.2.2.1 C.2.1 hR.P q (bd_ws_at hq) rfl 1 (by decide) (C.1.2.2.2.2 _ hl) (fun _ h => h) rfl hdg kk
theorem bd_gN_X7_players (C : bd_Cx E p m c cc nL s args own) (hR : bd_Rep E xm ym om H) (hl : Cond.fieldLinkNest own i "BandDayModel" "players" "I" "BandDayModel" ∈ bd_N) (hdg : decode cc pc = .ok (.getfield i, 3)) (kk : W p l e R s m args below meth c H locs cells slots Q (F0 m (pc + 3) ls (.int (ym 1 0 0) :: rest))) : W p l e R s m args below meth c H locs cells slots Q (F0 m pc ls (.ref (bd_ea E 12 0 0) :: rest)) := by
  obtain ⟨q, hq⟩ := bd_pos (f := 12) (w := 0) (k := 0) ⟨by decide, by decide, by decide⟩
  exact va_getN (D := bd_eD E) (ci := 7) (C := RX7) (T := TX7) (N := 10) C.1.1 C.1.2.1 C.1.2.2.2.2 inlX7 C.1.2.2.2.1 C.2.1 hR.P q (bd_ws_at hq) rfl 1 (by decide) (va_Nw.use rfl (C.2.2.1 _ hl)) (fun _ h => h) rfl hdg kk
theorem bd_p_X7_players (C : bd_Cx E p m c cc nL s args own) (hR : bd_Rep E xm ym om H) (hS : va_S (bd_A E) H0 H locs) (hl : Cond.fieldLink own i "BandDayModel" "players" "I" ∈ wsL_law) (hdg : decode cc pc = .ok (.putfield i, 3)) {v : Int32} (kk : ∀ (H1 : Heap) (locs1 : List Loc), bd_Rep E xm (bd_up ym 1 0 0 v) om H1 → va_S (bd_A E) H0 H1 locs1 → W p l e R s m args below meth c H1 locs1 cells slots Q (F0 m (pc + 3) ls rest)) : W p l e R s m args below meth c H locs cells slots Q (F0 m pc ls (.int v :: .ref (bd_ea E 12 0 0) :: rest)) := by
  obtain ⟨q, hq⟩ := bd_pos (f := 12) (w := 0) (k := 0) ⟨by decide, by decide, by decide⟩
  exact va_put (D := bd_eD E) (ci := 7) (v := .int v) (ty := .int) (C := RX7) (T := TX7) (N := 10) C.1.1 C.1.2.1 C.1.2.2.2.2 inlX7 tyX7 tyX7_ok nmX7 C.1.2.2.2.1 C.2.1 hR.P hR.D hS q (bd_ws_at hq) rfl 1 (by decide) (C.1.2.2.2.2 _ hl) (fun _ h => h) rfl (by decide +kernel) rfl rfl (Nat.le_of_ble_eq_true rfl) hdg (fun H1 locs1 hP _ hS1 => kk H1 locs1 (bd_back hR hq (bd_upY (F := 1) (by simp [bd_ce, bd_up, bd_fam, bd_fmY]) (by decide)) hP) hS1)
theorem bd_g_X7_skill (C : bd_Cx E p m c cc nL s args own) (hR : bd_Rep E xm ym om H) (hl : Cond.fieldLink own i "BandDayModel" "skill" "[I" ∈ wsL_law) (hdg : decode cc pc = .ok (.getfield i, 3)) (kk : W p l e R s m args below meth c H locs cells slots Q (F0 m (pc + 3) ls (.ref (bd_ea E 13 0 0) :: rest))) : W p l e R s m args below meth c H locs cells slots Q (F0 m pc ls (.ref (bd_ea E 12 0 0) :: rest)) := by
  obtain ⟨q, hq⟩ := bd_pos (f := 12) (w := 0) (k := 0) ⟨by decide, by decide, by decide⟩
  exact va_get (D := bd_eD E) (ci := 7) (C := RX7) (T := TX7) (N := 10) C.1.1 C.1.2.1 C.1.2.2.2.2 inlX7 C.1.2.2.2.1 C.2.1 hR.P q (bd_ws_at hq) rfl 2 (by decide) (C.1.2.2.2.2 _ hl) (fun _ h => h) rfl hdg kk
theorem bd_gN_X7_skill (C : bd_Cx E p m c cc nL s args own) (hR : bd_Rep E xm ym om H) (hl : Cond.fieldLinkNest own i "BandDayModel" "skill" "[I" "BandDayModel" ∈ bd_N) (hdg : decode cc pc = .ok (.getfield i, 3)) (kk : W p l e R s m args below meth c H locs cells slots Q (F0 m (pc + 3) ls (.ref (bd_ea E 13 0 0) :: rest))) : W p l e R s m args below meth c H locs cells slots Q (F0 m pc ls (.ref (bd_ea E 12 0 0) :: rest)) := by
  obtain ⟨q, hq⟩ := bd_pos (f := 12) (w := 0) (k := 0) ⟨by decide, by decide, by decide⟩
  exact va_getN (D := bd_eD E) (ci := 7) (C := RX7) (T := TX7) (N := 10) C.1.1 C.1.2.1 C.1.2.2.2.2 inlX7 C.1.2.2.2.1 C.2.1 hR.P q (bd_ws_at hq) rfl 2 (by decide) (va_Nw.use rfl (C.2.2.1 _ hl)) (fun _ h => h) rfl hdg kk
theorem bd_g_X7_bands (C : bd_Cx E p m c cc nL s args own) (hR : bd_Rep E xm ym om H) (hl : Cond.fieldLink own i "BandDayModel" "bands" "I" ∈ wsL_law) (hdg : decode cc pc = .ok (.getfield i, 3)) (kk : W p l e R s m args below meth c H locs cells slots Q (F0 m (pc + 3) ls (.int (ym 2 0 0) :: rest))) : W p l e R s m args below meth c H locs cells slots Q (F0 m pc ls (.ref (bd_ea E 12 0 0) :: rest)) := by
  obtain ⟨q, hq⟩ := bd_pos (f := 12) (w := 0) (k := 0) ⟨by decide, by decide, by decide⟩
  exact va_get (D := bd_eD E) (ci := 7) (C := RX7) (T := TX7) (N := 10) C.1.1 C.1.2.1 C.1.2.2.2.2 inlX7 C.1.2.2.2.1 C.2.1 hR.P q (bd_ws_at hq) rfl 3 (by decide) (C.1.2.2.2.2 _ hl) (fun _ h => h) rfl hdg kk
theorem bd_gN_X7_bands (C : bd_Cx E p m c cc nL s args own) (hR : bd_Rep E xm ym om H) (hl : Cond.fieldLinkNest own i "BandDayModel" "bands" "I" "BandDayModel" ∈ bd_N) (hdg : decode cc pc = .ok (.getfield i, 3)) (kk : W p l e R s m args below meth c H locs cells slots Q (F0 m (pc + 3) ls (.int (ym 2 0 0) :: rest))) : W p l e R s m args below meth c H locs cells slots Q (F0 m pc ls (.ref (bd_ea E 12 0 0) :: rest)) := by
  obtain ⟨q, hq⟩ := bd_pos (f := 12) (w := 0) (k := 0) ⟨by decide, by decide, by decide⟩
  exact va_getN (D := bd_eD E) (ci := 7) (C := RX7) (T := TX7) (N := 10) C.1.1 C.1.2.1 C.1.2.2.2.2 inlX7 C.1.2.2.2.1 C.2.1 hR.P q (bd_ws_at hq) rfl 3 (by decide) (va_Nw.use rfl (C.2.2.1 _ hl)) (fun _ h => h) rfl hdg kk
theorem bd_p_X7_bands (C : bd_Cx E p m c cc nL s args own) (hR : bd_Rep E xm ym om H) (hS : va_S (bd_A E) H0 H locs) (hl : Cond.fieldLink own i "BandDayModel" "bands" "I" ∈ wsL_law) (hdg : decode cc pc = .ok (.putfield i, 3)) {v : Int32} (kk : ∀ (H1 : Heap) (locs1 : List Loc), bd_Rep E xm (bd_up ym 2 0 0 v) om H1 → va_S (bd_A E) H0 H1 locs1 → W p l e R s m args below meth c H1 locs1 cells slots Q (F0 m (pc + 3) ls rest)) : W p l e R s m args below meth c H locs cells slots Q (F0 m pc ls (.int v :: .ref (bd_ea E 12 0 0) :: rest)) := by
  obtain ⟨q, hq⟩ := bd_pos (f := 12) (w := 0) (k := 0) ⟨by decide, by decide, by decide⟩
  exact va_put (D := bd_eD E) (ci := 7) (v := .int v) (ty := .int) (C := RX7) (T := TX7) (N := 10) C.1.1 C.1.2.1 C.1.2.2.2.2 inlX7 tyX7 tyX7_ok nmX7 C.1.2.2.2.1 C.2.1 hR.P hR.D hS q (bd_ws_at hq) rfl 3 (by decide) (C.1.2.2.2.2 _ hl) (fun _ h => h) rfl (by decide +kernel) rfl rfl (Nat.le_of_ble_eq_true rfl) hdg (fun H1 locs1 hP _ hS1 => kk H1 locs1 (bd_back hR hq (bd_upY (F := 2) (by simp [bd_ce, bd_up, bd_fam, bd_fmY]) (by decide)) hP) hS1)
theorem bd_g_X7_seats (C : bd_Cx E p m c cc nL s args own) (hR : bd_Rep E xm ym om H) (hl : Cond.fieldLink own i "BandDayModel" "seats" "[I" ∈ wsL_law) (hdg : decode cc pc = .ok (.getfield i, 3)) (kk : W p l e R s m args below meth c H locs cells slots Q (F0 m (pc + 3) ls (.ref (bd_ea E 14 0 0) :: rest))) : W p l e R s m args below meth c H locs cells slots Q (F0 m pc ls (.ref (bd_ea E 12 0 0) :: rest)) := by
  obtain ⟨q, hq⟩ := bd_pos (f := 12) (w := 0) (k := 0) ⟨by decide, by decide, by decide⟩
  exact va_get (D := bd_eD E) (ci := 7) (C := RX7) (T := TX7) (N := 10) C.1.1 C.1.2.1 C.1.2.2.2.2 inlX7 C.1.2.2.2.1 C.2.1 hR.P q (bd_ws_at hq) rfl 4 (by decide) (C.1.2.2.2.2 _ hl) (fun _ h => h) rfl hdg kk
theorem bd_gN_X7_seats (C : bd_Cx E p m c cc nL s args own) (hR : bd_Rep E xm ym om H) (hl : Cond.fieldLinkNest own i "BandDayModel" "seats" "[I" "BandDayModel" ∈ bd_N) (hdg : decode cc pc = .ok (.getfield i, 3)) (kk : W p l e R s m args below meth c H locs cells slots Q (F0 m (pc + 3) ls (.ref (bd_ea E 14 0 0) :: rest))) : W p l e R s m args below meth c H locs cells slots Q (F0 m pc ls (.ref (bd_ea E 12 0 0) :: rest)) := by
  obtain ⟨q, hq⟩ := bd_pos (f := 12) (w := 0) (k := 0) ⟨by decide, by decide, by decide⟩
  exact va_getN (D := bd_eD E) (ci := 7) (C := RX7) (T := TX7) (N := 10) C.1.1 C.1.2.1 C.1.2.2.2.2 inlX7 C.1.2.2.2.1 C.2.1 hR.P q (bd_ws_at hq) rfl 4 (by decide) (va_Nw.use rfl (C.2.2.1 _ hl)) (fun _ h => h) rfl hdg kk
theorem bd_g_X7_instrument (C : bd_Cx E p m c cc nL s args own) (hR : bd_Rep E xm ym om H) (hl : Cond.fieldLink own i "BandDayModel" "instrument" "[I" ∈ wsL_law) (hdg : decode cc pc = .ok (.getfield i, 3)) (kk : W p l e R s m args below meth c H locs cells slots Q (F0 m (pc + 3) ls (.ref (bd_ea E 15 0 0) :: rest))) : W p l e R s m args below meth c H locs cells slots Q (F0 m pc ls (.ref (bd_ea E 12 0 0) :: rest)) := by
  obtain ⟨q, hq⟩ := bd_pos (f := 12) (w := 0) (k := 0) ⟨by decide, by decide, by decide⟩
  exact va_get (D := bd_eD E) (ci := 7) (C := RX7) (T := TX7) (N := 10) C.1.1 C.1.2.1 C.1.2.2.2.2 inlX7 C.1.2.2.2.1 C.2.1 hR.P q (bd_ws_at hq) rfl 5 (by decide) (C.1.2.2.2.2 _ hl) (fun _ h => h) rfl hdg kk
theorem bd_gN_X7_instrument (C : bd_Cx E p m c cc nL s args own) (hR : bd_Rep E xm ym om H) (hl : Cond.fieldLinkNest own i "BandDayModel" "instrument" "[I" "BandDayModel" ∈ bd_N) (hdg : decode cc pc = .ok (.getfield i, 3)) (kk : W p l e R s m args below meth c H locs cells slots Q (F0 m (pc + 3) ls (.ref (bd_ea E 15 0 0) :: rest))) : W p l e R s m args below meth c H locs cells slots Q (F0 m pc ls (.ref (bd_ea E 12 0 0) :: rest)) := by
  obtain ⟨q, hq⟩ := bd_pos (f := 12) (w := 0) (k := 0) ⟨by decide, by decide, by decide⟩
  exact va_getN (D := bd_eD E) (ci := 7) (C := RX7) (T := TX7) (N := 10) C.1.1 C.1.2.1 C.1.2.2.2.2 inlX7 C.1.2.2.2.1 C.2.1 hR.P q (bd_ws_at hq) rfl 5 (by decide) (va_Nw.use rfl (C.2.2.1 _ hl)) (fun _ h => h) rfl hdg kk
theorem bd_g_X7_hard (C : bd_Cx E p m c cc nL s args own) (hR : bd_Rep E xm ym om H) (hl : Cond.fieldLink own i "BandDayModel" "hard" "[I" ∈ wsL_law) (hdg : decode cc pc = .ok (.getfield i, 3)) (kk : W p l e R s m args below meth c H locs cells slots Q (F0 m (pc + 3) ls (.ref (bd_ea E 16 0 0) :: rest))) : W p l e R s m args below meth c H locs cells slots Q (F0 m pc ls (.ref (bd_ea E 12 0 0) :: rest)) := by
  obtain ⟨q, hq⟩ := bd_pos (f := 12) (w := 0) (k := 0) ⟨by decide, by decide, by decide⟩
  exact va_get (D := bd_eD E) (ci := 7) (C := RX7) (T := TX7) (N := 10) C.1.1 C.1.2.1 C.1.2.2.2.2 inlX7 C.1.2.2.2.1 C.2.1 hR.P q (bd_ws_at hq) rfl 6 (by decide) (C.1.2.2.2.2 _ hl) (fun _ h => h) rfl hdg kk
theorem bd_gN_X7_hard (C : bd_Cx E p m c cc nL s args own) (hR : bd_Rep E xm ym om H) (hl : Cond.fieldLinkNest own i "BandDayModel" "hard" "[I" "BandDayModel" ∈ bd_N) (hdg : decode cc pc = .ok (.getfield i, 3)) (kk : W p l e R s m args below meth c H locs cells slots Q (F0 m (pc + 3) ls (.ref (bd_ea E 16 0 0) :: rest))) : W p l e R s m args below meth c H locs cells slots Q (F0 m pc ls (.ref (bd_ea E 12 0 0) :: rest)) := by
  obtain ⟨q, hq⟩ := bd_pos (f := 12) (w := 0) (k := 0) ⟨by decide, by decide, by decide⟩
  exact va_getN (D := bd_eD E) (ci := 7) (C := RX7) (T := TX7) (N := 10) C.1.1 C.1.2.1 C.1.2.2.2.2 inlX7 C.1.2.2.2.1 C.2.1 hR.P q (bd_ws_at hq) rfl 6 (by decide) (va_Nw.use rfl (C.2.2.1 _ hl)) (fun _ h => h) rfl hdg kk
theorem bd_g_X7_weight (C : bd_Cx E p m c cc nL s args own) (hR : bd_Rep E xm ym om H) (hl : Cond.fieldLink own i "BandDayModel" "weight" "[I" ∈ wsL_law) (hdg : decode cc pc = .ok (.getfield i, 3)) (kk : W p l e R s m args below meth c H locs cells slots Q (F0 m (pc + 3) ls (.ref (bd_ea E 17 0 0) :: rest))) : W p l e R s m args below meth c H locs cells slots Q (F0 m pc ls (.ref (bd_ea E 12 0 0) :: rest)) := by
  obtain ⟨q, hq⟩ := bd_pos (f := 12) (w := 0) (k := 0) ⟨by decide, by decide, by decide⟩
  exact va_get (D := bd_eD E) (ci := 7) (C := RX7) (T := TX7) (N := 10) C.1.1 C.1.2.1 C.1.2.2.2.2 inlX7 C.1.2.2.2.1 C.2.1 hR.P q (bd_ws_at hq) rfl 7 (by decide) (C.1.2.2.2.2 _ hl) (fun _ h => h) rfl hdg kk
theorem bd_gN_X7_weight (C : bd_Cx E p m c cc nL s args own) (hR : bd_Rep E xm ym om H) (hl : Cond.fieldLinkNest own i "BandDayModel" "weight" "[I" "BandDayModel" ∈ bd_N) (hdg : decode cc pc = .ok (.getfield i, 3)) (kk : W p l e R s m args below meth c H locs cells slots Q (F0 m (pc + 3) ls (.ref (bd_ea E 17 0 0) :: rest))) : W p l e R s m args below meth c H locs cells slots Q (F0 m pc ls (.ref (bd_ea E 12 0 0) :: rest)) := by
  obtain ⟨q, hq⟩ := bd_pos (f := 12) (w := 0) (k := 0) ⟨by decide, by decide, by decide⟩
  exact va_getN (D := bd_eD E) (ci := 7) (C := RX7) (T := TX7) (N := 10) C.1.1 C.1.2.1 C.1.2.2.2.2 inlX7 C.1.2.2.2.1 C.2.1 hR.P q (bd_ws_at hq) rfl 7 (by decide) (va_Nw.use rfl (C.2.2.1 _ hl)) (fun _ h => h) rfl hdg kk
theorem bd_g_X7_s (C : bd_Cx E p m c cc nL s args own) (hR : bd_Rep E xm ym om H) (hl : Cond.fieldLink own i "BandDayModel" "s" "LBandDayModel$State;" ∈ wsL_law) (hdg : decode cc pc = .ok (.getfield i, 3)) (kk : W p l e R s m args below meth c H locs cells slots Q (F0 m (pc + 3) ls (.ref (bd_ea E 18 0 0) :: rest))) : W p l e R s m args below meth c H locs cells slots Q (F0 m pc ls (.ref (bd_ea E 12 0 0) :: rest)) := by
  obtain ⟨q, hq⟩ := bd_pos (f := 12) (w := 0) (k := 0) ⟨by decide, by decide, by decide⟩
  exact va_get (D := bd_eD E) (ci := 7) (C := RX7) (T := TX7) (N := 10) C.1.1 C.1.2.1 C.1.2.2.2.2 inlX7 C.1.2.2.2.1 C.2.1 hR.P q (bd_ws_at hq) rfl 8 (by decide) (C.1.2.2.2.2 _ hl) (fun _ h => h) rfl hdg kk
theorem bd_g_X7_ahead (C : bd_Cx E p m c cc nL s args own) (hR : bd_Rep E xm ym om H) (hl : Cond.fieldLink own i "BandDayModel" "ahead" "LBandDayModel$State;" ∈ wsL_law) (hdg : decode cc pc = .ok (.getfield i, 3)) (kk : W p l e R s m args below meth c H locs cells slots Q (F0 m (pc + 3) ls (.ref (bd_ea E 18 1 0) :: rest))) : W p l e R s m args below meth c H locs cells slots Q (F0 m pc ls (.ref (bd_ea E 12 0 0) :: rest)) := by
  obtain ⟨q, hq⟩ := bd_pos (f := 12) (w := 0) (k := 0) ⟨by decide, by decide, by decide⟩
  exact va_get (D := bd_eD E) (ci := 7) (C := RX7) (T := TX7) (N := 10) C.1.1 C.1.2.1 C.1.2.2.2.2 inlX7 C.1.2.2.2.1 C.2.1 hR.P q (bd_ws_at hq) rfl 9 (by decide) (C.1.2.2.2.2 _ hl) (fun _ h => h) rfl hdg kk
theorem bd_ld_5 (C : bd_Cx E p m c cc nL s args own) (hR : bd_Rep E xm ym om H) (hw : w < 2) {j : Nat} (hj : j < 4) (hdg : decode cc pc = .ok (.iaload, 1)) (kk : W p l e R s m args below meth c H locs cells slots Q (F0 m (pc + 1) ls (.int (xm 35 w j) :: rest))) : W p l e R s m args below meth c H locs cells slots Q (F0 m pc ls (.int (nI j) :: .ref (bd_ea E 5 w 0) :: rest)) := by
  obtain ⟨q, hq⟩ := bd_pos (f := 5) (w := w) (k := 0) ⟨by decide, hw, by decide⟩
  refine va_iald (D := bd_eD E) C.1.1 C.1.2.1 C.2.1 hR.P q 0 (bd_ws_at hq) rfl (vp_in_nI hj (by decide)) hdg ?_
  rw [nI_clamp (Nat.lt_trans hj (by decide))]
  exact kk
theorem bd_st_5 (C : bd_Cx E p m c cc nL s args own) (hR : bd_Rep E xm ym om H) (hS : va_S (bd_A E) H0 H locs) (hw : w < 2) {j : Nat} (hj : j < 4) (hdg : decode cc pc = .ok (.iastore, 1)) {v : Int32} (kk : ∀ (H1 : Heap) (locs1 : List Loc), bd_Rep E (bd_up xm 35 w j v) ym om H1 → va_S (bd_A E) H0 H1 locs1 → W p l e R s m args below meth c H1 locs1 cells slots Q (F0 m (pc + 1) ls rest)) : W p l e R s m args below meth c H locs cells slots Q (F0 m pc ls (.int v :: .int (nI j) :: .ref (bd_ea E 5 w 0) :: rest)) := by
  obtain ⟨q, hq⟩ := bd_pos (f := 5) (w := w) (k := 0) ⟨by decide, hw, by decide⟩
  refine va_iast (D := bd_eD E) C.1.1 C.1.2.1 C.2.1 hR.P hR.D hS q 0 (bd_ws_at hq) rfl (vp_in_nI hj (by decide)) hdg (fun H1 locs1 hP _ hS1 => kk H1 locs1 (bd_back hR hq ?_ hP) hS1)
  rw [nI_clamp (Nat.lt_trans hj (by decide))]
  exact bd_upX (F := 35) (kc := 0) (by simp only [bd_ce, bd_fam]; simp [bd_ce]; funext z; simp [bd_up, upd]) (fun h => absurd h (by decide)) (fun _ => ⟨rfl, rfl⟩)
theorem bd_al_5 (C : bd_Cx E p m c cc nL s args own) (hR : bd_Rep E xm ym om H) (hw : w < 2) (hdg : decode cc pc = .ok (.arraylength, 1)) (kk : W p l e R s m args below meth c H locs cells slots Q (F0 m (pc + 1) ls (.int 4 :: rest))) : W p l e R s m args below meth c H locs cells slots Q (F0 m pc ls (.ref (bd_ea E 5 w 0) :: rest)) := by
  obtain ⟨q, hq⟩ := bd_pos (f := 5) (w := w) (k := 0) ⟨by decide, hw, by decide⟩
  exact va_alen (D := bd_eD E) C.1.1 C.1.2.1 C.2.1 hR.P q 0 (bd_ws_at hq) rfl rfl hdg kk
theorem bd_ld_6 (C : bd_Cx E p m c cc nL s args own) (hR : bd_Rep E xm ym om H) (hw : w < 2) {j : Nat} (hj : j < 4) (hdg : decode cc pc = .ok (.iaload, 1)) (kk : W p l e R s m args below meth c H locs cells slots Q (F0 m (pc + 1) ls (.int (xm 36 w j) :: rest))) : W p l e R s m args below meth c H locs cells slots Q (F0 m pc ls (.int (nI j) :: .ref (bd_ea E 6 w 0) :: rest)) := by
  obtain ⟨q, hq⟩ := bd_pos (f := 6) (w := w) (k := 0) ⟨by decide, hw, by decide⟩
  refine va_iald (D := bd_eD E) C.1.1 C.1.2.1 C.2.1 hR.P q 0 (bd_ws_at hq) rfl (vp_in_nI hj (by decide)) hdg ?_
  rw [nI_clamp (Nat.lt_trans hj (by decide))]
  exact kk
theorem bd_st_6 (C : bd_Cx E p m c cc nL s args own) (hR : bd_Rep E xm ym om H) (hS : va_S (bd_A E) H0 H locs) (hw : w < 2) {j : Nat} (hj : j < 4) (hdg : decode cc pc = .ok (.iastore, 1)) {v : Int32} (kk : ∀ (H1 : Heap) (locs1 : List Loc), bd_Rep E (bd_up xm 36 w j v) ym om H1 → va_S (bd_A E) H0 H1 locs1 → W p l e R s m args below meth c H1 locs1 cells slots Q (F0 m (pc + 1) ls rest)) : W p l e R s m args below meth c H locs cells slots Q (F0 m pc ls (.int v :: .int (nI j) :: .ref (bd_ea E 6 w 0) :: rest)) := by
  obtain ⟨q, hq⟩ := bd_pos (f := 6) (w := w) (k := 0) ⟨by decide, hw, by decide⟩
  refine va_iast (D := bd_eD E) C.1.1 C.1.2.1 C.2.1 hR.P hR.D hS q 0 (bd_ws_at hq) rfl (vp_in_nI hj (by decide)) hdg (fun H1 locs1 hP _ hS1 => kk H1 locs1 (bd_back hR hq ?_ hP) hS1)
  rw [nI_clamp (Nat.lt_trans hj (by decide))]
  exact bd_upX (F := 36) (kc := 0) (by simp only [bd_ce, bd_fam]; simp [bd_ce]; funext z; simp [bd_up, upd]) (fun h => absurd h (by decide)) (fun _ => ⟨rfl, rfl⟩)
theorem bd_al_6 (C : bd_Cx E p m c cc nL s args own) (hR : bd_Rep E xm ym om H) (hw : w < 2) (hdg : decode cc pc = .ok (.arraylength, 1)) (kk : W p l e R s m args below meth c H locs cells slots Q (F0 m (pc + 1) ls (.int 4 :: rest))) : W p l e R s m args below meth c H locs cells slots Q (F0 m pc ls (.ref (bd_ea E 6 w 0) :: rest)) := by
  obtain ⟨q, hq⟩ := bd_pos (f := 6) (w := w) (k := 0) ⟨by decide, hw, by decide⟩
  exact va_alen (D := bd_eD E) C.1.1 C.1.2.1 C.2.1 hR.P q 0 (bd_ws_at hq) rfl rfl hdg kk
theorem bd_ld_8 (C : bd_Cx E p m c cc nL s args own) (hR : bd_Rep E xm ym om H) (hw : w < 2) (hk : k < 24) {j : Nat} (hj : j < 4) (hdg : decode cc pc = .ok (.iaload, 1)) (kk : W p l e R s m args below meth c H locs cells slots Q (F0 m (pc + 1) ls (.int (xm (j + 1000) w k) :: rest))) : W p l e R s m args below meth c H locs cells slots Q (F0 m pc ls (.int (nI j) :: .ref (bd_ea E 8 w k) :: rest)) := by
  obtain ⟨q, hq⟩ := bd_pos (f := 8) (w := w) (k := k) ⟨by decide, hw, hk⟩
  refine va_iald (D := bd_eD E) C.1.1 C.1.2.1 C.2.1 hR.P q 0 (bd_ws_at hq) rfl (vp_in_nI hj (by decide)) hdg ?_
  rw [nI_clamp (Nat.lt_trans hj (by decide))]
  exact kk
theorem bd_st_8 (C : bd_Cx E p m c cc nL s args own) (hR : bd_Rep E xm ym om H) (hS : va_S (bd_A E) H0 H locs) (hw : w < 2) (hk : k < 24) {j : Nat} (hj : j < 4) (hdg : decode cc pc = .ok (.iastore, 1)) {v : Int32} (kk : ∀ (H1 : Heap) (locs1 : List Loc), bd_Rep E (bd_up xm (j + 1000) w k v) ym om H1 → va_S (bd_A E) H0 H1 locs1 → W p l e R s m args below meth c H1 locs1 cells slots Q (F0 m (pc + 1) ls rest)) : W p l e R s m args below meth c H locs cells slots Q (F0 m pc ls (.int v :: .int (nI j) :: .ref (bd_ea E 8 w k) :: rest)) := by
  obtain ⟨q, hq⟩ := bd_pos (f := 8) (w := w) (k := k) ⟨by decide, hw, hk⟩
  refine va_iast (D := bd_eD E) C.1.1 C.1.2.1 C.2.1 hR.P hR.D hS q 0 (bd_ws_at hq) rfl (vp_in_nI hj (by decide)) hdg (fun H1 locs1 hP _ hS1 => kk H1 locs1 (bd_back hR hq ?_ hP) hS1)
  rw [nI_clamp (Nat.lt_trans hj (by decide))]
  have hf : bd_fam (j + 1000) = 8 := by simp only [bd_fam]; repeat (first | rw [if_neg (by omega)] | rfl)
  have e9 : (fun z => bd_up xm (j + 1000) w k v (z + 1000) w k) = upd (fun z => xm (z + 1000) w k) j v := funext fun z => by
    by_cases hz : z = j
    · subst hz
      simp [bd_up, upd]
    · rw [upd, if_neg hz, bd_up_n (by omega)]
  have h9 := bd_upX (E := E) (xm := xm) (ym := ym) (om := om) (F := j + 1000) (w := w) (kk := k) (kc := k) (v := v) (e := bd_iA E 4 (upd (fun z => xm (z + 1000) w k) j v)) (by
    rw [hf]
    simp only [bd_ce]
    rw [e9]) (fun _ => rfl) (fun h => absurd h (by rw [hf]; decide))
  rw [hf] at h9
  exact h9
theorem bd_al_8 (C : bd_Cx E p m c cc nL s args own) (hR : bd_Rep E xm ym om H) (hw : w < 2) (hk : k < 24) (hdg : decode cc pc = .ok (.arraylength, 1)) (kk : W p l e R s m args below meth c H locs cells slots Q (F0 m (pc + 1) ls (.int 4 :: rest))) : W p l e R s m args below meth c H locs cells slots Q (F0 m pc ls (.ref (bd_ea E 8 w k) :: rest)) := by
  obtain ⟨q, hq⟩ := bd_pos (f := 8) (w := w) (k := k) ⟨by decide, hw, hk⟩
  exact va_alen (D := bd_eD E) C.1.1 C.1.2.1 C.2.1 hR.P q 0 (bd_ws_at hq) rfl rfl hdg kk
theorem bd_ld_13 (C : bd_Cx E p m c cc nL s args own) (hR : bd_Rep E xm ym om H) {j : Nat} (hj : j < 96) (hdg : decode cc pc = .ok (.iaload, 1)) (kk : W p l e R s m args below meth c H locs cells slots Q (F0 m (pc + 1) ls (.int (ym 13 0 j) :: rest))) : W p l e R s m args below meth c H locs cells slots Q (F0 m pc ls (.int (nI j) :: .ref (bd_ea E 13 0 0) :: rest)) := by
  obtain ⟨q, hq⟩ := bd_pos (f := 13) (w := 0) (k := 0) ⟨by decide, by decide, by decide⟩
  refine va_iald (D := bd_eD E) C.1.1 C.1.2.1 C.2.1 hR.P q 0 (bd_ws_at hq) rfl (vp_in_nI hj (by decide)) hdg ?_
  rw [nI_clamp (Nat.lt_trans hj (by decide))]
  exact kk
theorem bd_st_13 (C : bd_Cx E p m c cc nL s args own) (hR : bd_Rep E xm ym om H) (hS : va_S (bd_A E) H0 H locs) {j : Nat} (hj : j < 96) (hdg : decode cc pc = .ok (.iastore, 1)) {v : Int32} (kk : ∀ (H1 : Heap) (locs1 : List Loc), bd_Rep E xm (bd_up ym 13 0 j v) om H1 → va_S (bd_A E) H0 H1 locs1 → W p l e R s m args below meth c H1 locs1 cells slots Q (F0 m (pc + 1) ls rest)) : W p l e R s m args below meth c H locs cells slots Q (F0 m pc ls (.int v :: .int (nI j) :: .ref (bd_ea E 13 0 0) :: rest)) := by
  obtain ⟨q, hq⟩ := bd_pos (f := 13) (w := 0) (k := 0) ⟨by decide, by decide, by decide⟩
  refine va_iast (D := bd_eD E) C.1.1 C.1.2.1 C.2.1 hR.P hR.D hS q 0 (bd_ws_at hq) rfl (vp_in_nI hj (by decide)) hdg (fun H1 locs1 hP _ hS1 => kk H1 locs1 (bd_back hR hq ?_ hP) hS1)
  rw [nI_clamp (Nat.lt_trans hj (by decide))]
  exact bd_upY (F := 13) (by simp only [bd_ce, bd_fmY]; simp [bd_ce]; funext z; simp [bd_up, upd]) rfl
theorem bd_al_13 (C : bd_Cx E p m c cc nL s args own) (hR : bd_Rep E xm ym om H) (hdg : decode cc pc = .ok (.arraylength, 1)) (kk : W p l e R s m args below meth c H locs cells slots Q (F0 m (pc + 1) ls (.int 96 :: rest))) : W p l e R s m args below meth c H locs cells slots Q (F0 m pc ls (.ref (bd_ea E 13 0 0) :: rest)) := by
  obtain ⟨q, hq⟩ := bd_pos (f := 13) (w := 0) (k := 0) ⟨by decide, by decide, by decide⟩
  exact va_alen (D := bd_eD E) C.1.1 C.1.2.1 C.2.1 hR.P q 0 (bd_ws_at hq) rfl rfl hdg kk
theorem bd_ld_14 (C : bd_Cx E p m c cc nL s args own) (hR : bd_Rep E xm ym om H) {j : Nat} (hj : j < 6) (hdg : decode cc pc = .ok (.iaload, 1)) (kk : W p l e R s m args below meth c H locs cells slots Q (F0 m (pc + 1) ls (.int (ym 14 0 j) :: rest))) : W p l e R s m args below meth c H locs cells slots Q (F0 m pc ls (.int (nI j) :: .ref (bd_ea E 14 0 0) :: rest)) := by
  obtain ⟨q, hq⟩ := bd_pos (f := 14) (w := 0) (k := 0) ⟨by decide, by decide, by decide⟩
  refine va_iald (D := bd_eD E) C.1.1 C.1.2.1 C.2.1 hR.P q 0 (bd_ws_at hq) rfl (vp_in_nI hj (by decide)) hdg ?_
  rw [nI_clamp (Nat.lt_trans hj (by decide))]
  exact kk
theorem bd_st_14 (C : bd_Cx E p m c cc nL s args own) (hR : bd_Rep E xm ym om H) (hS : va_S (bd_A E) H0 H locs) {j : Nat} (hj : j < 6) (hdg : decode cc pc = .ok (.iastore, 1)) {v : Int32} (kk : ∀ (H1 : Heap) (locs1 : List Loc), bd_Rep E xm (bd_up ym 14 0 j v) om H1 → va_S (bd_A E) H0 H1 locs1 → W p l e R s m args below meth c H1 locs1 cells slots Q (F0 m (pc + 1) ls rest)) : W p l e R s m args below meth c H locs cells slots Q (F0 m pc ls (.int v :: .int (nI j) :: .ref (bd_ea E 14 0 0) :: rest)) := by
  obtain ⟨q, hq⟩ := bd_pos (f := 14) (w := 0) (k := 0) ⟨by decide, by decide, by decide⟩
  refine va_iast (D := bd_eD E) C.1.1 C.1.2.1 C.2.1 hR.P hR.D hS q 0 (bd_ws_at hq) rfl (vp_in_nI hj (by decide)) hdg (fun H1 locs1 hP _ hS1 => kk H1 locs1 (bd_back hR hq ?_ hP) hS1)
  rw [nI_clamp (Nat.lt_trans hj (by decide))]
  exact bd_upY (F := 14) (by simp only [bd_ce, bd_fmY]; simp [bd_ce]; funext z; simp [bd_up, upd]) rfl
theorem bd_al_14 (C : bd_Cx E p m c cc nL s args own) (hR : bd_Rep E xm ym om H) (hdg : decode cc pc = .ok (.arraylength, 1)) (kk : W p l e R s m args below meth c H locs cells slots Q (F0 m (pc + 1) ls (.int 6 :: rest))) : W p l e R s m args below meth c H locs cells slots Q (F0 m pc ls (.ref (bd_ea E 14 0 0) :: rest)) := by
  obtain ⟨q, hq⟩ := bd_pos (f := 14) (w := 0) (k := 0) ⟨by decide, by decide, by decide⟩
  exact va_alen (D := bd_eD E) C.1.1 C.1.2.1 C.2.1 hR.P q 0 (bd_ws_at hq) rfl rfl hdg kk
theorem bd_ld_15 (C : bd_Cx E p m c cc nL s args own) (hR : bd_Rep E xm ym om H) {j : Nat} (hj : j < 48) (hdg : decode cc pc = .ok (.iaload, 1)) (kk : W p l e R s m args below meth c H locs cells slots Q (F0 m (pc + 1) ls (.int (ym 15 0 j) :: rest))) : W p l e R s m args below meth c H locs cells slots Q (F0 m pc ls (.int (nI j) :: .ref (bd_ea E 15 0 0) :: rest)) := by
  obtain ⟨q, hq⟩ := bd_pos (f := 15) (w := 0) (k := 0) ⟨by decide, by decide, by decide⟩
  refine va_iald (D := bd_eD E) C.1.1 C.1.2.1 C.2.1 hR.P q 0 (bd_ws_at hq) rfl (vp_in_nI hj (by decide)) hdg ?_
  rw [nI_clamp (Nat.lt_trans hj (by decide))]
  exact kk
theorem bd_st_15 (C : bd_Cx E p m c cc nL s args own) (hR : bd_Rep E xm ym om H) (hS : va_S (bd_A E) H0 H locs) {j : Nat} (hj : j < 48) (hdg : decode cc pc = .ok (.iastore, 1)) {v : Int32} (kk : ∀ (H1 : Heap) (locs1 : List Loc), bd_Rep E xm (bd_up ym 15 0 j v) om H1 → va_S (bd_A E) H0 H1 locs1 → W p l e R s m args below meth c H1 locs1 cells slots Q (F0 m (pc + 1) ls rest)) : W p l e R s m args below meth c H locs cells slots Q (F0 m pc ls (.int v :: .int (nI j) :: .ref (bd_ea E 15 0 0) :: rest)) := by
  obtain ⟨q, hq⟩ := bd_pos (f := 15) (w := 0) (k := 0) ⟨by decide, by decide, by decide⟩
  refine va_iast (D := bd_eD E) C.1.1 C.1.2.1 C.2.1 hR.P hR.D hS q 0 (bd_ws_at hq) rfl (vp_in_nI hj (by decide)) hdg (fun H1 locs1 hP _ hS1 => kk H1 locs1 (bd_back hR hq ?_ hP) hS1)
  rw [nI_clamp (Nat.lt_trans hj (by decide))]
  exact bd_upY (F := 15) (by simp only [bd_ce, bd_fmY]; simp [bd_ce]; funext z; simp [bd_up, upd]) rfl
theorem bd_al_15 (C : bd_Cx E p m c cc nL s args own) (hR : bd_Rep E xm ym om H) (hdg : decode cc pc = .ok (.arraylength, 1)) (kk : W p l e R s m args below meth c H locs cells slots Q (F0 m (pc + 1) ls (.int 48 :: rest))) : W p l e R s m args below meth c H locs cells slots Q (F0 m pc ls (.ref (bd_ea E 15 0 0) :: rest)) := by
  obtain ⟨q, hq⟩ := bd_pos (f := 15) (w := 0) (k := 0) ⟨by decide, by decide, by decide⟩
  exact va_alen (D := bd_eD E) C.1.1 C.1.2.1 C.2.1 hR.P q 0 (bd_ws_at hq) rfl rfl hdg kk
theorem bd_ld_16 (C : bd_Cx E p m c cc nL s args own) (hR : bd_Rep E xm ym om H) {j : Nat} (hj : j < 4) (hdg : decode cc pc = .ok (.iaload, 1)) (kk : W p l e R s m args below meth c H locs cells slots Q (F0 m (pc + 1) ls (.int (ym 16 0 j) :: rest))) : W p l e R s m args below meth c H locs cells slots Q (F0 m pc ls (.int (nI j) :: .ref (bd_ea E 16 0 0) :: rest)) := by
  obtain ⟨q, hq⟩ := bd_pos (f := 16) (w := 0) (k := 0) ⟨by decide, by decide, by decide⟩
  refine va_iald (D := bd_eD E) C.1.1 C.1.2.1 C.2.1 hR.P q 0 (bd_ws_at hq) rfl (vp_in_nI hj (by decide)) hdg ?_
  rw [nI_clamp (Nat.lt_trans hj (by decide))]
  exact kk
theorem bd_st_16 (C : bd_Cx E p m c cc nL s args own) (hR : bd_Rep E xm ym om H) (hS : va_S (bd_A E) H0 H locs) {j : Nat} (hj : j < 4) (hdg : decode cc pc = .ok (.iastore, 1)) {v : Int32} (kk : ∀ (H1 : Heap) (locs1 : List Loc), bd_Rep E xm (bd_up ym 16 0 j v) om H1 → va_S (bd_A E) H0 H1 locs1 → W p l e R s m args below meth c H1 locs1 cells slots Q (F0 m (pc + 1) ls rest)) : W p l e R s m args below meth c H locs cells slots Q (F0 m pc ls (.int v :: .int (nI j) :: .ref (bd_ea E 16 0 0) :: rest)) := by
  obtain ⟨q, hq⟩ := bd_pos (f := 16) (w := 0) (k := 0) ⟨by decide, by decide, by decide⟩
  refine va_iast (D := bd_eD E) C.1.1 C.1.2.1 C.2.1 hR.P hR.D hS q 0 (bd_ws_at hq) rfl (vp_in_nI hj (by decide)) hdg (fun H1 locs1 hP _ hS1 => kk H1 locs1 (bd_back hR hq ?_ hP) hS1)
  rw [nI_clamp (Nat.lt_trans hj (by decide))]
  exact bd_upY (F := 16) (by simp only [bd_ce, bd_fmY]; simp [bd_ce]; funext z; simp [bd_up, upd]) rfl
theorem bd_al_16 (C : bd_Cx E p m c cc nL s args own) (hR : bd_Rep E xm ym om H) (hdg : decode cc pc = .ok (.arraylength, 1)) (kk : W p l e R s m args below meth c H locs cells slots Q (F0 m (pc + 1) ls (.int 4 :: rest))) : W p l e R s m args below meth c H locs cells slots Q (F0 m pc ls (.ref (bd_ea E 16 0 0) :: rest)) := by
  obtain ⟨q, hq⟩ := bd_pos (f := 16) (w := 0) (k := 0) ⟨by decide, by decide, by decide⟩
  exact va_alen (D := bd_eD E) C.1.1 C.1.2.1 C.2.1 hR.P q 0 (bd_ws_at hq) rfl rfl hdg kk
theorem bd_ld_17 (C : bd_Cx E p m c cc nL s args own) (hR : bd_Rep E xm ym om H) {j : Nat} (hj : j < 4) (hdg : decode cc pc = .ok (.iaload, 1)) (kk : W p l e R s m args below meth c H locs cells slots Q (F0 m (pc + 1) ls (.int (ym 17 0 j) :: rest))) : W p l e R s m args below meth c H locs cells slots Q (F0 m pc ls (.int (nI j) :: .ref (bd_ea E 17 0 0) :: rest)) := by
  obtain ⟨q, hq⟩ := bd_pos (f := 17) (w := 0) (k := 0) ⟨by decide, by decide, by decide⟩
  refine va_iald (D := bd_eD E) C.1.1 C.1.2.1 C.2.1 hR.P q 0 (bd_ws_at hq) rfl (vp_in_nI hj (by decide)) hdg ?_
  rw [nI_clamp (Nat.lt_trans hj (by decide))]
  exact kk
theorem bd_st_17 (C : bd_Cx E p m c cc nL s args own) (hR : bd_Rep E xm ym om H) (hS : va_S (bd_A E) H0 H locs) {j : Nat} (hj : j < 4) (hdg : decode cc pc = .ok (.iastore, 1)) {v : Int32} (kk : ∀ (H1 : Heap) (locs1 : List Loc), bd_Rep E xm (bd_up ym 17 0 j v) om H1 → va_S (bd_A E) H0 H1 locs1 → W p l e R s m args below meth c H1 locs1 cells slots Q (F0 m (pc + 1) ls rest)) : W p l e R s m args below meth c H locs cells slots Q (F0 m pc ls (.int v :: .int (nI j) :: .ref (bd_ea E 17 0 0) :: rest)) := by
  obtain ⟨q, hq⟩ := bd_pos (f := 17) (w := 0) (k := 0) ⟨by decide, by decide, by decide⟩
  refine va_iast (D := bd_eD E) C.1.1 C.1.2.1 C.2.1 hR.P hR.D hS q 0 (bd_ws_at hq) rfl (vp_in_nI hj (by decide)) hdg (fun H1 locs1 hP _ hS1 => kk H1 locs1 (bd_back hR hq ?_ hP) hS1)
  rw [nI_clamp (Nat.lt_trans hj (by decide))]
  exact bd_upY (F := 17) (by simp only [bd_ce, bd_fmY]; simp [bd_ce]; funext z; simp [bd_up, upd]) rfl
theorem bd_al_17 (C : bd_Cx E p m c cc nL s args own) (hR : bd_Rep E xm ym om H) (hdg : decode cc pc = .ok (.arraylength, 1)) (kk : W p l e R s m args below meth c H locs cells slots Q (F0 m (pc + 1) ls (.int 4 :: rest))) : W p l e R s m args below meth c H locs cells slots Q (F0 m pc ls (.ref (bd_ea E 17 0 0) :: rest)) := by
  obtain ⟨q, hq⟩ := bd_pos (f := 17) (w := 0) (k := 0) ⟨by decide, by decide, by decide⟩
  exact va_alen (D := bd_eD E) C.1.1 C.1.2.1 C.2.1 hR.P q 0 (bd_ws_at hq) rfl rfl hdg kk
theorem bd_ld_19 (C : bd_Cx E p m c cc nL s args own) (hR : bd_Rep E xm ym om H) (hw : w < 2) {j : Nat} (hj : j < 24) (hdg : decode cc pc = .ok (.iaload, 1)) (kk : W p l e R s m args below meth c H locs cells slots Q (F0 m (pc + 1) ls (.int (ym 19 w j) :: rest))) : W p l e R s m args below meth c H locs cells slots Q (F0 m pc ls (.int (nI j) :: .ref (bd_ea E 19 w 0) :: rest)) := by
  obtain ⟨q, hq⟩ := bd_pos (f := 19) (w := w) (k := 0) ⟨by decide, hw, by decide⟩
  refine va_iald (D := bd_eD E) C.1.1 C.1.2.1 C.2.1 hR.P q 0 (bd_ws_at hq) rfl (vp_in_nI hj (by decide)) hdg ?_
  rw [nI_clamp (Nat.lt_trans hj (by decide))]
  exact kk
theorem bd_st_19 (C : bd_Cx E p m c cc nL s args own) (hR : bd_Rep E xm ym om H) (hS : va_S (bd_A E) H0 H locs) (hw : w < 2) {j : Nat} (hj : j < 24) (hdg : decode cc pc = .ok (.iastore, 1)) {v : Int32} (kk : ∀ (H1 : Heap) (locs1 : List Loc), bd_Rep E xm (bd_up ym 19 w j v) om H1 → va_S (bd_A E) H0 H1 locs1 → W p l e R s m args below meth c H1 locs1 cells slots Q (F0 m (pc + 1) ls rest)) : W p l e R s m args below meth c H locs cells slots Q (F0 m pc ls (.int v :: .int (nI j) :: .ref (bd_ea E 19 w 0) :: rest)) := by
  obtain ⟨q, hq⟩ := bd_pos (f := 19) (w := w) (k := 0) ⟨by decide, hw, by decide⟩
  refine va_iast (D := bd_eD E) C.1.1 C.1.2.1 C.2.1 hR.P hR.D hS q 0 (bd_ws_at hq) rfl (vp_in_nI hj (by decide)) hdg (fun H1 locs1 hP _ hS1 => kk H1 locs1 (bd_back hR hq ?_ hP) hS1)
  rw [nI_clamp (Nat.lt_trans hj (by decide))]
  exact bd_upY (F := 19) (by simp only [bd_ce, bd_fmY]; simp [bd_ce]; funext z; simp [bd_up, upd]) rfl
theorem bd_al_19 (C : bd_Cx E p m c cc nL s args own) (hR : bd_Rep E xm ym om H) (hw : w < 2) (hdg : decode cc pc = .ok (.arraylength, 1)) (kk : W p l e R s m args below meth c H locs cells slots Q (F0 m (pc + 1) ls (.int 24 :: rest))) : W p l e R s m args below meth c H locs cells slots Q (F0 m pc ls (.ref (bd_ea E 19 w 0) :: rest)) := by
  obtain ⟨q, hq⟩ := bd_pos (f := 19) (w := w) (k := 0) ⟨by decide, hw, by decide⟩
  exact va_alen (D := bd_eD E) C.1.1 C.1.2.1 C.2.1 hR.P q 0 (bd_ws_at hq) rfl rfl hdg kk
theorem bd_ld_20 (C : bd_Cx E p m c cc nL s args own) (hR : bd_Rep E xm ym om H) (hw : w < 2) {j : Nat} (hj : j < 24) (hdg : decode cc pc = .ok (.iaload, 1)) (kk : W p l e R s m args below meth c H locs cells slots Q (F0 m (pc + 1) ls (.int (ym 20 w j) :: rest))) : W p l e R s m args below meth c H locs cells slots Q (F0 m pc ls (.int (nI j) :: .ref (bd_ea E 20 w 0) :: rest)) := by
  obtain ⟨q, hq⟩ := bd_pos (f := 20) (w := w) (k := 0) ⟨by decide, hw, by decide⟩
  refine va_iald (D := bd_eD E) C.1.1 C.1.2.1 C.2.1 hR.P q 0 (bd_ws_at hq) rfl (vp_in_nI hj (by decide)) hdg ?_
  rw [nI_clamp (Nat.lt_trans hj (by decide))]
  exact kk
theorem bd_st_20 (C : bd_Cx E p m c cc nL s args own) (hR : bd_Rep E xm ym om H) (hS : va_S (bd_A E) H0 H locs) (hw : w < 2) {j : Nat} (hj : j < 24) (hdg : decode cc pc = .ok (.iastore, 1)) {v : Int32} (kk : ∀ (H1 : Heap) (locs1 : List Loc), bd_Rep E xm (bd_up ym 20 w j v) om H1 → va_S (bd_A E) H0 H1 locs1 → W p l e R s m args below meth c H1 locs1 cells slots Q (F0 m (pc + 1) ls rest)) : W p l e R s m args below meth c H locs cells slots Q (F0 m pc ls (.int v :: .int (nI j) :: .ref (bd_ea E 20 w 0) :: rest)) := by
  obtain ⟨q, hq⟩ := bd_pos (f := 20) (w := w) (k := 0) ⟨by decide, hw, by decide⟩
  refine va_iast (D := bd_eD E) C.1.1 C.1.2.1 C.2.1 hR.P hR.D hS q 0 (bd_ws_at hq) rfl (vp_in_nI hj (by decide)) hdg (fun H1 locs1 hP _ hS1 => kk H1 locs1 (bd_back hR hq ?_ hP) hS1)
  rw [nI_clamp (Nat.lt_trans hj (by decide))]
  exact bd_upY (F := 20) (by simp only [bd_ce, bd_fmY]; simp [bd_ce]; funext z; simp [bd_up, upd]) rfl
theorem bd_al_20 (C : bd_Cx E p m c cc nL s args own) (hR : bd_Rep E xm ym om H) (hw : w < 2) (hdg : decode cc pc = .ok (.arraylength, 1)) (kk : W p l e R s m args below meth c H locs cells slots Q (F0 m (pc + 1) ls (.int 24 :: rest))) : W p l e R s m args below meth c H locs cells slots Q (F0 m pc ls (.ref (bd_ea E 20 w 0) :: rest)) := by
  obtain ⟨q, hq⟩ := bd_pos (f := 20) (w := w) (k := 0) ⟨by decide, hw, by decide⟩
  exact va_alen (D := bd_eD E) C.1.1 C.1.2.1 C.2.1 hR.P q 0 (bd_ws_at hq) rfl rfl hdg kk
theorem bd_ld_21 (C : bd_Cx E p m c cc nL s args own) (hR : bd_Rep E xm ym om H) (hw : w < 2) {j : Nat} (hj : j < 24) (hdg : decode cc pc = .ok (.iaload, 1)) (kk : W p l e R s m args below meth c H locs cells slots Q (F0 m (pc + 1) ls (.int (ym 21 w j) :: rest))) : W p l e R s m args below meth c H locs cells slots Q (F0 m pc ls (.int (nI j) :: .ref (bd_ea E 21 w 0) :: rest)) := by
  obtain ⟨q, hq⟩ := bd_pos (f := 21) (w := w) (k := 0) ⟨by decide, hw, by decide⟩
  refine va_iald (D := bd_eD E) C.1.1 C.1.2.1 C.2.1 hR.P q 0 (bd_ws_at hq) rfl (vp_in_nI hj (by decide)) hdg ?_
  rw [nI_clamp (Nat.lt_trans hj (by decide))]
  exact kk
theorem bd_st_21 (C : bd_Cx E p m c cc nL s args own) (hR : bd_Rep E xm ym om H) (hS : va_S (bd_A E) H0 H locs) (hw : w < 2) {j : Nat} (hj : j < 24) (hdg : decode cc pc = .ok (.iastore, 1)) {v : Int32} (kk : ∀ (H1 : Heap) (locs1 : List Loc), bd_Rep E xm (bd_up ym 21 w j v) om H1 → va_S (bd_A E) H0 H1 locs1 → W p l e R s m args below meth c H1 locs1 cells slots Q (F0 m (pc + 1) ls rest)) : W p l e R s m args below meth c H locs cells slots Q (F0 m pc ls (.int v :: .int (nI j) :: .ref (bd_ea E 21 w 0) :: rest)) := by
  obtain ⟨q, hq⟩ := bd_pos (f := 21) (w := w) (k := 0) ⟨by decide, hw, by decide⟩
  refine va_iast (D := bd_eD E) C.1.1 C.1.2.1 C.2.1 hR.P hR.D hS q 0 (bd_ws_at hq) rfl (vp_in_nI hj (by decide)) hdg (fun H1 locs1 hP _ hS1 => kk H1 locs1 (bd_back hR hq ?_ hP) hS1)
  rw [nI_clamp (Nat.lt_trans hj (by decide))]
  exact bd_upY (F := 21) (by simp only [bd_ce, bd_fmY]; simp [bd_ce]; funext z; simp [bd_up, upd]) rfl
theorem bd_al_21 (C : bd_Cx E p m c cc nL s args own) (hR : bd_Rep E xm ym om H) (hw : w < 2) (hdg : decode cc pc = .ok (.arraylength, 1)) (kk : W p l e R s m args below meth c H locs cells slots Q (F0 m (pc + 1) ls (.int 24 :: rest))) : W p l e R s m args below meth c H locs cells slots Q (F0 m pc ls (.ref (bd_ea E 21 w 0) :: rest)) := by
  obtain ⟨q, hq⟩ := bd_pos (f := 21) (w := w) (k := 0) ⟨by decide, hw, by decide⟩
  exact va_alen (D := bd_eD E) C.1.1 C.1.2.1 C.2.1 hR.P q 0 (bd_ws_at hq) rfl rfl hdg kk
theorem bd_ld_22 (C : bd_Cx E p m c cc nL s args own) (hR : bd_Rep E xm ym om H) (hw : w < 2) {j : Nat} (hj : j < 24) (hdg : decode cc pc = .ok (.iaload, 1)) (kk : W p l e R s m args below meth c H locs cells slots Q (F0 m (pc + 1) ls (.int (ym 22 w j) :: rest))) : W p l e R s m args below meth c H locs cells slots Q (F0 m pc ls (.int (nI j) :: .ref (bd_ea E 22 w 0) :: rest)) := by
  obtain ⟨q, hq⟩ := bd_pos (f := 22) (w := w) (k := 0) ⟨by decide, hw, by decide⟩
  refine va_iald (D := bd_eD E) C.1.1 C.1.2.1 C.2.1 hR.P q 0 (bd_ws_at hq) rfl (vp_in_nI hj (by decide)) hdg ?_
  rw [nI_clamp (Nat.lt_trans hj (by decide))]
  exact kk
theorem bd_st_22 (C : bd_Cx E p m c cc nL s args own) (hR : bd_Rep E xm ym om H) (hS : va_S (bd_A E) H0 H locs) (hw : w < 2) {j : Nat} (hj : j < 24) (hdg : decode cc pc = .ok (.iastore, 1)) {v : Int32} (kk : ∀ (H1 : Heap) (locs1 : List Loc), bd_Rep E xm (bd_up ym 22 w j v) om H1 → va_S (bd_A E) H0 H1 locs1 → W p l e R s m args below meth c H1 locs1 cells slots Q (F0 m (pc + 1) ls rest)) : W p l e R s m args below meth c H locs cells slots Q (F0 m pc ls (.int v :: .int (nI j) :: .ref (bd_ea E 22 w 0) :: rest)) := by
  obtain ⟨q, hq⟩ := bd_pos (f := 22) (w := w) (k := 0) ⟨by decide, hw, by decide⟩
  refine va_iast (D := bd_eD E) C.1.1 C.1.2.1 C.2.1 hR.P hR.D hS q 0 (bd_ws_at hq) rfl (vp_in_nI hj (by decide)) hdg (fun H1 locs1 hP _ hS1 => kk H1 locs1 (bd_back hR hq ?_ hP) hS1)
  rw [nI_clamp (Nat.lt_trans hj (by decide))]
  exact bd_upY (F := 22) (by simp only [bd_ce, bd_fmY]; simp [bd_ce]; funext z; simp [bd_up, upd]) rfl
theorem bd_al_22 (C : bd_Cx E p m c cc nL s args own) (hR : bd_Rep E xm ym om H) (hw : w < 2) (hdg : decode cc pc = .ok (.arraylength, 1)) (kk : W p l e R s m args below meth c H locs cells slots Q (F0 m (pc + 1) ls (.int 24 :: rest))) : W p l e R s m args below meth c H locs cells slots Q (F0 m pc ls (.ref (bd_ea E 22 w 0) :: rest)) := by
  obtain ⟨q, hq⟩ := bd_pos (f := 22) (w := w) (k := 0) ⟨by decide, hw, by decide⟩
  exact va_alen (D := bd_eD E) C.1.1 C.1.2.1 C.2.1 hR.P q 0 (bd_ws_at hq) rfl rfl hdg kk
theorem bd_ld_23 (C : bd_Cx E p m c cc nL s args own) (hR : bd_Rep E xm ym om H) (hw : w < 2) {j : Nat} (hj : j < 48) (hdg : decode cc pc = .ok (.iaload, 1)) (kk : W p l e R s m args below meth c H locs cells slots Q (F0 m (pc + 1) ls (.int (ym 23 w j) :: rest))) : W p l e R s m args below meth c H locs cells slots Q (F0 m pc ls (.int (nI j) :: .ref (bd_ea E 23 w 0) :: rest)) := by
  obtain ⟨q, hq⟩ := bd_pos (f := 23) (w := w) (k := 0) ⟨by decide, hw, by decide⟩
  refine va_iald (D := bd_eD E) C.1.1 C.1.2.1 C.2.1 hR.P q 0 (bd_ws_at hq) rfl (vp_in_nI hj (by decide)) hdg ?_
  rw [nI_clamp (Nat.lt_trans hj (by decide))]
  exact kk
theorem bd_st_23 (C : bd_Cx E p m c cc nL s args own) (hR : bd_Rep E xm ym om H) (hS : va_S (bd_A E) H0 H locs) (hw : w < 2) {j : Nat} (hj : j < 48) (hdg : decode cc pc = .ok (.iastore, 1)) {v : Int32} (kk : ∀ (H1 : Heap) (locs1 : List Loc), bd_Rep E xm (bd_up ym 23 w j v) om H1 → va_S (bd_A E) H0 H1 locs1 → W p l e R s m args below meth c H1 locs1 cells slots Q (F0 m (pc + 1) ls rest)) : W p l e R s m args below meth c H locs cells slots Q (F0 m pc ls (.int v :: .int (nI j) :: .ref (bd_ea E 23 w 0) :: rest)) := by
  obtain ⟨q, hq⟩ := bd_pos (f := 23) (w := w) (k := 0) ⟨by decide, hw, by decide⟩
  refine va_iast (D := bd_eD E) C.1.1 C.1.2.1 C.2.1 hR.P hR.D hS q 0 (bd_ws_at hq) rfl (vp_in_nI hj (by decide)) hdg (fun H1 locs1 hP _ hS1 => kk H1 locs1 (bd_back hR hq ?_ hP) hS1)
  rw [nI_clamp (Nat.lt_trans hj (by decide))]
  exact bd_upY (F := 23) (by simp only [bd_ce, bd_fmY]; simp [bd_ce]; funext z; simp [bd_up, upd]) rfl
theorem bd_al_23 (C : bd_Cx E p m c cc nL s args own) (hR : bd_Rep E xm ym om H) (hw : w < 2) (hdg : decode cc pc = .ok (.arraylength, 1)) (kk : W p l e R s m args below meth c H locs cells slots Q (F0 m (pc + 1) ls (.int 48 :: rest))) : W p l e R s m args below meth c H locs cells slots Q (F0 m pc ls (.ref (bd_ea E 23 w 0) :: rest)) := by
  obtain ⟨q, hq⟩ := bd_pos (f := 23) (w := w) (k := 0) ⟨by decide, hw, by decide⟩
  exact va_alen (D := bd_eD E) C.1.1 C.1.2.1 C.2.1 hR.P q 0 (bd_ws_at hq) rfl rfl hdg kk
theorem bd_ld_24 (C : bd_Cx E p m c cc nL s args own) (hR : bd_Rep E xm ym om H) (hw : w < 2) {j : Nat} (hj : j < 48) (hdg : decode cc pc = .ok (.iaload, 1)) (kk : W p l e R s m args below meth c H locs cells slots Q (F0 m (pc + 1) ls (.int (ym 24 w j) :: rest))) : W p l e R s m args below meth c H locs cells slots Q (F0 m pc ls (.int (nI j) :: .ref (bd_ea E 24 w 0) :: rest)) := by
  obtain ⟨q, hq⟩ := bd_pos (f := 24) (w := w) (k := 0) ⟨by decide, hw, by decide⟩
  refine va_iald (D := bd_eD E) C.1.1 C.1.2.1 C.2.1 hR.P q 0 (bd_ws_at hq) rfl (vp_in_nI hj (by decide)) hdg ?_
  rw [nI_clamp (Nat.lt_trans hj (by decide))]
  exact kk
theorem bd_st_24 (C : bd_Cx E p m c cc nL s args own) (hR : bd_Rep E xm ym om H) (hS : va_S (bd_A E) H0 H locs) (hw : w < 2) {j : Nat} (hj : j < 48) (hdg : decode cc pc = .ok (.iastore, 1)) {v : Int32} (kk : ∀ (H1 : Heap) (locs1 : List Loc), bd_Rep E xm (bd_up ym 24 w j v) om H1 → va_S (bd_A E) H0 H1 locs1 → W p l e R s m args below meth c H1 locs1 cells slots Q (F0 m (pc + 1) ls rest)) : W p l e R s m args below meth c H locs cells slots Q (F0 m pc ls (.int v :: .int (nI j) :: .ref (bd_ea E 24 w 0) :: rest)) := by
  obtain ⟨q, hq⟩ := bd_pos (f := 24) (w := w) (k := 0) ⟨by decide, hw, by decide⟩
  refine va_iast (D := bd_eD E) C.1.1 C.1.2.1 C.2.1 hR.P hR.D hS q 0 (bd_ws_at hq) rfl (vp_in_nI hj (by decide)) hdg (fun H1 locs1 hP _ hS1 => kk H1 locs1 (bd_back hR hq ?_ hP) hS1)
  rw [nI_clamp (Nat.lt_trans hj (by decide))]
  exact bd_upY (F := 24) (by simp only [bd_ce, bd_fmY]; simp [bd_ce]; funext z; simp [bd_up, upd]) rfl
theorem bd_al_24 (C : bd_Cx E p m c cc nL s args own) (hR : bd_Rep E xm ym om H) (hw : w < 2) (hdg : decode cc pc = .ok (.arraylength, 1)) (kk : W p l e R s m args below meth c H locs cells slots Q (F0 m (pc + 1) ls (.int 48 :: rest))) : W p l e R s m args below meth c H locs cells slots Q (F0 m pc ls (.ref (bd_ea E 24 w 0) :: rest)) := by
  obtain ⟨q, hq⟩ := bd_pos (f := 24) (w := w) (k := 0) ⟨by decide, hw, by decide⟩
  exact va_alen (D := bd_eD E) C.1.1 C.1.2.1 C.2.1 hR.P q 0 (bd_ws_at hq) rfl rfl hdg kk
theorem bd_ld_25 (C : bd_Cx E p m c cc nL s args own) (hR : bd_Rep E xm ym om H) (hw : w < 2) {j : Nat} (hj : j < 6) (hdg : decode cc pc = .ok (.iaload, 1)) (kk : W p l e R s m args below meth c H locs cells slots Q (F0 m (pc + 1) ls (.int (ym 25 w j) :: rest))) : W p l e R s m args below meth c H locs cells slots Q (F0 m pc ls (.int (nI j) :: .ref (bd_ea E 25 w 0) :: rest)) := by
  obtain ⟨q, hq⟩ := bd_pos (f := 25) (w := w) (k := 0) ⟨by decide, hw, by decide⟩
  refine va_iald (D := bd_eD E) C.1.1 C.1.2.1 C.2.1 hR.P q 0 (bd_ws_at hq) rfl (vp_in_nI hj (by decide)) hdg ?_
  rw [nI_clamp (Nat.lt_trans hj (by decide))]
  exact kk
theorem bd_st_25 (C : bd_Cx E p m c cc nL s args own) (hR : bd_Rep E xm ym om H) (hS : va_S (bd_A E) H0 H locs) (hw : w < 2) {j : Nat} (hj : j < 6) (hdg : decode cc pc = .ok (.iastore, 1)) {v : Int32} (kk : ∀ (H1 : Heap) (locs1 : List Loc), bd_Rep E xm (bd_up ym 25 w j v) om H1 → va_S (bd_A E) H0 H1 locs1 → W p l e R s m args below meth c H1 locs1 cells slots Q (F0 m (pc + 1) ls rest)) : W p l e R s m args below meth c H locs cells slots Q (F0 m pc ls (.int v :: .int (nI j) :: .ref (bd_ea E 25 w 0) :: rest)) := by
  obtain ⟨q, hq⟩ := bd_pos (f := 25) (w := w) (k := 0) ⟨by decide, hw, by decide⟩
  refine va_iast (D := bd_eD E) C.1.1 C.1.2.1 C.2.1 hR.P hR.D hS q 0 (bd_ws_at hq) rfl (vp_in_nI hj (by decide)) hdg (fun H1 locs1 hP _ hS1 => kk H1 locs1 (bd_back hR hq ?_ hP) hS1)
  rw [nI_clamp (Nat.lt_trans hj (by decide))]
  exact bd_upY (F := 25) (by simp only [bd_ce, bd_fmY]; simp [bd_ce]; funext z; simp [bd_up, upd]) rfl
theorem bd_al_25 (C : bd_Cx E p m c cc nL s args own) (hR : bd_Rep E xm ym om H) (hw : w < 2) (hdg : decode cc pc = .ok (.arraylength, 1)) (kk : W p l e R s m args below meth c H locs cells slots Q (F0 m (pc + 1) ls (.int 6 :: rest))) : W p l e R s m args below meth c H locs cells slots Q (F0 m pc ls (.ref (bd_ea E 25 w 0) :: rest)) := by
  obtain ⟨q, hq⟩ := bd_pos (f := 25) (w := w) (k := 0) ⟨by decide, hw, by decide⟩
  exact va_alen (D := bd_eD E) C.1.1 C.1.2.1 C.2.1 hR.P q 0 (bd_ws_at hq) rfl rfl hdg kk
theorem bd_ld_26 (C : bd_Cx E p m c cc nL s args own) (hR : bd_Rep E xm ym om H) (hw : w < 2) {j : Nat} (hj : j < 6) (hdg : decode cc pc = .ok (.iaload, 1)) (kk : W p l e R s m args below meth c H locs cells slots Q (F0 m (pc + 1) ls (.int (ym 26 w j) :: rest))) : W p l e R s m args below meth c H locs cells slots Q (F0 m pc ls (.int (nI j) :: .ref (bd_ea E 26 w 0) :: rest)) := by
  obtain ⟨q, hq⟩ := bd_pos (f := 26) (w := w) (k := 0) ⟨by decide, hw, by decide⟩
  refine va_iald (D := bd_eD E) C.1.1 C.1.2.1 C.2.1 hR.P q 0 (bd_ws_at hq) rfl (vp_in_nI hj (by decide)) hdg ?_
  rw [nI_clamp (Nat.lt_trans hj (by decide))]
  exact kk
theorem bd_st_26 (C : bd_Cx E p m c cc nL s args own) (hR : bd_Rep E xm ym om H) (hS : va_S (bd_A E) H0 H locs) (hw : w < 2) {j : Nat} (hj : j < 6) (hdg : decode cc pc = .ok (.iastore, 1)) {v : Int32} (kk : ∀ (H1 : Heap) (locs1 : List Loc), bd_Rep E xm (bd_up ym 26 w j v) om H1 → va_S (bd_A E) H0 H1 locs1 → W p l e R s m args below meth c H1 locs1 cells slots Q (F0 m (pc + 1) ls rest)) : W p l e R s m args below meth c H locs cells slots Q (F0 m pc ls (.int v :: .int (nI j) :: .ref (bd_ea E 26 w 0) :: rest)) := by
  obtain ⟨q, hq⟩ := bd_pos (f := 26) (w := w) (k := 0) ⟨by decide, hw, by decide⟩
  refine va_iast (D := bd_eD E) C.1.1 C.1.2.1 C.2.1 hR.P hR.D hS q 0 (bd_ws_at hq) rfl (vp_in_nI hj (by decide)) hdg (fun H1 locs1 hP _ hS1 => kk H1 locs1 (bd_back hR hq ?_ hP) hS1)
  rw [nI_clamp (Nat.lt_trans hj (by decide))]
  exact bd_upY (F := 26) (by simp only [bd_ce, bd_fmY]; simp [bd_ce]; funext z; simp [bd_up, upd]) rfl
theorem bd_al_26 (C : bd_Cx E p m c cc nL s args own) (hR : bd_Rep E xm ym om H) (hw : w < 2) (hdg : decode cc pc = .ok (.arraylength, 1)) (kk : W p l e R s m args below meth c H locs cells slots Q (F0 m (pc + 1) ls (.int 6 :: rest))) : W p l e R s m args below meth c H locs cells slots Q (F0 m pc ls (.ref (bd_ea E 26 w 0) :: rest)) := by
  obtain ⟨q, hq⟩ := bd_pos (f := 26) (w := w) (k := 0) ⟨by decide, hw, by decide⟩
  exact va_alen (D := bd_eD E) C.1.1 C.1.2.1 C.2.1 hR.P q 0 (bd_ws_at hq) rfl rfl hdg kk
theorem bd_ld_27 (C : bd_Cx E p m c cc nL s args own) (hR : bd_Rep E xm ym om H) (hw : w < 2) {j : Nat} (hj : j < 6) (hdg : decode cc pc = .ok (.iaload, 1)) (kk : W p l e R s m args below meth c H locs cells slots Q (F0 m (pc + 1) ls (.int (ym 27 w j) :: rest))) : W p l e R s m args below meth c H locs cells slots Q (F0 m pc ls (.int (nI j) :: .ref (bd_ea E 27 w 0) :: rest)) := by
  obtain ⟨q, hq⟩ := bd_pos (f := 27) (w := w) (k := 0) ⟨by decide, hw, by decide⟩
  refine va_iald (D := bd_eD E) C.1.1 C.1.2.1 C.2.1 hR.P q 0 (bd_ws_at hq) rfl (vp_in_nI hj (by decide)) hdg ?_
  rw [nI_clamp (Nat.lt_trans hj (by decide))]
  exact kk
theorem bd_st_27 (C : bd_Cx E p m c cc nL s args own) (hR : bd_Rep E xm ym om H) (hS : va_S (bd_A E) H0 H locs) (hw : w < 2) {j : Nat} (hj : j < 6) (hdg : decode cc pc = .ok (.iastore, 1)) {v : Int32} (kk : ∀ (H1 : Heap) (locs1 : List Loc), bd_Rep E xm (bd_up ym 27 w j v) om H1 → va_S (bd_A E) H0 H1 locs1 → W p l e R s m args below meth c H1 locs1 cells slots Q (F0 m (pc + 1) ls rest)) : W p l e R s m args below meth c H locs cells slots Q (F0 m pc ls (.int v :: .int (nI j) :: .ref (bd_ea E 27 w 0) :: rest)) := by
  obtain ⟨q, hq⟩ := bd_pos (f := 27) (w := w) (k := 0) ⟨by decide, hw, by decide⟩
  refine va_iast (D := bd_eD E) C.1.1 C.1.2.1 C.2.1 hR.P hR.D hS q 0 (bd_ws_at hq) rfl (vp_in_nI hj (by decide)) hdg (fun H1 locs1 hP _ hS1 => kk H1 locs1 (bd_back hR hq ?_ hP) hS1)
  rw [nI_clamp (Nat.lt_trans hj (by decide))]
  exact bd_upY (F := 27) (by simp only [bd_ce, bd_fmY]; simp [bd_ce]; funext z; simp [bd_up, upd]) rfl
theorem bd_al_27 (C : bd_Cx E p m c cc nL s args own) (hR : bd_Rep E xm ym om H) (hw : w < 2) (hdg : decode cc pc = .ok (.arraylength, 1)) (kk : W p l e R s m args below meth c H locs cells slots Q (F0 m (pc + 1) ls (.int 6 :: rest))) : W p l e R s m args below meth c H locs cells slots Q (F0 m pc ls (.ref (bd_ea E 27 w 0) :: rest)) := by
  obtain ⟨q, hq⟩ := bd_pos (f := 27) (w := w) (k := 0) ⟨by decide, hw, by decide⟩
  exact va_alen (D := bd_eD E) C.1.1 C.1.2.1 C.2.1 hR.P q 0 (bd_ws_at hq) rfl rfl hdg kk
theorem bd_ld_28 (C : bd_Cx E p m c cc nL s args own) (hR : bd_Rep E xm ym om H) (hw : w < 2) {j : Nat} (hj : j < 24) (hdg : decode cc pc = .ok (.iaload, 1)) (kk : W p l e R s m args below meth c H locs cells slots Q (F0 m (pc + 1) ls (.int (ym 28 w j) :: rest))) : W p l e R s m args below meth c H locs cells slots Q (F0 m pc ls (.int (nI j) :: .ref (bd_ea E 28 w 0) :: rest)) := by
  obtain ⟨q, hq⟩ := bd_pos (f := 28) (w := w) (k := 0) ⟨by decide, hw, by decide⟩
  refine va_iald (D := bd_eD E) C.1.1 C.1.2.1 C.2.1 hR.P q 0 (bd_ws_at hq) rfl (vp_in_nI hj (by decide)) hdg ?_
  rw [nI_clamp (Nat.lt_trans hj (by decide))]
  exact kk
theorem bd_st_28 (C : bd_Cx E p m c cc nL s args own) (hR : bd_Rep E xm ym om H) (hS : va_S (bd_A E) H0 H locs) (hw : w < 2) {j : Nat} (hj : j < 24) (hdg : decode cc pc = .ok (.iastore, 1)) {v : Int32} (kk : ∀ (H1 : Heap) (locs1 : List Loc), bd_Rep E xm (bd_up ym 28 w j v) om H1 → va_S (bd_A E) H0 H1 locs1 → W p l e R s m args below meth c H1 locs1 cells slots Q (F0 m (pc + 1) ls rest)) : W p l e R s m args below meth c H locs cells slots Q (F0 m pc ls (.int v :: .int (nI j) :: .ref (bd_ea E 28 w 0) :: rest)) := by
  obtain ⟨q, hq⟩ := bd_pos (f := 28) (w := w) (k := 0) ⟨by decide, hw, by decide⟩
  refine va_iast (D := bd_eD E) C.1.1 C.1.2.1 C.2.1 hR.P hR.D hS q 0 (bd_ws_at hq) rfl (vp_in_nI hj (by decide)) hdg (fun H1 locs1 hP _ hS1 => kk H1 locs1 (bd_back hR hq ?_ hP) hS1)
  rw [nI_clamp (Nat.lt_trans hj (by decide))]
  exact bd_upY (F := 28) (by simp only [bd_ce, bd_fmY]; simp [bd_ce]; funext z; simp [bd_up, upd]) rfl
theorem bd_al_28 (C : bd_Cx E p m c cc nL s args own) (hR : bd_Rep E xm ym om H) (hw : w < 2) (hdg : decode cc pc = .ok (.arraylength, 1)) (kk : W p l e R s m args below meth c H locs cells slots Q (F0 m (pc + 1) ls (.int 24 :: rest))) : W p l e R s m args below meth c H locs cells slots Q (F0 m pc ls (.ref (bd_ea E 28 w 0) :: rest)) := by
  obtain ⟨q, hq⟩ := bd_pos (f := 28) (w := w) (k := 0) ⟨by decide, hw, by decide⟩
  exact va_alen (D := bd_eD E) C.1.1 C.1.2.1 C.2.1 hR.P q 0 (bd_ws_at hq) rfl rfl hdg kk
theorem bd_ld_29 (C : bd_Cx E p m c cc nL s args own) (hR : bd_Rep E xm ym om H) (hw : w < 2) {j : Nat} (hj : j < 24) (hdg : decode cc pc = .ok (.iaload, 1)) (kk : W p l e R s m args below meth c H locs cells slots Q (F0 m (pc + 1) ls (.int (ym 29 w j) :: rest))) : W p l e R s m args below meth c H locs cells slots Q (F0 m pc ls (.int (nI j) :: .ref (bd_ea E 29 w 0) :: rest)) := by
  obtain ⟨q, hq⟩ := bd_pos (f := 29) (w := w) (k := 0) ⟨by decide, hw, by decide⟩
  refine va_iald (D := bd_eD E) C.1.1 C.1.2.1 C.2.1 hR.P q 0 (bd_ws_at hq) rfl (vp_in_nI hj (by decide)) hdg ?_
  rw [nI_clamp (Nat.lt_trans hj (by decide))]
  exact kk
theorem bd_st_29 (C : bd_Cx E p m c cc nL s args own) (hR : bd_Rep E xm ym om H) (hS : va_S (bd_A E) H0 H locs) (hw : w < 2) {j : Nat} (hj : j < 24) (hdg : decode cc pc = .ok (.iastore, 1)) {v : Int32} (kk : ∀ (H1 : Heap) (locs1 : List Loc), bd_Rep E xm (bd_up ym 29 w j v) om H1 → va_S (bd_A E) H0 H1 locs1 → W p l e R s m args below meth c H1 locs1 cells slots Q (F0 m (pc + 1) ls rest)) : W p l e R s m args below meth c H locs cells slots Q (F0 m pc ls (.int v :: .int (nI j) :: .ref (bd_ea E 29 w 0) :: rest)) := by
  obtain ⟨q, hq⟩ := bd_pos (f := 29) (w := w) (k := 0) ⟨by decide, hw, by decide⟩
  refine va_iast (D := bd_eD E) C.1.1 C.1.2.1 C.2.1 hR.P hR.D hS q 0 (bd_ws_at hq) rfl (vp_in_nI hj (by decide)) hdg (fun H1 locs1 hP _ hS1 => kk H1 locs1 (bd_back hR hq ?_ hP) hS1)
  rw [nI_clamp (Nat.lt_trans hj (by decide))]
  exact bd_upY (F := 29) (by simp only [bd_ce, bd_fmY]; simp [bd_ce]; funext z; simp [bd_up, upd]) rfl
theorem bd_al_29 (C : bd_Cx E p m c cc nL s args own) (hR : bd_Rep E xm ym om H) (hw : w < 2) (hdg : decode cc pc = .ok (.arraylength, 1)) (kk : W p l e R s m args below meth c H locs cells slots Q (F0 m (pc + 1) ls (.int 24 :: rest))) : W p l e R s m args below meth c H locs cells slots Q (F0 m pc ls (.ref (bd_ea E 29 w 0) :: rest)) := by
  obtain ⟨q, hq⟩ := bd_pos (f := 29) (w := w) (k := 0) ⟨by decide, hw, by decide⟩
  exact va_alen (D := bd_eD E) C.1.1 C.1.2.1 C.2.1 hR.P q 0 (bd_ws_at hq) rfl rfl hdg kk
theorem bd_ld_3 (C : bd_Cx E p m c cc nL s args own) (hR : bd_Rep E xm ym om H) (hw : w < 2) {j : Nat} (hj : j < 24) (hdg : decode cc pc = .ok (.aaload, 1)) (kk : W p l e R s m args below meth c H locs cells slots Q (F0 m (pc + 1) ls (.ref (bd_ea E 7 w j) :: rest))) : W p l e R s m args below meth c H locs cells slots Q (F0 m pc ls (.int (nI j) :: .ref (bd_ea E 3 w 0) :: rest)) := by
  obtain ⟨q, hq⟩ := bd_pos (f := 3) (w := w) (k := 0) ⟨by decide, hw, by decide⟩
  refine va_aldq (D := bd_eD E) C.1.1 C.1.2.1 C.2.1 hR.P q 1 (bd_ws_at hq) rfl (vp_in_nI hj (by decide)) hdg ?_
  rw [nI_clamp (Nat.lt_trans hj (by decide))]
  exact kk
theorem bd_ld_4 (C : bd_Cx E p m c cc nL s args own) (hR : bd_Rep E xm ym om H) (hw : w < 2) {j : Nat} (hj : j < 6) (hdg : decode cc pc = .ok (.aaload, 1)) (kk : W p l e R s m args below meth c H locs cells slots Q (F0 m (pc + 1) ls (.ref (bd_ea E 9 w j) :: rest))) : W p l e R s m args below meth c H locs cells slots Q (F0 m pc ls (.int (nI j) :: .ref (bd_ea E 4 w 0) :: rest)) := by
  obtain ⟨q, hq⟩ := bd_pos (f := 4) (w := w) (k := 0) ⟨by decide, hw, by decide⟩
  refine va_aldq (D := bd_eD E) C.1.1 C.1.2.1 C.2.1 hR.P q 2 (bd_ws_at hq) rfl (vp_in_nI hj (by decide)) hdg ?_
  rw [nI_clamp (Nat.lt_trans hj (by decide))]
  exact kk
theorem bd_ld_10 (C : bd_Cx E p m c cc nL s args own) (hR : bd_Rep E xm ym om H) (hw : w < 2) (hk : k < 6) {j : Nat} (hj : j < 8) (hdg : decode cc pc = .ok (.aaload, 1)) (kk : W p l e R s m args below meth c H locs cells slots Q (F0 m (pc + 1) ls (.ref (bd_ea E 11 w (8 * k + j)) :: rest))) : W p l e R s m args below meth c H locs cells slots Q (F0 m pc ls (.int (nI j) :: .ref (bd_ea E 10 w k) :: rest)) := by
  obtain ⟨q, hq⟩ := bd_pos (f := 10) (w := w) (k := k) ⟨by decide, hw, hk⟩
  refine va_aldq (D := bd_eD E) C.1.1 C.1.2.1 C.2.1 hR.P q 3 (bd_ws_at hq) rfl (vp_in_nI hj (by decide)) hdg ?_
  rw [nI_clamp (Nat.lt_trans hj (by decide))]
  exact kk
theorem bd_upO {E : bd_E} {xm ym : bd_M} {om om' : Nat → Int64} : bd_Up E xm ym om xm ym om' 30 0 0 (.inl (bd_eK E 4, 1, .inr (.inl om'))) := by
  refine ⟨rfl, fun f' w' k' hd hn => ?_⟩
  obtain ⟨h1, h2, h3⟩ := hd
  match f', h1, h2, h3, hn with
  | 0, _, _, _, _ => rfl
  | 1, _, _, _, _ => rfl
  | 2, _, _, _, _ => rfl
  | 3, _, _, _, _ => rfl
  | 4, _, _, _, _ => rfl
  | 5, _, _, _, _ => rfl
  | 6, _, _, _, _ => rfl
  | 7, _, _, _, _ => rfl
  | 8, _, _, _, _ => rfl
  | 9, _, _, _, _ => rfl
  | 10, _, _, _, _ => rfl
  | 11, _, _, _, _ => rfl
  | 12, _, _, _, _ => rfl
  | 13, _, _, _, _ => rfl
  | 14, _, _, _, _ => rfl
  | 15, _, _, _, _ => rfl
  | 16, _, _, _, _ => rfl
  | 17, _, _, _, _ => rfl
  | 18, _, _, _, _ => rfl
  | 19, _, _, _, _ => rfl
  | 20, _, _, _, _ => rfl
  | 21, _, _, _, _ => rfl
  | 22, _, _, _, _ => rfl
  | 23, _, _, _, _ => rfl
  | 24, _, _, _, _ => rfl
  | 25, _, _, _, _ => rfl
  | 26, _, _, _, _ => rfl
  | 27, _, _, _, _ => rfl
  | 28, _, _, _, _ => rfl
  | 29, _, _, _, _ => rfl
  | 30, _, h2, h3, hn => exact absurd ⟨rfl, Nat.lt_one_iff.mp h2, Nat.lt_one_iff.mp h3⟩ hn
  | n + 31, h1, _, _, _ => exact absurd h1 (by omega)
/-- the value on top of the stack is the place nI j -/
theorem bd_ti {x : Int32} {j : Nat} (h : x = nI j) (kk : W p l e R s m args below meth c H locs cells slots Q (F0 m pc ls (.int (nI j) :: rest))) : W p l e R s m args below meth c H locs cells slots Q (F0 m pc ls (.int x :: rest)) := by rw [h]; exact kk
theorem bd_ti2 {x : Int32} {y : Value} {j : Nat} (h : x = nI j) (kk : W p l e R s m args below meth c H locs cells slots Q (F0 m pc ls (y :: .int (nI j) :: rest))) : W p l e R s m args below meth c H locs cells slots Q (F0 m pc ls (y :: .int x :: rest)) := by rw [h]; exact kk
end BDR
