/-! WHAT THE REFERENCE'S STATE DOES, over its memory, line by line -/
def ry_Sh (y : bd_M) (n nb : Nat) (z : Nat → Nat) : Prop := y 1 0 0 = nI n ∧ n ≤ 24 ∧ y 2 0 0 = nI nb ∧ nb ≤ 6 ∧ (∀ b, b < 6 → y 14 0 b = nI (z b) ∧ z b ≤ 8) ∧ (∀ k, k < 48 → ¬ y 15 0 k < 0 ∧ (y 15 0 k).toNatClampNeg < 4) ∧ ∀ i, i < 96 → ¬ y 13 0 i < 0
theorem ry_Sh_of {y y' : bd_M} {n nb : Nat} {z : Nat → Nat} (h : ry_Sh y n nb z) (e : ∀ f k, f = 1 ∨ f = 2 ∨ f = 13 ∨ f = 14 ∨ f = 15 → y' f 0 k = y f 0 k) : ry_Sh y' n nb z := by
  obtain ⟨h1, h2, h3, h4, h5, h6, h7⟩ := h
  refine ⟨(e 1 0 (by decide)).trans h1, h2, (e 2 0 (by decide)).trans h3, h4, fun b hb => ⟨(e 14 b (by decide)).trans (h5 b hb).1, (h5 b hb).2⟩, fun k hk => ?_, fun i hi => ?_⟩
  · rw [e 15 k (by decide)]; exact h6 k hk
  · rw [e 13 i (by decide)]; exact h7 i hi
theorem ry_Sh_up {y : bd_M} {n nb : Nat} {z : Nat → Nat} (h : ry_Sh y n nb z) {f w k : Nat} {v : Int32} (hf : f ≠ 1 ∧ f ≠ 2 ∧ f ≠ 13 ∧ f ≠ 14 ∧ f ≠ 15) : ry_Sh (bd_up y f w k v) n nb z := ry_Sh_of h (fun g k hg => bd_up_f (by omega))
theorem ry_Sh_ro {y : bd_M} {n nb : Nat} {z : Nat → Nat} (h : ry_Sh y n nb z) {f w : Nat} {g : Nat → Int32} (hf : f ≠ 1 ∧ f ≠ 2 ∧ f ≠ 13 ∧ f ≠ 14 ∧ f ≠ 15) : ry_Sh (bd_ro y f w g) n nb z := ry_Sh_of h (fun g k hg => if_neg (fun q => by omega))
/-- nobody, or a player -/
abbrev ry_mv (n : Nat) (m : Int32) : Prop := m = (-1) ∨ (¬ m < 0 ∧ m.toNatClampNeg < n)
def ry_Mb (y : bd_M) (w n nb : Nat) (z : Nat → Nat) : Prop := ∀ b, b < nb → ∀ s, s < z b → ry_mv n (y 23 w (8 * b + s))
theorem ry_Mb_of {y y' : bd_M} {w n nb : Nat} {z : Nat → Nat} (h : ry_Mb y w n nb z) (e : ∀ k, y' 23 w k = y 23 w k) : ry_Mb y' w n nb z := fun b hb s hs => by rw [e]; exact h b hb s hs
def ry_c1 (y : bd_M) (f w w2 : Nat) : bd_M := bd_up y f w 0 (y f w2 0)
def ry_rc (y : bd_M) (f w w2 n : Nat) : bd_M := bd_ro y f w (va_cpy (fun j => y f w2 j) (fun j => y f w j) 0 0 n)
def ry_bec (y : bd_M) (w w2 : Nat) : bd_M := ry_rc (ry_rc (ry_rc (ry_rc (ry_rc (ry_rc (ry_rc (ry_rc (ry_rc (ry_rc (ry_c1 (ry_c1 (ry_c1 y 10 w w2) 11 w w2) 12 w w2) 19 w w2 24) 20 w w2 24) 21 w w2 24) 22 w w2 24) 23 w w2 48) 24 w w2 48) 25 w w2 6) 26 w w2 6) 27 w w2 6) 28 w w2 24
def ry_in (y : bd_M) (w b : Nat) (v : Int32) : Nat → Bool
  | 0 => false
  | j + 1 => ry_in y w b v j || decide (y 24 w (8 * b + j) = v)
theorem ry_or1 {a : Bool} {P : Prop} [Decidable P] (h : P) : (if (a || decide P) = true then 1 else 0 : Int32) = (if a = true then 1 else 0) ||| 1 := by
  rw [decide_eq_true h]; cases a <;> decide
theorem ry_or0 {a : Bool} {P : Prop} [Decidable P] (h : ¬ P) : (if (a || decide P) = true then 1 else 0 : Int32) = (if a = true then 1 else 0) ||| 0 := by
  rw [decide_eq_false h]; cases a <;> decide
def ry_lim (y : bd_M) (w k : Nat) : Int32 := if y 23 w k = (-1) then 5 else y 13 0 (4 * (y 23 w k).toNatClampNeg + (y 15 0 k).toNatClampNeg) + 1
def ry_th (y : bd_M) (W : Nat) (b : Int32) : Int32 := if b = (-1) then (-1) else y 13 0 (4 * b.toNatClampNeg + W)
def ry_fi (y : bd_M) (w b zb W : Nat) (lim : Int32) : Nat → Int32
  | 0 => (-1)
  | p + 1 => if 0 < y 20 w p then ry_fi y w b zb W lim p else if 1 < y 29 w p then ry_fi y w b zb W lim p else if lim < y 13 0 (4 * p + W) then ry_fi y w b zb W lim p else if ry_in y w b (nI p) zb = true then ry_fi y w b zb W lim p else if ry_th y W (ry_fi y w b zb W lim p) < y 13 0 (4 * p + W) then nI p else if y 13 0 (4 * p + W) = ry_th y W (ry_fi y w b zb W lim p) then (if y 19 w (ry_fi y w b zb W lim p).toNatClampNeg ≤ y 19 w p then ry_fi y w b zb W lim p else nI p) else ry_fi y w b zb W lim p
theorem ry_mv_nI {n p : Nat} (h : p < n) (hn : n ≤ 24) : ry_mv n (nI p) := Or.inr ⟨nI_pos (by omega), by rw [nI_clamp (by omega)]; exact h⟩
theorem ry_fi_mv {y : bd_M} {w b zb W n : Nat} {lim : Int32} (hn : n ≤ 24) : ∀ p, p ≤ n → ry_mv n (ry_fi y w b zb W lim p)
  | 0, _ => Or.inl rfl
  | p + 1, h => by
    have ih := ry_fi_mv (y := y) (w := w) (b := b) (zb := zb) (W := W) (lim := lim) hn p (by omega)
    have hp := ry_mv_nI (p := p) (n := n) (by omega) hn
    unfold ry_fi
    repeat' split
    all_goals first | exact ih | exact hp
def ry_who (y : bd_M) (w n b zb k : Nat) : Int32 := ry_fi y w b zb (y 15 0 k).toNatClampNeg (ry_lim y w k) n
def ry_so (y : bd_M) (w nb : Nat) (z : Nat → Nat) (v : Int32) : Nat → Nat → Int32
  | 0, _ => (-1)
  | f + 1, i => if nb ≤ i / 8 then ry_so y w nb z v f (i + 1) else if z (i / 8) ≤ i % 8 then ry_so y w nb z v f (i + 1) else if y 23 w i = v then nI i else ry_so y w nb z v f (i + 1)
def ry_me (y : bd_M) (w b : Nat) : Nat → Int32
  | 0 => 0
  | j + 1 => if y 23 w (8 * b + j) = (-1) then ry_me y w b j + 0 else ry_me y w b j + 1
abbrev ry_ia (y : bd_M) (w i j : Nat) : Prop := if y 28 w (4 * i) = y 28 w (4 * j) then (if y 28 w (4 * i + 2) = y 28 w (4 * j + 2) then ¬ nI j ≤ nI i else ¬ y 28 w (4 * j + 2) ≤ y 28 w (4 * i + 2)) else ¬ y 28 w (4 * i) ≤ y 28 w (4 * j)
-- a band plays
def ry_pA1 (y : bd_M) (w k : Nat) : Int32 := if y 23 w k = (-1) then (-1) else if y 20 w (y 23 w k).toNatClampNeg = 0 then y 23 w k else (-1)
def ry_pA (y : bd_M) (w b : Nat) : Nat → bd_M
  | 0 => y
  | j + 1 => bd_up (ry_pA y w b j) 24 w (8 * b + j) (ry_pA1 (ry_pA y w b j) w (8 * b + j))
def ry_pB (y : bd_M) (w b : Nat) : Nat → Int32
  | 0 => 0
  | j + 1 => if y 24 w (8 * b + j) = (-1) then ry_pB y w b j + 0 else ry_pB y w b j + 1
def ry_pC3 (y : bd_M) (w W : Nat) (k : Nat) : bd_M := bd_up (bd_up y 29 w W (y 29 w W + 1)) 22 w (bd_up y 29 w W (y 29 w W + 1) 24 w k).toNatClampNeg (bd_up y 29 w W (y 29 w W + 1) 22 w (bd_up y 29 w W (y 29 w W + 1) 24 w k).toNatClampNeg + 1)
def ry_pC2 (y : bd_M) (w k : Nat) (m e : Int32) : bd_M × Int32 × Int32 := if y 24 w k = (-1) then (y, m, e + 1) else (ry_pC3 y w (y 24 w k).toNatClampNeg k, m + 1, e)
def ry_pC1 (s : bd_M × Int32 × Int32) (w n b zb k : Nat) : bd_M × Int32 × Int32 := if s.1 24 w k = (-1) then ry_pC2 (bd_up s.1 24 w k (ry_who s.1 w n b zb k)) w k s.2.1 s.2.2 else s
def ry_pC (y : bd_M) (w n b zb : Nat) : Nat → bd_M × Int32 × Int32
  | 0 => (y, 0, 0)
  | j + 1 => ry_pC1 (ry_pC y w n b zb j) w n b zb (8 * b + j)
def ry_mk (y : bd_M) (w k : Nat) : Int32 := y 17 0 (y 15 0 k).toNatClampNeg * bd_mx 0 (10 + y 13 0 (4 * (y 24 w k).toNatClampNeg + (y 15 0 k).toNatClampNeg) - y 16 0 (y 15 0 k).toNatClampNeg - y 19 w (y 24 w k).toNatClampNeg / 20)
def ry_pD (y : bd_M) (w b : Nat) (m : Int32) : Nat → Int32
  | 0 => m
  | j + 1 => if y 24 w (8 * b + j) = (-1) then ry_pD y w b m j else ry_pD y w b m j + ry_mk y w (8 * b + j)
def ry_pT (y : bd_M) (w b : Nat) (m many empty : Int32) : bd_M := bd_ro y 28 w (va_cpy (upd (upd (upd (upd (fun _ => 0) 0 (if many ≤ 3 then bd_mx 0 m else 0)) 1 (-1)) 2 many) 3 empty) (fun j => y 28 w j) 0 (4 * b) 4)
def ry_pO (y : bd_M) (w b : Nat) (many : Int32) : bd_M := if many ≤ 3 then bd_up y 27 w b (y 27 w b + 0) else bd_up y 27 w b (y 27 w b + 1)
def ry_pF (y : bd_M) (w : Nat) (many empty : Int32) : bd_M := bd_up (bd_up y 11 w 0 (y 11 w 0 + many)) 12 w 0 (bd_up y 11 w 0 (y 11 w 0 + many) 12 w 0 + empty)
def ry_pE1 (y : bd_M) (w b zb p : Nat) : bd_M := if ry_in y w b (nI p) zb = true then bd_up (bd_up y 19 w p (bd_mn 100 (y 19 w p + 15))) 21 w p (bd_up y 19 w p (bd_mn 100 (y 19 w p + 15)) 21 w p + 1) else bd_up (bd_up y 19 w p (bd_mx 0 (y 19 w p - 10))) 21 w p (bd_up y 19 w p (bd_mx 0 (y 19 w p - 10)) 21 w p + 0)
def ry_pE (y : bd_M) (w b zb : Nat) : Nat → bd_M
  | 0 => y
  | p + 1 => ry_pE1 (ry_pE y w b zb p) w b zb p
def ry_m0 (y : bd_M) (w b zb : Nat) (s : bd_M × Int32 × Int32) : Int32 := ry_pB y w b zb + s.1 25 w b / 5 - 5 * s.2.2
def ry_pG (y : bd_M) (w n b zb : Nat) (s : bd_M × Int32 × Int32) : bd_M := ry_pE (ry_pF (ry_pO (ry_pT s.1 w b (ry_pD s.1 w b (ry_m0 y w b zb s) zb) s.2.1 s.2.2) w b s.2.1) w s.2.1 s.2.2) w b zb n
def ry_play (y : bd_M) (w n b zb : Nat) : bd_M := ry_pG (ry_pA y w b zb) w n b zb (ry_pC (ry_pA y w b zb) w n b zb zb)
-- a contest
def ry_k1 (y : bd_M) (w : Nat) : Nat → bd_M
  | 0 => y
  | j + 1 => bd_up (ry_k1 y w j) 29 w j 0
def ry_k2 (y : bd_M) (w n nb : Nat) (z : Nat → Nat) (t : Nat) : Nat → bd_M
  | 0 => y
  | j + 1 => ry_play (ry_k2 y w n nb z t j) w n ((t + j) % nb) (z ((t + j) % nb))
def ry_ab (y : bd_M) (w i : Nat) : Nat → Int32
  | 0 => 0
  | j + 1 => if nI j = nI i then ry_ab y w i j + 0 else if ry_ia y w j i then ry_ab y w i j + 1 else ry_ab y w i j + 0
def ry_ow (y : bd_M) (w b : Nat) : Nat → Int32
  | 0 => 0
  | j + 1 => if y 24 w (8 * b + j) = (-1) then ry_ow y w b j + 0 else if y 24 w (8 * b + j) = y 23 w (8 * b + j) then ry_ow y w b j + 1 else ry_ow y w b j + 0
def ry_q1 (y : bd_M) (w nb i : Nat) : bd_M := bd_up y 28 w (4 * i + 1) (ry_ab y w i nb)
def ry_q2 (y : bd_M) (w i : Nat) (a : Int32) : bd_M := bd_up y 26 w i (y 26 w i + (if y 28 w (4 * i) = 0 then 0 else if a ≤ 2 then 5 - 2 * a else 0))
def ry_q3 (y : bd_M) (w i zi : Nat) : bd_M := bd_up y 25 w i (bd_mx 0 (bd_mn 50 (y 25 w i + ry_ow y w i zi - 2 * y 28 w (4 * i + 2))))
def ry_k3 (y : bd_M) (w nb : Nat) (z : Nat → Nat) : Nat → bd_M
  | 0 => y
  | i + 1 => ry_q3 (ry_q2 (ry_q1 (ry_k3 y w nb z i) w nb i) w i (ry_ab (ry_k3 y w nb z i) w i nb)) w i (z i)
def ry_kw (y : bd_M) (w nb : Nat) (z : Nat → Nat) : Nat → Int32
  | 0 => (-1)
  | i + 1 => if ry_ab (ry_k3 y w nb z i) w i nb = 0 then nI i else ry_kw y w nb z i
def ry_k4 (y : bd_M) (w : Nat) : Nat → bd_M
  | 0 => y
  | j + 1 => bd_up (ry_k4 y w j) 20 w j (bd_mx 0 (ry_k4 y w j 20 w j - 1))
def ry_k2e (y : bd_M) (w n nb : Nat) (z : Nat → Nat) (t : Nat) : bd_M := ry_k2 (ry_k1 y w n) w n nb z t nb
def ry_k4e (y : bd_M) (w n nb : Nat) (z : Nat → Nat) (t : Nat) : bd_M := ry_k4 (ry_k3 (ry_k2e y w n nb z t) w nb z nb) w n
def ry_con (y : bd_M) (w n nb : Nat) (z : Nat → Nat) (t : Nat) : bd_M := bd_up (ry_k4e y w n nb z t) 10 w 0 (ry_k4e y w n nb z t 10 w 0 + 1)
-- what stays
section RYS
variable {y : bd_M} {w' k' : Nat}
theorem ry_pA_f {w b f : Nat} (h : f ≠ 24) : ∀ j, ry_pA y w b j f w' k' = y f w' k'
  | 0 => rfl
  | j + 1 => by rw [ry_pA, bd_up_f h]; exact ry_pA_f h j
theorem ry_pC3_f {w W k f : Nat} (h2 : f ≠ 29) (h3 : f ≠ 22) : ry_pC3 y w W k f w' k' = y f w' k' := by rw [ry_pC3, bd_up_f h3, bd_up_f h2]
theorem ry_pC1_f {s : bd_M × Int32 × Int32} {w n b zb k f : Nat} (h : f ≠ 24) (h2 : f ≠ 29) (h3 : f ≠ 22) : (ry_pC1 s w n b zb k).1 f w' k' = s.1 f w' k' := by
  unfold ry_pC1 ry_pC2
  split
  · split
    · exact bd_up_f h
    · exact (ry_pC3_f h2 h3).trans (bd_up_f h)
  · rfl
theorem ry_pC_f {w n b zb f : Nat} (h : f ≠ 24) (h2 : f ≠ 29) (h3 : f ≠ 22) : ∀ j, (ry_pC y w n b zb j).1 f w' k' = y f w' k'
  | 0 => rfl
  | j + 1 => by rw [ry_pC, ry_pC1_f h h2 h3]; exact ry_pC_f h h2 h3 j
theorem ry_pT_f {w b f : Nat} {m a e : Int32} (h : f ≠ 28) : ry_pT y w b m a e f w' k' = y f w' k' := if_neg (fun q => h q.1)
theorem ry_pO_f {w b f : Nat} {a : Int32} (h : f ≠ 27) : ry_pO y w b a f w' k' = y f w' k' := by
  unfold ry_pO
  split <;> exact bd_up_f h
theorem ry_pF_f {w f : Nat} {a e : Int32} (h : f ≠ 11) (h2 : f ≠ 12) : ry_pF y w a e f w' k' = y f w' k' := by rw [ry_pF, bd_up_f h2, bd_up_f h]
theorem ry_pE1_f {w b zb p f : Nat} (h : f ≠ 19) (h2 : f ≠ 21) : ry_pE1 y w b zb p f w' k' = y f w' k' := by
  unfold ry_pE1
  split <;> rw [bd_up_f h2, bd_up_f h]
theorem ry_pE_f {w b zb f : Nat} (h : f ≠ 19) (h2 : f ≠ 21) : ∀ p, ry_pE y w b zb p f w' k' = y f w' k'
  | 0 => rfl
  | p + 1 => by rw [ry_pE, ry_pE1_f h h2]; exact ry_pE_f h h2 p
/-- what a band's play leaves alone -/
theorem ry_play_f {w n b zb f : Nat} (h : f < 11 ∨ (12 < f ∧ f < 19) ∨ f = 20 ∨ f = 23 ∨ f = 25 ∨ f = 26) : ry_play y w n b zb f w' k' = y f w' k' := by
  rw [ry_play, ry_pG, ry_pE_f (by omega) (by omega), ry_pF_f (by omega) (by omega), ry_pO_f (by omega), ry_pT_f (by omega), ry_pC_f (by omega) (by omega) (by omega), ry_pA_f (by omega)]
theorem ry_k1_f {w f : Nat} (h : f ≠ 29) : ∀ j, ry_k1 y w j f w' k' = y f w' k'
  | 0 => rfl
  | j + 1 => by rw [ry_k1, bd_up_f h]; exact ry_k1_f h j
theorem ry_k2_f {w n nb t f : Nat} {z : Nat → Nat} (h : f < 11 ∨ (12 < f ∧ f < 19) ∨ f = 20 ∨ f = 23 ∨ f = 25 ∨ f = 26) : ∀ j, ry_k2 y w n nb z t j f w' k' = y f w' k'
  | 0 => rfl
  | j + 1 => by rw [ry_k2, ry_play_f h]; exact ry_k2_f h j
theorem ry_k3_f {w nb f : Nat} {z : Nat → Nat} (h : f ≠ 28) (h2 : f ≠ 26) (h3 : f ≠ 25) : ∀ i, ry_k3 y w nb z i f w' k' = y f w' k'
  | 0 => rfl
  | i + 1 => by rw [ry_k3, ry_q3, bd_up_f h3, ry_q2, bd_up_f h2, ry_q1, bd_up_f h]; exact ry_k3_f h h2 h3 i
theorem ry_k4_f {w f : Nat} (h : f ≠ 20) : ∀ j, ry_k4 y w j f w' k' = y f w' k'
  | 0 => rfl
  | j + 1 => by rw [ry_k4, bd_up_f h]; exact ry_k4_f h j
end RYS
section RYT
variable {y : bd_M} {n nb : Nat} {z : Nat → Nat}
theorem ry_pA_sh (h : ry_Sh y n nb z) {w b : Nat} (j : Nat) : ry_Sh (ry_pA y w b j) n nb z := ry_Sh_of h (fun f k hf => ry_pA_f (by omega) j)
theorem ry_pC_sh (h : ry_Sh y n nb z) {w n' b zb : Nat} (j : Nat) : ry_Sh (ry_pC y w n' b zb j).1 n nb z := ry_Sh_of h (fun f k hf => ry_pC_f (by omega) (by omega) (by omega) j)
theorem ry_pT_sh (h : ry_Sh y n nb z) {w b : Nat} {m a e : Int32} : ry_Sh (ry_pT y w b m a e) n nb z := ry_Sh_of h (fun f k hf => ry_pT_f (by omega))
theorem ry_pO_sh (h : ry_Sh y n nb z) {w b : Nat} {a : Int32} : ry_Sh (ry_pO y w b a) n nb z := ry_Sh_of h (fun f k hf => ry_pO_f (by omega))
theorem ry_pF_sh (h : ry_Sh y n nb z) {w : Nat} {a e : Int32} : ry_Sh (ry_pF y w a e) n nb z := ry_Sh_of h (fun f k hf => ry_pF_f (by omega) (by omega))
theorem ry_pE_sh (h : ry_Sh y n nb z) {w b zb : Nat} (p : Nat) : ry_Sh (ry_pE y w b zb p) n nb z := ry_Sh_of h (fun f k hf => ry_pE_f (by omega) (by omega) p)
theorem ry_play_sh (h : ry_Sh y n nb z) {w n' b zb : Nat} : ry_Sh (ry_play y w n' b zb) n nb z := ry_Sh_of h (fun f k hf => ry_play_f (by omega))
theorem ry_k1_sh (h : ry_Sh y n nb z) {w : Nat} (j : Nat) : ry_Sh (ry_k1 y w j) n nb z := ry_Sh_of h (fun f k hf => ry_k1_f (by omega) j)
theorem ry_k2_sh (h : ry_Sh y n nb z) {w n' nb' t : Nat} {z' : Nat → Nat} (j : Nat) : ry_Sh (ry_k2 y w n' nb' z' t j) n nb z := ry_Sh_of h (fun f k hf => ry_k2_f (by omega) j)
theorem ry_k3_sh (h : ry_Sh y n nb z) {w nb' : Nat} {z' : Nat → Nat} (j : Nat) : ry_Sh (ry_k3 y w nb' z' j) n nb z := ry_Sh_of h (fun f k hf => ry_k3_f (by omega) (by omega) (by omega) j)
theorem ry_k4_sh (h : ry_Sh y n nb z) {w : Nat} (j : Nat) : ry_Sh (ry_k4 y w j) n nb z := ry_Sh_of h (fun f k hf => ry_k4_f (by omega) j)
theorem ry_con_sh (h : ry_Sh y n nb z) {w n' nb' t : Nat} {z' : Nat → Nat} : ry_Sh (ry_con y w n' nb' z' t) n nb z := ry_Sh_up (ry_k4_sh (ry_k3_sh (ry_k2_sh (ry_k1_sh h n') nb') nb') n') (by decide)
theorem ry_rc_sh (h : ry_Sh y n nb z) {f w w2 m : Nat} (hf : f ≠ 1 ∧ f ≠ 2 ∧ f ≠ 13 ∧ f ≠ 14 ∧ f ≠ 15) : ry_Sh (ry_rc y f w w2 m) n nb z := ry_Sh_ro h hf
theorem ry_bec_sh (h : ry_Sh y n nb z) {w w2 : Nat} : ry_Sh (ry_bec y w w2) n nb z := by
  unfold ry_bec
  repeat' (first | exact h | refine ry_rc_sh ?_ (by decide) | refine ry_Sh_up ?_ (by decide))
end RYT
/-- who sits there after the members have sat down, and behind the deputies -/
theorem ry_pA1_mv {y : bd_M} {w k n : Nat} (h : ry_mv n (y 23 w k)) : ry_mv n (ry_pA1 y w k) := by
  unfold ry_pA1
  repeat' split
  all_goals first | exact Or.inl rfl | exact h
theorem ry_pA_wh {y : bd_M} {w b n zb : Nat} (h : ∀ s, s < zb → ry_mv n (y 23 w (8 * b + s))) : ∀ j, j ≤ zb → ∀ s, s < j → ry_mv n (ry_pA y w b j 24 w (8 * b + s))
  | 0, _, s, hs => absurd hs (Nat.not_lt_zero s)
  | j + 1, hj, s, hs => by
    by_cases e : s = j
    · subst e
      rw [ry_pA, bd_up_s]
      exact ry_pA1_mv (by rw [ry_pA_f (by decide)]; exact h s (by omega))
    · rw [ry_pA, bd_up_n (by omega)]
      exact ry_pA_wh h j (by omega) s (by omega)
theorem ry_pC_wh {y : bd_M} {w b n zb : Nat} (hn : n ≤ 24) (h : ∀ s, s < zb → ry_mv n (y 24 w (8 * b + s))) : ∀ j, ∀ s, s < zb → ry_mv n ((ry_pC y w n b zb j).1 24 w (8 * b + s))
  | 0, s, hs => h s hs
  | j + 1, s, hs => by
    have ih := ry_pC_wh hn h j s hs
    rw [ry_pC]
    unfold ry_pC1 ry_pC2
    split
    · have key : ry_mv n (bd_up (ry_pC y w n b zb j).1 24 w (8 * b + j) (ry_who (ry_pC y w n b zb j).1 w n b zb (8 * b + j)) 24 w (8 * b + s)) := by
        by_cases e : s = j
        · subst e
          rw [bd_up_s]
          exact ry_fi_mv hn n (Nat.le_refl n)
        · rw [bd_up_n (by omega)]
          exact ih
      split
      · exact key
      · dsimp only
        rw [ry_pC3_f (by decide) (by decide)]
        exact key
    · exact ih
-- numbers as places
theorem bd_ix4 {a b : Int32} (ha : ¬ a < 0) (hb : ¬ b < 0) : 4 * a + b = nI (4 * a.toNatClampNeg + b.toNatClampNeg) := by
  obtain ⟨i, hi, rfl⟩ := nI_of ha
  obtain ⟨j, hj, rfl⟩ := nI_of hb
  rw [nI_clamp hi, nI_clamp hj]
  exact ((congrArg (· + nI j) (pk_mul 4 i)).trans (nI_add _ _))
theorem bd_ixn {a : Nat} {b : Int32} (hb : ¬ b < 0) : nI a + b = nI (a + b.toNatClampNeg) := by
  obtain ⟨j, hj, rfl⟩ := nI_of hb
  rw [nI_clamp hj]
  exact nI_add _ _
theorem bd_m1lt {v : Int32} (h : ¬ v < 0) : (-1 : Int32) < v := by
  obtain ⟨j, hj, rfl⟩ := nI_of h
  rw [Int32.lt_iff_toInt_lt, nI_toInt hj]
  show (-1 : Int) < j
  omega
