/-! WHAT THE REFERENCE'S OWN METHODS DO -/
abbrev ry_t0 (y : bd_M) : bd_M := bd_up y 0 0 0 0
theorem bd_inP {n : Nat} {v : Int32} (hn : n ≤ 24) : (¬ v < 0 ∧ ¬ nI n - 1 < v) ↔ (¬ v < 0 ∧ v < nI n) := by
  refine and_congr_right (fun h => ?_)
  obtain ⟨j, hj, rfl⟩ := nI_of h
  cases n with
  | zero =>
    refine ⟨fun q => absurd ?_ q, fun q => absurd q (nI_nlt (Nat.zero_le j) hj)⟩
    rw [Int32.lt_iff_toInt_lt, nI_toInt hj]
    show (-1 : Int) < j
    omega
  | succ n =>
    rw [nI_pred, nI_ltI (by omega) hj, nI_ltI hj (by omega)]
    omega
def ry_add (y : bd_M) (n : Nat) (a b c d : Int32) : bd_M := bd_up (bd_ro y 13 0 (va_cpy (upd (upd (upd (upd (fun _ => 0) 0 a) 1 b) 2 c) 3 d) (fun j => y 13 0 j) 0 (4 * n) 4)) 1 0 0 (nI (n + 1))
/-- the digit at place j, counted from the lowest -/
abbrev kx_dg (d : Int32) (j : Nat) : Int32 := kx_dv d j - kx_dv d j / 10 * 10
abbrev kx_dk (d : Int32) (j : Nat) : Prop := ¬ kx_dg d j < 1 ∧ ¬ 4 < kx_dg d j
def ry_fo (y : bd_M) (nb q : Nat) (d : Int32) : Nat → bd_M
  | 0 => y
  | j + 1 => bd_up (bd_up (bd_up (ry_fo y nb q d j) 15 0 (8 * nb + q - 1 - j) (kx_dg d j - 1)) 23 0 (8 * nb + q - 1 - j) (-1)) 24 0 (8 * nb + q - 1 - j) (-1)
def ry_fl (y : bd_M) (nb : Nat) : Nat → bd_M
  | 0 => y
  | i + 1 => bd_up (ry_fl y nb i) 28 0 (4 * nb + i) (-1)
def ry_fnd (y : bd_M) (nb q : Nat) (d : Int32) : bd_M := bd_up (ry_fl (ry_fo (bd_up y 14 0 nb (nI q)) nb q d q) nb 4) 2 0 0 (nI (nb + 1))
def ry_s1 (y : bd_M) (o : Int32) : bd_M := if o = (-1) then y else bd_up y 23 0 o.toNatClampNeg (-1)
def ry_ol (y : bd_M) (nb : Nat) (z : Nat → Nat) (v : Int32) : Int32 := if v = (-1) then (-1) else ry_so y 0 nb z v 48 0
def ry_seat (y : bd_M) (nb : Nat) (z : Nat → Nat) (k : Nat) (v : Int32) : bd_M := bd_up (ry_s1 y (ry_ol y nb z v)) 23 0 k v
def ry_sw (y : bd_M) (w a b : Nat) : bd_M := bd_up (bd_up y 23 w a (y 23 w b)) 23 w b (y 23 w a)
def ry_rt1 (y : bd_M) (m : Int32) : bd_M := if m = (-1) then y else if y 20 0 m.toNatClampNeg = 0 then bd_up y 19 0 m.toNatClampNeg (bd_mn 100 (y 19 0 m.toNatClampNeg + 5)) else y
def ry_rt (y : bd_M) (b : Nat) : Nat → bd_M
  | 0 => y
  | j + 1 => ry_rt1 (ry_rt y b j) (ry_rt y b j 23 0 (8 * b + j))
def ry_reh (y : bd_M) (b zb : Nat) : bd_M := ry_rt (bd_up y 25 0 b (bd_mn 50 (y 25 0 b + 3))) b zb
def ry_pt (y : bd_M) (nb : Nat) (z : Nat → Nat) (p : Nat) (q : Int32) : Int32 := if q = 4 then y 19 0 p else if q = 5 then y 20 0 p else if q = 6 then (if ry_so y 0 nb z (nI p) 48 0 = (-1) then (-1) else ry_so y 0 nb z (nI p) 48 0 / 8) else if q = 7 then (if ry_so y 0 nb z (nI p) 48 0 = (-1) then (-1) else ry_so y 0 nb z (nI p) 48 0 - ry_so y 0 nb z (nI p) 48 0 / 8 * 8) else if q = 8 then y 21 0 p else y 22 0 p
def ry_ptell (y : bd_M) (nb : Nat) (z : Nat → Nat) (p : Nat) (q : Nat) : Int32 := if 4 ≤ q then ry_pt y nb z p (nI q) else y 13 0 (4 * p + q)
def ry_bt (y : bd_M) (b zb : Nat) : Nat → Int32 := upd (upd (upd (upd (upd (upd (upd (upd (upd (fun _ => 0) 0 (nI zb)) 1 (ry_me y 0 b zb)) 2 (y 25 0 b)) 3 (y 28 0 (4 * b))) 4 (y 28 0 (4 * b + 1))) 5 (y 28 0 (4 * b + 2))) 6 (y 28 0 (4 * b + 3))) 7 (y 26 0 b)) 8 (y 27 0 b)
def ry_ctell (y : bd_M) (k : Nat) (q : Int32) : Int32 := if q = 0 then y 15 0 k else if q = 1 then y 23 0 k else y 24 0 k
def ry_bp (y : bd_M) (i : Nat) : Nat → Int32
  | 0 => 0
  | j + 1 => if y 26 0 i < y 26 0 j then ry_bp y i j + 1 else if y 26 0 j = y 26 0 i then (if nI i ≤ nI j then ry_bp y i j + 0 else ry_bp y i j + 1) else ry_bp y i j + 0
def ry_rk (y : bd_M) (nb : Nat) (v : Int32) : Nat → Nat → Int32
  | 0, _ => (-1)
  | f + 1, i => if ry_bp y i nb = v then nI i else ry_rk y nb v f (i + 1)
def ry_mm (y : bd_M) (z : Nat → Nat) : Nat → Int32
  | 0 => 0
  | b + 1 => ry_mm y z b + ry_me y 0 b (z b)
def ry_aw (y : bd_M) : Nat → Int32
  | 0 => 0
  | p + 1 => if y 20 0 p ≤ 0 then ry_aw y p + 0 else ry_aw y p + 1
def ry_ct (y : bd_M) (n nb : Nat) (z : Nat → Nat) : Nat → Int32 := upd (upd (upd (upd (upd (upd (upd (fun _ => 0) 0 (y 10 0 0)) 1 (nI n)) 2 (nI nb)) 3 (ry_mm y z nb)) 4 (ry_aw y n)) 5 (y 11 0 0)) 6 (y 12 0 0)
def ry_fs (y : bd_M) (n nb : Nat) (z : Nat → Nat) (t : Nat) : Nat → bd_M
  | 0 => y
  | j + 1 => ry_con (ry_fs y n nb z t j) 1 n nb z (t + j)
def ry_fr (y : bd_M) (n nb : Nat) (z : Nat → Nat) (b q : Nat) (g : Int32) : bd_M × Int32 × Int32 := (y, g, g)
def ry_fe (y : bd_M) (b q : Nat) : Int32 := if 3 ≤ q then y 26 1 b else y 28 1 (4 * b + q)
/-- one change tried: the whole contest, with two members changed -/
def ry_tr (y : bd_M) (n nb : Nat) (z : Nat → Nat) (t b a q : Nat) : bd_M := ry_con (ry_sw (ry_bec y 1 0) 1 (8 * b + a) (8 * b + q)) 1 n nb z t
def ry_ad1 (s : bd_M × Int32 × Int32) (n nb : Nat) (z : Nat → Nat) (t b a q : Nat) : bd_M × Int32 × Int32 := if s.2.1 < ry_tr s.1 n nb z t b a q 28 1 (4 * b) then (ry_tr s.1 n nb z t b a q, ry_tr s.1 n nb z t b a q 28 1 (4 * b), nI (8 * a + q)) else (ry_tr s.1 n nb z t b a q, s.2.1, s.2.2)
def ry_ad (s : bd_M × Int32 × Int32) (n nb : Nat) (z : Nat → Nat) (t b a : Nat) : Nat → bd_M × Int32 × Int32
  | 0 => s
  | j + 1 => if j ≤ a then ry_ad s n nb z t b a j else ry_ad1 (ry_ad s n nb z t b a j) n nb z t b a j
def ry_ao (y : bd_M) (n nb : Nat) (z : Nat → Nat) (t b : Nat) : Nat → bd_M × Int32 × Int32
  | 0 => (ry_con (ry_bec y 1 0) 1 n nb z t, ry_con (ry_bec y 1 0) 1 n nb z t 28 1 (4 * b), (-1))
  | a + 1 => ry_ad (ry_ao y n nb z t b a) n nb z t b a (z b)
theorem ry_ad_0 {s : bd_M × Int32 × Int32} {n nb t b a : Nat} {z : Nat → Nat} : ∀ j, j ≤ a + 1 → ry_ad s n nb z t b a j = s
  | 0, _ => rfl
  | j + 1, h => by rw [ry_ad, if_pos (by omega)]; exact ry_ad_0 j (by omega)
def ry_fr1 (y : bd_M) (nb : Nat) (z : Nat → Nat) (v : Nat) : Nat → Int32
  | 0 => (-1)
  | p + 1 => if 0 < y 20 0 p then ry_fr1 y nb z v p else if ry_so y 0 nb z (nI p) 48 0 = (-1) then (if ry_fr1 y nb z v p = (-1) then nI p else if y 13 0 (4 * p + v) ≤ y 13 0 (4 * (ry_fr1 y nb z v p).toNatClampNeg + v) then ry_fr1 y nb z v p else nI p) else ry_fr1 y nb z v p
theorem ry_fr1_mv {y : bd_M} {nb v n : Nat} {z : Nat → Nat} (hn : n ≤ 24) : ∀ p, p ≤ n → ry_mv n (ry_fr1 y nb z v p)
  | 0, _ => Or.inl rfl
  | p + 1, h => by
    have ih := ry_fr1_mv (y := y) (nb := nb) (v := v) (z := z) hn p (by omega)
    have hp := ry_mv_nI (p := p) (n := n) (by omega) hn
    unfold ry_fr1
    repeat' split
    all_goals first | exact ih | exact hp
theorem ry_so_ix {y : bd_M} {w nb : Nat} {z : Nat → Nat} {v : Int32} : ∀ f i, i + f ≤ 48 → ry_so y w nb z v f i = (-1) ∨ (¬ ry_so y w nb z v f i < 0 ∧ (ry_so y w nb z v f i).toNatClampNeg < 48)
  | 0, _, _ => Or.inl rfl
  | f + 1, i, h => by
    have ih := ry_so_ix (y := y) (w := w) (nb := nb) (z := z) (v := v) f (i + 1) (by omega)
    unfold ry_so
    repeat' split
    all_goals first | exact ih | exact Or.inr ⟨nI_pos (by omega), by rw [nI_clamp (by omega)]; omega⟩
-- the checksum
def ry_d1 (y : bd_M) (n nb : Nat) (z : Nat → Nat) : Nat → Int64
  | 0 => 613
  | i + 1 => ry_d1 y n nb z i * 31 + (ry_ct y n nb z i).toInt64
def ry_d2 (d : Int64) (y : bd_M) : Nat → Int64
  | 0 => d
  | i + 1 => (ry_d2 d y i * 31 + (y 16 0 i).toInt64) * 31 + (y 17 0 i).toInt64
def ry_d3i (d : Int64) (y : bd_M) (nb : Nat) (z : Nat → Nat) (p : Nat) : Nat → Int64
  | 0 => d
  | q + 1 => ry_d3i d y nb z p q * 31 + (ry_ptell y nb z p q).toInt64
def ry_d3 (d : Int64) (y : bd_M) (nb : Nat) (z : Nat → Nat) : Nat → Int64
  | 0 => d
  | p + 1 => ry_d3i (ry_d3 d y nb z p) y nb z p 10
def ry_w1 (d : Int64) (y : bd_M) (b zb : Nat) : Nat → Int64
  | 0 => d
  | q + 1 => ry_w1 d y b zb q * 31 + (ry_bt y b zb q).toInt64
def ry_w2i (d : Int64) (y : bd_M) (k : Nat) : Nat → Int64
  | 0 => d
  | q + 1 => ry_w2i d y k q * 31 + (ry_ctell y k (nI q)).toInt64
def ry_w2 (d : Int64) (y : bd_M) (b : Nat) : Nat → Int64
  | 0 => d
  | i + 1 => ry_w2i (ry_w2 d y b i) y (8 * b + i) 3
def ry_d4 (d : Int64) (y : bd_M) (z : Nat → Nat) : Nat → Int64
  | 0 => d
  | b + 1 => ry_w2 (ry_w1 (ry_d4 d y z b) y b (z b) 9) y b (z b)
def ry_sum (y : bd_M) (n nb : Nat) (z : Nat → Nat) : Int64 := ry_d4 (ry_d3 (ry_d2 (ry_d1 y n nb z 7) y 4) y nb z n) y z nb
-- what stays
theorem ry_fo_f {y : bd_M} {nb q f w' k' : Nat} {d : Int32} (h : f ≠ 15) (h2 : f ≠ 23) (h3 : f ≠ 24) : ∀ j, ry_fo y nb q d j f w' k' = y f w' k'
  | 0 => rfl
  | j + 1 => by rw [ry_fo, bd_up_f h3, bd_up_f h2, bd_up_f h]; exact ry_fo_f h h2 h3 j
theorem ry_fl_f {y : bd_M} {nb f w' k' : Nat} (h : f ≠ 28) : ∀ j, ry_fl y nb j f w' k' = y f w' k'
  | 0 => rfl
  | j + 1 => by rw [ry_fl, bd_up_f h]; exact ry_fl_f h j
theorem ry_rt1_f {y : bd_M} {m : Int32} {f w' k' : Nat} (h : f ≠ 19) : ry_rt1 y m f w' k' = y f w' k' := by
  unfold ry_rt1
  repeat' split
  all_goals first | rfl | exact bd_up_f h
theorem ry_rt_f {y : bd_M} {b f w' k' : Nat} (h : f ≠ 19) : ∀ j, ry_rt y b j f w' k' = y f w' k'
  | 0 => rfl
  | j + 1 => by rw [ry_rt, ry_rt1_f h]; exact ry_rt_f h j
theorem ry_sw_f {y : bd_M} {w a b f w' k' : Nat} (h : f ≠ 23) : ry_sw y w a b f w' k' = y f w' k' := by rw [ry_sw, bd_up_f h, bd_up_f h]
theorem bd_kP {k n : Nat} (h : k < n) (hn : n < 2 ^ 31) : ¬ nI k < 0 ∧ nI k < nI n := ⟨nI_pos (by omega), nI_lt h hn⟩
theorem bd_kL {k n : Nat} (h : k ≤ n) (hn : n < 2 ^ 31) : ¬ nI k < 0 ∧ ¬ nI n < nI k := ⟨nI_pos (by omega), fun q => absurd ((nI_ltI hn (by omega)).mp q) (by omega)⟩
theorem bd_kS {b s nb : Nat} {z : Nat → Nat} (hb : b < nb) (hn : nb ≤ 6) (hs : s < z b) (hz : z b ≤ 8) : (¬ nI b < 0 ∧ nI b < nI nb) ∧ ¬ nI s < 0 ∧ nI s < nI (z (nI b).toNatClampNeg) := ⟨bd_kP hb (by omega), by rw [nI_clamp (by omega)]; exact bd_kP hs (by omega)⟩
theorem bd_ix4n {a : Int32} {g : Nat} (ha : ¬ a < 0) : 4 * a + nI g = nI (4 * a.toNatClampNeg + g) := by
  obtain ⟨i, hi, rfl⟩ := nI_of ha
  rw [nI_clamp hi]
  exact ((congrArg (· + nI g) (pk_mul 4 i)).trans (nI_add _ _))
theorem ry_bec_23 {y : bd_M} {k : Nat} (hk : k < 48) : ry_bec y 1 0 23 1 k = y 23 0 k := by
  simp [ry_bec, ry_rc, ry_c1, bd_ro, bd_up, va_cpy, hk]
theorem ry_bec_10 {y : bd_M} : ry_bec y 1 0 10 1 0 = y 10 0 0 := by
  simp [ry_bec, ry_rc, ry_c1, bd_ro, bd_up]
theorem ry_bec_o {y : bd_M} {w2 f k : Nat} : ry_bec y 1 w2 f 0 k = y f 0 k := by
  simp [ry_bec, ry_rc, ry_c1, bd_ro, bd_up]
theorem ry_Mb_bec {y : bd_M} {n nb : Nat} {z : Nat → Nat} (h : ry_Mb y 0 n nb z) (hn : nb ≤ 6) (hz : ∀ b, b < 6 → z b ≤ 8) : ry_Mb (ry_bec y 1 0) 1 n nb z := fun b hb s hs => by
  have := hz b (by omega)
  rw [ry_bec_23 (by omega)]
  exact h b hb s hs
theorem ry_con_f {y : bd_M} {w n nb t f w' k' : Nat} {z : Nat → Nat} (h : f = 23) : ry_con y w n nb z t f w' k' = y f w' k' := by
  subst h
  rw [ry_con, bd_up_f (by decide), ry_k4e, ry_k4_f (by decide), ry_k3_f (by decide) (by decide) (by decide), ry_k2e, ry_k2_f (by decide), ry_k1_f (by decide)]
theorem ry_con_10 {y : bd_M} {w n nb t : Nat} {z : Nat → Nat} : ry_con y w n nb z t 10 w 0 = y 10 w 0 + 1 := by
  rw [ry_con, bd_up_s, ry_k4e, ry_k4_f (by decide), ry_k3_f (by decide) (by decide) (by decide), ry_k2e, ry_k2_f (by decide), ry_k1_f (by decide)]
theorem ry_fs_10 {y : bd_M} {n nb t : Nat} {z : Nat → Nat} (h : y 10 1 0 = nI t) : ∀ j, ry_fs y n nb z t j 10 1 0 = nI (t + j)
  | 0 => h
  | j + 1 => by rw [ry_fs, ry_con_10, ry_fs_10 h j]; exact nI_1 _
theorem ry_fs_23 {y : bd_M} {n nb t k : Nat} {z : Nat → Nat} : ∀ j, ry_fs y n nb z t j 23 1 k = y 23 1 k
  | 0 => rfl
  | j + 1 => by rw [ry_fs, ry_con_f rfl]; exact ry_fs_23 j
theorem ry_fs_sh {y : bd_M} {n nb : Nat} {z : Nat → Nat} (h : ry_Sh y n nb z) {n' nb' t : Nat} {z' : Nat → Nat} : ∀ j, ry_Sh (ry_fs y n' nb' z' t j) n nb z
  | 0 => h
  | j + 1 => ry_con_sh (ry_fs_sh h j)
theorem ry_sw_sh {y : bd_M} {n nb : Nat} {z : Nat → Nat} (h : ry_Sh y n nb z) {w a b : Nat} : ry_Sh (ry_sw y w a b) n nb z := ry_Sh_up (ry_Sh_up h (by decide)) (by decide)
theorem ry_tr_sh {y : bd_M} {n nb : Nat} {z : Nat → Nat} (h : ry_Sh y n nb z) {n' nb' t b a q : Nat} {z' : Nat → Nat} : ry_Sh (ry_tr y n' nb' z' t b a q) n nb z := ry_con_sh (ry_sw_sh (ry_bec_sh h))
theorem ry_ad1_sh {s : bd_M × Int32 × Int32} {n nb : Nat} {z : Nat → Nat} (h : ry_Sh s.1 n nb z) {n' nb' t b a q : Nat} {z' : Nat → Nat} : ry_Sh (ry_ad1 s n' nb' z' t b a q).1 n nb z := by
  unfold ry_ad1
  split <;> exact ry_tr_sh h
theorem ry_ad_sh {s : bd_M × Int32 × Int32} {n nb : Nat} {z : Nat → Nat} (h : ry_Sh s.1 n nb z) {n' nb' t b a : Nat} {z' : Nat → Nat} : ∀ j, ry_Sh (ry_ad s n' nb' z' t b a j).1 n nb z
  | 0 => h
  | j + 1 => by
    rw [ry_ad]
    split
    · exact ry_ad_sh h j
    · exact ry_ad1_sh (ry_ad_sh h j)
theorem ry_ao_sh {y : bd_M} {n nb : Nat} {z : Nat → Nat} (h : ry_Sh y n nb z) {n' nb' t b : Nat} {z' : Nat → Nat} : ∀ a, ry_Sh (ry_ao y n' nb' z' t b a).1 n nb z
  | 0 => ry_con_sh (ry_bec_sh h)
  | a + 1 => ry_ad_sh (ry_ao_sh h a) _
/-- the season itself stays while the other one is tried -/
theorem ry_con_o {y : bd_M} {n nb t f k : Nat} {z : Nat → Nat} : ry_con y 1 n nb z t f 0 k = y f 0 k := by
  have up : ∀ {x : bd_M} {g j : Nat} {v : Int32}, bd_up x g 1 j v f 0 k = x f 0 k := fun {x g j v} => bd_up_n (fun q => by omega)
  have e1 : ∀ (x : bd_M) j, ry_k1 x 1 j f 0 k = x f 0 k := fun x j => by
    induction j with
    | zero => rfl
    | succ j ih => rw [ry_k1, up]; exact ih
  have eA : ∀ (x : bd_M) b j, ry_pA x 1 b j f 0 k = x f 0 k := fun x b j => by
    induction j with
    | zero => rfl
    | succ j ih => rw [ry_pA, up]; exact ih
  have eC : ∀ (x : bd_M) b zb j, (ry_pC x 1 n b zb j).1 f 0 k = x f 0 k := fun x b zb j => by
    induction j with
    | zero => rfl
    | succ j ih =>
      rw [ry_pC]
      unfold ry_pC1 ry_pC2
      split
      · split
        · dsimp only
          rw [up]; exact ih
        · dsimp only
          rw [ry_pC3, up, up, up]; exact ih
      · exact ih
  have eE : ∀ (x : bd_M) b zb j, ry_pE x 1 b zb j f 0 k = x f 0 k := fun x b zb j => by
    induction j with
    | zero => rfl
    | succ j ih =>
      rw [ry_pE]
      unfold ry_pE1
      split <;> rw [up, up] <;> exact ih
  have eP : ∀ (x : bd_M) b zb, ry_play x 1 n b zb f 0 k = x f 0 k := fun x b zb => by
    rw [ry_play, ry_pG, eE, ry_pF, up, up]
    have hO : ∀ (x : bd_M) a, ry_pO x 1 b a f 0 k = x f 0 k := fun x a => by
      unfold ry_pO
      split <;> exact up
    rw [hO, ry_pT]
    rw [show bd_ro _ 28 1 _ f 0 k = _ from if_neg (fun q => by omega), eC, eA]
  have e2 : ∀ (x : bd_M) j, ry_k2 x 1 n nb z t j f 0 k = x f 0 k := fun x j => by
    induction j with
    | zero => rfl
    | succ j ih => rw [ry_k2, eP]; exact ih
  have e3 : ∀ (x : bd_M) j, ry_k3 x 1 nb z j f 0 k = x f 0 k := fun x j => by
    induction j with
    | zero => rfl
    | succ j ih => rw [ry_k3, ry_q3, up, ry_q2, up, ry_q1, up]; exact ih
  have e4 : ∀ (x : bd_M) j, ry_k4 x 1 j f 0 k = x f 0 k := fun x j => by
    induction j with
    | zero => rfl
    | succ j ih => rw [ry_k4, up]; exact ih
  rw [ry_con, up, ry_k4e, e4, e3, ry_k2e, e2, e1]
theorem ry_tr_o {y : bd_M} {n nb t b a q f k : Nat} {z : Nat → Nat} : ry_tr y n nb z t b a q f 0 k = y f 0 k := by
  rw [ry_tr, ry_con_o, ry_sw, bd_up_n (by omega), bd_up_n (by omega), ry_bec_o]
theorem ry_ad_o {s : bd_M × Int32 × Int32} {n nb t b a f k : Nat} {z : Nat → Nat} : ∀ j, (ry_ad s n nb z t b a j).1 f 0 k = s.1 f 0 k
  | 0 => rfl
  | j + 1 => by
    rw [ry_ad]
    split
    · exact ry_ad_o j
    · unfold ry_ad1
      split <;> (dsimp only; rw [ry_tr_o]; exact ry_ad_o j)
theorem ry_ao_o {y : bd_M} {n nb t b f k : Nat} {z : Nat → Nat} : ∀ a, (ry_ao y n nb z t b a).1 f 0 k = y f 0 k
  | 0 => by show ry_con (ry_bec y 1 0) 1 n nb z t f 0 k = _; rw [ry_con_o, ry_bec_o]
  | a + 1 => by rw [ry_ao, ry_ad_o]; exact ry_ao_o a
/-- the tried season's members are players -/
theorem ry_Mb_sw {y : bd_M} {w n nb b a q : Nat} {z : Nat → Nat} (h : ry_Mb y w n nb z) (hb : b < nb) (ha : a < z b) (hq : q < z b) (hz : ∀ b, b < 6 → z b ≤ 8) (hn : nb ≤ 6) : ry_Mb (ry_sw y w (8 * b + a) (8 * b + q)) w n nb z := fun b' hb' s hs => by
  have h1 := hz b (by omega)
  have h2 := hz b' (by omega)
  rw [ry_sw]
  by_cases e1 : 8 * b' + s = 8 * b + q
  · rw [e1, bd_up_s]; exact h b hb a ha
  · rw [bd_up_n (by omega)]
    by_cases e2 : 8 * b' + s = 8 * b + a
    · rw [e2, bd_up_s]; exact h b hb q hq
    · rw [bd_up_n (by omega)]; exact h b' hb' s hs
theorem bd_dn3 {a j : Nat} (h : j < a) : nI (a - j) + (-1) = nI (a - 1 - j) := by
  rw [show a - j = (a - 1 - j) + 1 by omega, pk_m1]
theorem bd_dn4 {a j : Nat} (h : j < a) : nI (a - (j + 1)) = nI (a - j) + (-1) := by
  rw [bd_dn3 h, show a - 1 - j = a - (j + 1) by omega]
/-- q digits, each of them 1 to 4 -/
def kx_ok (d : Int32) (q : Nat) : Prop := (∀ j, j < q → ¬ kx_dv d j ≤ 0 ∧ kx_dk d j) ∧ kx_dv d q ≤ 0
theorem bd_ifc {P Q : Prop} [Decidable P] [Decidable Q] (h : P ↔ Q) : (if P then 1 else 0 : Int32) = if Q then 1 else 0 := by
  by_cases hp : P
  · rw [if_pos hp, if_pos (h.mp hp)]
  · rw [if_neg hp, if_neg (fun q => hp (h.mpr q))]
