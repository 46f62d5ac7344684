/-! WHAT THE CLASS'S METHODS DO, over its memory: the Java text, line by line -/
/-- a season's counts: n players, nb bands, z b seats of band b -/
def kx_Sh (x : bd_M) (w n nb : Nat) (z : Nat → Nat) : Prop := x 30 w 0 = nI n ∧ n ≤ 24 ∧ x 31 w 0 = nI nb ∧ nb ≤ 6 ∧ ∀ b, b < 6 → x 20 w b = nI (z b) ∧ z b ≤ 8
theorem kx_Sh_up {x : bd_M} {w n nb : Nat} {z : Nat → Nat} (h : kx_Sh x w n nb z) {f w' k : Nat} {v : Int32} (hf : f ≠ 30 ∧ f ≠ 31 ∧ f ≠ 20) : kx_Sh (bd_up x f w' k v) w n nb z := by
  obtain ⟨h1, h2, h3, h4, h5⟩ := h
  refine ⟨?_, h2, ?_, h4, fun b hb => ⟨?_, (h5 b hb).2⟩⟩
  · rw [bd_up_f (Ne.symm hf.1)]; exact h1
  · rw [bd_up_f (Ne.symm hf.2.1)]; exact h3
  · rw [bd_up_f (Ne.symm hf.2.2)]; exact (h5 b hb).1
def kx_skill (x : bd_M) (w k : Nat) (i : Int32) : Int32 := if i < 0 then 0 else if 4 ≤ i then 0 else x (i.toNatClampNeg + 1000) w k
abbrev kx_may (x : bd_M) (w k : Nat) : Prop := x 1 w k = 0 ∧ x 7 w k = 0 ∧ ¬ 1 < x 6 w k
def kx_tire (x : bd_M) (w k : Nat) (v : Int32) : bd_M := bd_up x 0 w k (bd_mn 100 (x 0 w k + v))
def kx_rest (x : bd_M) (w k : Nat) (v : Int32) : bd_M := bd_up x 0 w k (bd_mx 0 (x 0 w k - v))
def kx_ptell (x : bd_M) (w k : Nat) (q : Int32) : Int32 := if q = 4 then x 0 w k else if q = 5 then x 1 w k else if q = 6 then x 2 w k else if q = 7 then x 3 w k else if q = 8 then x 4 w k else if q = 9 then x 5 w k else kx_skill x w k q
abbrev kx_own (x : bd_M) (w k : Nat) : Prop := ¬ x 12 w k = (-1) ∧ x 12 w k = x 11 w k
abbrev kx_dep (x : bd_M) (w k : Nat) : Prop := ¬ x 12 w k = (-1) ∧ ¬ x 12 w k = x 11 w k
def kx_ctell (x : bd_M) (w k : Nat) (q : Int32) : Int32 := if q = 0 then x 10 w k else if q = 1 then x 11 w k else x 12 w k
def kx_c1 (x : bd_M) (f w k w2 k2 : Nat) : bd_M := bd_up x f w k (x f w2 k2)
def kx_ccopy (x : bd_M) (w k w2 k2 : Nat) : bd_M := kx_c1 (kx_c1 (kx_c1 x 10 w k w2 k2) 11 w k w2 k2) 12 w k w2 k2
theorem kx_Sh_of {x x' : bd_M} {w n nb : Nat} {z : Nat → Nat} (h : kx_Sh x w n nb z) (h1 : x' 30 w 0 = x 30 w 0) (h2 : x' 31 w 0 = x 31 w 0) (h3 : ∀ b, x' 20 w b = x 20 w b) : kx_Sh x' w n nb z := ⟨h1.trans h.1, h.2.1, h2.trans h.2.2.1, h.2.2.2.1, fun b hb => ⟨(h3 b).trans (h.2.2.2.2 b hb).1, (h.2.2.2.2 b hb).2⟩⟩
theorem kx_Sh_sk {x : bd_M} {w n nb : Nat} {z : Nat → Nat} (h : kx_Sh x w n nb z) {w' k : Nat} {g : Nat → Int32} : kx_Sh (bd_sk x w' k g) w n nb z := kx_Sh_of h (by simp [bd_sk]) (by simp [bd_sk]) (fun b => by simp [bd_sk])
theorem kx_Sh_ro {x : bd_M} {w n nb : Nat} {z : Nat → Nat} (h : kx_Sh x w n nb z) {f w' : Nat} {g : Nat → Int32} (hf : f ≠ 30 ∧ f ≠ 31 ∧ f ≠ 20) : kx_Sh (bd_ro x f w' g) w n nb z := by
  refine kx_Sh_of h (if_neg (fun q => ?_)) (if_neg (fun q => ?_)) (fun b => if_neg (fun q => ?_))
  · exact hf.1 q.1.symm
  · exact hf.2.1 q.1.symm
  · exact hf.2.2 q.1.symm
theorem kx_c1_sh {x : bd_M} {w n nb : Nat} {z : Nat → Nat} (h : kx_Sh x w n nb z) {f w' k w2 k2 : Nat} (hf : f ≠ 30 ∧ f ≠ 31 ∧ f ≠ 20) : kx_Sh (kx_c1 x f w' k w2 k2) w n nb z := kx_Sh_up h hf
theorem kx_ccopy_sh {x : bd_M} {w n nb : Nat} {z : Nat → Nat} (h : kx_Sh x w n nb z) {w' k w2 k2 : Nat} : kx_Sh (kx_ccopy x w' k w2 k2) w n nb z := kx_c1_sh (kx_c1_sh (kx_c1_sh h (by decide)) (by decide)) (by decide)
def kx_pcopy (x : bd_M) (w k w2 k2 : Nat) : bd_M := kx_c1 (kx_c1 (kx_c1 (kx_c1 (kx_c1 (kx_c1 (bd_sk x w k (va_cpy (fun j => x (j + 1000) w2 k2) (fun j => x (j + 1000) w k) 0 0 4)) 0 w k w2 k2) 1 w k w2 k2) 2 w k w2 k2) 3 w k w2 k2) 4 w k w2 k2) 5 w k w2 k2
theorem kx_pcopy_sh {x : bd_M} {w n nb : Nat} {z : Nat → Nat} (h : kx_Sh x w n nb z) {w' k w2 k2 : Nat} : kx_Sh (kx_pcopy x w' k w2 k2) w n nb z := kx_c1_sh (kx_c1_sh (kx_c1_sh (kx_c1_sh (kx_c1_sh (kx_c1_sh (kx_Sh_sk h) (by decide)) (by decide)) (by decide)) (by decide)) (by decide)) (by decide)
-- bands
def kx_mem (x : bd_M) (w b : Nat) : Nat → Int32
  | 0 => 0
  | i + 1 => if x 11 w (8 * b + i) = (-1) then kx_mem x w b i else kx_mem x w b i + 1
def kx_owns (x : bd_M) (w b : Nat) : Nat → Int32
  | 0 => 0
  | i + 1 => if kx_own x w (8 * b + i) then kx_owns x w b i + 1 else kx_owns x w b i
def kx_deps (x : bd_M) (w b : Nat) : Nat → Int32
  | 0 => 0
  | i + 1 => if kx_dep x w (8 * b + i) then kx_deps x w b i + 1 else kx_deps x w b i
def kx_emps (x : bd_M) (w b : Nat) : Nat → Int32
  | 0 => 0
  | i + 1 => if x 12 w (8 * b + i) = (-1) then kx_emps x w b i + 1 else kx_emps x w b i
def kx_btell (x : bd_M) (w b zb : Nat) (q : Int32) : Int32 := if q = 0 then nI zb else if q = 1 then kx_mem x w b zb else if q = 2 then x 21 w b else if q = 3 then x 22 w b else if q = 4 then x 23 w b else if q = 5 then x 24 w b else if q = 6 then x 25 w b else if q = 7 then x 26 w b else x 27 w b
def kx_outlook (x : bd_M) (w b : Nat) (q : Int32) : Int32 := if q = 0 then x 22 w b else if q = 1 then x 23 w b else if q = 2 then x 24 w b else x 26 w b
def kx_raise (x : bd_M) (w b : Nat) (v : Int32) : bd_M := bd_up x 21 w b (bd_mx 0 (bd_mn 50 (x 21 w b + v)))
def kx_bcL (x : bd_M) (w b w2 b2 : Nat) : Nat → bd_M
  | 0 => x
  | i + 1 => kx_ccopy (kx_bcL x w b w2 b2 i) w (8 * b + i) w2 (8 * b2 + i)
def kx_bcopy (x : bd_M) (w b w2 b2 zb : Nat) : bd_M := kx_c1 (kx_c1 (kx_c1 (kx_c1 (kx_c1 (kx_c1 (kx_c1 (kx_bcL (bd_up x 20 w b (nI zb)) w b w2 b2 zb) 21 w b w2 b2) 22 w b w2 b2) 23 w b w2 b2) 24 w b w2 b2) 25 w b w2 b2) 26 w b w2 b2) 27 w b w2 b2
/-- the digits' tens gone j times -/
def kx_dv (d : Int32) : Nat → Int32
  | 0 => d
  | j + 1 => kx_dv d j / 10
def kx_fu (x : bd_M) (w b q : Nat) (d : Int32) : Nat → bd_M
  | 0 => bd_up x 20 w b (nI q)
  | j + 1 => bd_up (kx_fu x w b q d j) 10 w (8 * b + (q - 1 - j)) (kx_dv d j - kx_dv d j / 10 * 10 - 1)
-- the season
abbrev kx_chOk (nb : Nat) (z : Nat → Nat) (b s : Int32) : Prop := (¬ b < 0 ∧ b < nI nb) ∧ ¬ s < 0 ∧ s < nI (z b.toNatClampNeg)
def kx_hard (x : bd_M) (w : Nat) (i : Int32) : Int32 := if i < 0 then 0 else if 4 ≤ i then 0 else x 35 w i.toNatClampNeg
def kx_wt (x : bd_M) (w : Nat) (i : Int32) : Int32 := if i < 0 then 0 else if 4 ≤ i then 0 else x 36 w i.toNatClampNeg
def kx_enrol (x : bd_M) (w n : Nat) (a b c d : Int32) : bd_M := bd_up (bd_up (bd_up (bd_up (bd_up x 1000 w n a) 1001 w n b) 1002 w n c) 1003 w n d) 30 w 0 (nI (n + 1))
def kx_open (x : bd_M) (w nb q : Nat) (d : Int32) : bd_M := bd_up (kx_fu x w nb q d q) 31 w 0 (nI (nb + 1))
def kx_off (x : bd_M) (w nb : Nat) (z : Nat → Nat) (k : Nat) : bd_M := if kx_chOk nb z (x 2 w k) (x 3 w k) then bd_up x 11 w (8 * (x 2 w k).toNatClampNeg + (x 3 w k).toNatClampNeg) (-1) else x
def kx_leave (x : bd_M) (w n nb : Nat) (z : Nat → Nat) (v : Int32) : bd_M := if ¬ v < 0 ∧ v < nI n then bd_up (bd_up (kx_off x w nb z v.toNatClampNeg) 2 w v.toNatClampNeg (-1)) 3 w v.toNatClampNeg (-1) else x
def kx_putOn (x : bd_M) (w n b s : Nat) (v : Int32) : bd_M := if ¬ v < 0 ∧ v < nI n then bd_up (bd_up (bd_up x 11 w (8 * b + s) v) 2 w v.toNatClampNeg (nI b)) 3 w v.toNatClampNeg (nI s) else bd_up x 11 w (8 * b + s) v
def kx_swap (x : bd_M) (w n b s t : Nat) : bd_M := kx_putOn (kx_putOn x w n b s (x 11 w (8 * b + t))) w n b t (x 11 w (8 * b + s))
def kx_tm1 (y : bd_M) (w n : Nat) (m v : Int32) : bd_M := if ¬ m < 0 ∧ m < nI n then (if y 1 w m.toNatClampNeg = 0 then kx_tire y w m.toNatClampNeg v else y) else y
def kx_tm (x : bd_M) (w n b : Nat) (v : Int32) : Nat → bd_M
  | 0 => x
  | i + 1 => kx_tm1 (kx_tm x w n b v i) w n (kx_tm x w n b v i 11 w (8 * b + i)) v
def kx_mia (x : bd_M) (w : Nat) (z : Nat → Nat) : Nat → Int32
  | 0 => 0
  | b + 1 => kx_mia x w z b + kx_mem x w b (z b)
def kx_aia (x : bd_M) (w : Nat) : Nat → Int32
  | 0 => 0
  | p + 1 => if x 1 w p = 0 then kx_aia x w p else kx_aia x w p + 1
def kx_stell (x : bd_M) (w n nb : Nat) (z : Nat → Nat) (q : Int32) : Int32 := if q = 0 then x 32 w 0 else if q = 1 then nI n else if q = 2 then nI nb else if q = 3 then kx_mia x w z nb else if q = 4 then kx_aia x w n else if q = 5 then x 33 w 0 else x 34 w 0
def kx_abp (x : bd_M) (w i : Nat) : Nat → Int32
  | 0 => 0
  | j + 1 => if x 26 w i < x 26 w j then kx_abp x w i j + 1 else if x 26 w j = x 26 w i then (if nI i ≤ nI j then kx_abp x w i j else kx_abp x w i j + 1) else kx_abp x w i j
def kx_bbp (x : bd_M) (w nb : Nat) (v : Int32) : Nat → Nat → Int32
  | 0, _ => (-1)
  | f + 1, i => if kx_abp x w i nb = v then nI i else kx_bbp x w nb v f (i + 1)
def kx_bf (x : bd_M) (w : Nat) (v : Int32) : Nat → Int32 × Int32
  | 0 => ((-1), (-1))
  | p + 1 => if x 2 w p = (-1) then (if x 1 w p = 0 then (if kx_skill x w p v ≤ (kx_bf x w v p).2 then kx_bf x w v p else (nI p, kx_skill x w p v)) else kx_bf x w v p) else kx_bf x w v p
def kx_d1 (x : bd_M) (w n nb : Nat) (z : Nat → Nat) : Nat → Int64
  | 0 => 613
  | i + 1 => kx_d1 x w n nb z i * 31 + (kx_stell x w n nb z (nI i)).toInt64
def kx_d2 (d : Int64) (x : bd_M) (w : Nat) : Nat → Int64
  | 0 => d
  | i + 1 => (kx_d2 d x w i * 31 + (x 35 w i).toInt64) * 31 + (x 36 w i).toInt64
def kx_d3i (d : Int64) (x : bd_M) (w p : Nat) : Nat → Int64
  | 0 => d
  | q + 1 => kx_d3i d x w p q * 31 + (kx_ptell x w p (nI q)).toInt64
def kx_d3 (d : Int64) (x : bd_M) (w : Nat) : Nat → Int64
  | 0 => d
  | p + 1 => kx_d3i (kx_d3 d x w p) x w p 10
def kx_w1 (d : Int64) (x : bd_M) (w b zb : Nat) : Nat → Int64
  | 0 => d
  | q + 1 => kx_w1 d x w b zb q * 31 + (kx_btell x w b zb (nI q)).toInt64
def kx_w2i (d : Int64) (x : bd_M) (w k : Nat) : Nat → Int64
  | 0 => d
  | q + 1 => kx_w2i d x w k q * 31 + (kx_ctell x w k (nI q)).toInt64
def kx_w2 (d : Int64) (x : bd_M) (w b : Nat) : Nat → Int64
  | 0 => d
  | i + 1 => kx_w2i (kx_w2 d x w b i) x w (8 * b + i) 3
def kx_wb (d : Int64) (x : bd_M) (w b zb : Nat) : Int64 := kx_w2 (kx_w1 d x w b zb 9) x w b zb
def kx_d4 (d : Int64) (x : bd_M) (w : Nat) (z : Nat → Nat) : Nat → Int64
  | 0 => d
  | b + 1 => kx_wb (kx_d4 d x w z b) x w b (z b)
def kx_sum (x : bd_M) (w n nb : Nat) (z : Nat → Nat) : Int64 := kx_d4 (kx_d3 (kx_d2 (kx_d1 x w n nb z 7) x w 4) x w n) x w z nb
-- shapes stay
theorem kx_bcL_sh {x : bd_M} {w n nb : Nat} {z : Nat → Nat} (h : kx_Sh x w n nb z) {w' b w2 b2 : Nat} : ∀ i, kx_Sh (kx_bcL x w' b w2 b2 i) w n nb z
  | 0 => h
  | i + 1 => kx_ccopy_sh (kx_bcL_sh h i)
theorem kx_off_sh {x : bd_M} {w n nb : Nat} {z : Nat → Nat} (h : kx_Sh x w n nb z) {w' nb' k : Nat} {z' : Nat → Nat} : kx_Sh (kx_off x w' nb' z' k) w n nb z := by
  unfold kx_off
  split
  · exact kx_Sh_up h (by decide)
  · exact h
theorem kx_leave_sh {x : bd_M} {w n nb : Nat} {z : Nat → Nat} (h : kx_Sh x w n nb z) {w' n' nb' : Nat} {z' : Nat → Nat} {v : Int32} : kx_Sh (kx_leave x w' n' nb' z' v) w n nb z := by
  unfold kx_leave
  split
  · exact kx_Sh_up (kx_Sh_up (kx_off_sh h) (by decide)) (by decide)
  · exact h
theorem kx_putOn_sh {x : bd_M} {w n nb : Nat} {z : Nat → Nat} (h : kx_Sh x w n nb z) {w' n' b s : Nat} {v : Int32} : kx_Sh (kx_putOn x w' n' b s v) w n nb z := by
  unfold kx_putOn
  split
  · exact kx_Sh_up (kx_Sh_up (kx_Sh_up h (by decide)) (by decide)) (by decide)
  · exact kx_Sh_up h (by decide)
theorem kx_swap_sh {x : bd_M} {w n nb : Nat} {z : Nat → Nat} (h : kx_Sh x w n nb z) {w' n' b s t : Nat} : kx_Sh (kx_swap x w' n' b s t) w n nb z := kx_putOn_sh (kx_putOn_sh h)
theorem kx_tire_sh {x : bd_M} {w n nb : Nat} {z : Nat → Nat} (h : kx_Sh x w n nb z) {w' k : Nat} {v : Int32} : kx_Sh (kx_tire x w' k v) w n nb z := kx_Sh_up h (by decide)
theorem kx_rest_sh {x : bd_M} {w n nb : Nat} {z : Nat → Nat} (h : kx_Sh x w n nb z) {w' k : Nat} {v : Int32} : kx_Sh (kx_rest x w' k v) w n nb z := kx_Sh_up h (by decide)
theorem kx_raise_sh {x : bd_M} {w n nb : Nat} {z : Nat → Nat} (h : kx_Sh x w n nb z) {w' k : Nat} {v : Int32} : kx_Sh (kx_raise x w' k v) w n nb z := kx_Sh_up h (by decide)
theorem kx_tm1_sh {x : bd_M} {w n nb : Nat} {z : Nat → Nat} (h : kx_Sh x w n nb z) {w' n' : Nat} {m v : Int32} : kx_Sh (kx_tm1 x w' n' m v) w n nb z := by
  unfold kx_tm1
  split
  · split
    · exact kx_tire_sh h
    · exact h
  · exact h
theorem kx_tm_sh {x : bd_M} {w n nb : Nat} {z : Nat → Nat} (h : kx_Sh x w n nb z) {w' n' b : Nat} {v : Int32} : ∀ i, kx_Sh (kx_tm x w' n' b v i) w n nb z
  | 0 => h
  | i + 1 => kx_tm1_sh (kx_tm_sh h i)
theorem kx_Sh_w {x : bd_M} {w n nb : Nat} {z : Nat → Nat} (h : kx_Sh x w n nb z) {f w' k : Nat} {v : Int32} (hne : w ≠ w') : kx_Sh (bd_up x f w' k v) w n nb z := kx_Sh_of h (bd_up_n (fun q => hne q.2.1)) (bd_up_n (fun q => hne q.2.1)) (fun b => bd_up_n (fun q => hne q.2.1))
theorem kx_bcopy_sh {x : bd_M} {w n nb : Nat} {z : Nat → Nat} (h : kx_Sh x w n nb z) {w' b w2 b2 zb : Nat} (hne : w ≠ w') : kx_Sh (kx_bcopy x w' b w2 b2 zb) w n nb z := kx_c1_sh (kx_c1_sh (kx_c1_sh (kx_c1_sh (kx_c1_sh (kx_c1_sh (kx_c1_sh (kx_bcL_sh (kx_Sh_w h hne) zb) (by decide)) (by decide)) (by decide)) (by decide)) (by decide)) (by decide)) (by decide)
theorem kx_bcL_f {x : bd_M} {w b w2 b2 f w' k' : Nat} (h1 : f ≠ 10) (h2 : f ≠ 11) (h3 : f ≠ 12) : ∀ i, kx_bcL x w b w2 b2 i f w' k' = x f w' k'
  | 0 => rfl
  | i + 1 => by
    rw [kx_bcL, kx_ccopy, kx_c1, bd_up_f h3, kx_c1, bd_up_f h2, kx_c1, bd_up_f h1]
    exact kx_bcL_f h1 h2 h3 i
def kx_rc (x : bd_M) (f w w2 : Nat) : bd_M := bd_ro x f w (va_cpy (fun j => x f w2 j) (fun j => x f w j) 0 0 4)
def kx_scP (x : bd_M) (w w2 : Nat) : Nat → bd_M
  | 0 => x
  | i + 1 => kx_pcopy (kx_scP x w w2 i) w i w2 i
def kx_scB (x : bd_M) (w w2 : Nat) (z : Nat → Nat) : Nat → bd_M
  | 0 => x
  | i + 1 => kx_bcopy (kx_scB x w w2 z i) w i w2 i (z i)
def kx_scopy (x : bd_M) (w w2 n nb : Nat) (z : Nat → Nat) : bd_M := kx_c1 (kx_c1 (kx_c1 (kx_rc (kx_rc (kx_scB (bd_up (kx_scP (bd_up x 30 w 0 (nI n)) w w2 n) 31 w 0 (nI nb)) w w2 z nb) 35 w w2) 36 w w2) 32 w 0 w2 0) 33 w 0 w2 0) 34 w 0 w2 0
theorem kx_scP_sh {x : bd_M} {w n nb : Nat} {z : Nat → Nat} (h : kx_Sh x w n nb z) {w' w2 : Nat} : ∀ i, kx_Sh (kx_scP x w' w2 i) w n nb z
  | 0 => h
  | i + 1 => kx_pcopy_sh (kx_scP_sh h i)
theorem kx_scB_sh {x : bd_M} {w n nb : Nat} {z : Nat → Nat} (h : kx_Sh x w n nb z) {w' w2 : Nat} {z' : Nat → Nat} (hne : w ≠ w') : ∀ i, kx_Sh (kx_scB x w' w2 z' i) w n nb z
  | 0 => h
  | i + 1 => kx_bcopy_sh (kx_scB_sh h hne i) hne
theorem kx_pcopy_f {x : bd_M} {w k w2 k2 f w' k' : Nat} (h : 5 < f) (h2 : f < 1000) : kx_pcopy x w k w2 k2 f w' k' = x f w' k' := by
  simp only [kx_pcopy, kx_c1]
  repeat rw [bd_up_f (by omega)]
  exact if_neg (fun q => by omega)
theorem kx_scP_f {x : bd_M} {w w2 f w' k' : Nat} (h : 5 < f) (h2 : f < 1000) : ∀ i, kx_scP x w w2 i f w' k' = x f w' k'
  | 0 => rfl
  | i + 1 => by rw [kx_scP, kx_pcopy_f h h2]; exact kx_scP_f h h2 i
theorem kx_bcopy_f {x : bd_M} {w b w2 b2 zb f w' k' : Nat} (h : 27 < f) : kx_bcopy x w b w2 b2 zb f w' k' = x f w' k' := by
  simp only [kx_bcopy, kx_c1]
  repeat rw [bd_up_f (by omega)]
  rw [kx_bcL_f (by omega) (by omega) (by omega), bd_up_f (by omega)]
theorem kx_scB_f {x : bd_M} {w w2 f w' k' : Nat} {z : Nat → Nat} (h : 27 < f) : ∀ i, kx_scB x w w2 z i f w' k' = x f w' k'
  | 0 => rfl
  | i + 1 => by rw [kx_scB, kx_bcopy_f h]; exact kx_scB_f h i
-- counting down
theorem bd_dn1 {q j : Nat} (h : j < q) : nI (q - j) - 1 = nI (q - 1 - j) := by
  rw [show q - j = (q - 1 - j) + 1 by omega, nI_pred]
theorem bd_dnT {q j : Nat} (h : nI (q - j) - 1 < 0) (hj : j ≤ q) (hq : q ≤ 8) : ¬ j < q := fun h2 => by
  rw [bd_dn1 h2] at h
  exact nI_pos (by omega) h
theorem bd_dnF {q j : Nat} (h : ¬ nI (q - j) - 1 < 0) (hj : j ≤ q) : j < q := by
  rcases Nat.lt_or_ge j q with h2 | h2
  · exact h2
  · exfalso
    apply h
    rw [show q - j = 0 by omega]
    decide
theorem bd_dn2 {q j : Nat} (h : j < q) : nI (q - j) - 1 + (-1) = nI (q - (j + 1)) - 1 := by
  rw [bd_dn1 h, show q - 1 - j = q - (j + 1) by omega, Int32.sub_eq_add_neg]
theorem bd_mn8 {q : Nat} (h : q ≤ 8) : bd_mn (nI q) 8 = nI q := if_neg (fun h2 => absurd ((nI_ltI (a := 8) (b := q) (by omega) (by omega)).mp h2) (by omega))
theorem kx_fu_f {x : bd_M} {w b q f w' k' : Nat} {d : Int32} (h1 : f ≠ 20) (h2 : f ≠ 10) : ∀ j, kx_fu x w b q d j f w' k' = x f w' k'
  | 0 => bd_up_f h1
  | j + 1 => by rw [kx_fu, bd_up_f h2]; exact kx_fu_f h1 h2 j
theorem kx_chB {nb : Nat} {z : Nat → Nat} {b s : Int32} {x : bd_M} {w n : Nat} (hs : kx_Sh x w n nb z) (h : kx_chOk nb z b s) : b.toNatClampNeg < nb ∧ s.toNatClampNeg < z b.toNatClampNeg ∧ z b.toNatClampNeg ≤ 8 := by
  have h6 := hs.2.2.2.1
  have h1 := bd_tnl h.1.1 h.1.2 (by omega)
  have h8 := (hs.2.2.2.2 b.toNatClampNeg (by omega)).2
  exact ⟨h1, bd_tnl h.2.1 h.2.2 (by omega), h8⟩
