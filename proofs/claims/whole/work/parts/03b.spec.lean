/-! WHAT A CONTEST DOES, over the class's memory, line by line -/
def kx_fd (x : bd_M) (w : Nat) : Nat → bd_M
  | 0 => x
  | i + 1 => bd_up (kx_fd x w i) 6 w i 0
def kx_ns (x : bd_M) (w : Nat) : Nat → bd_M
  | 0 => x
  | i + 1 => bd_up (kx_ns x w i) 7 w i 0
def kx_sm1 (y : bd_M) (w n k : Nat) : bd_M := if ¬ y 11 w k < 0 ∧ y 11 w k < nI n then (if bd_up y 12 w k (-1) 1 w (y 11 w k).toNatClampNeg = 0 then bd_up (bd_up (bd_up y 12 w k (-1)) 12 w k (bd_up y 12 w k (-1) 11 w k)) 7 w (y 11 w k).toNatClampNeg 1 else bd_up y 12 w k (-1)) else bd_up y 12 w k (-1)
def kx_sm (x : bd_M) (w n b : Nat) : Nat → bd_M
  | 0 => x
  | i + 1 => kx_sm1 (kx_sm x w n b i) w n (8 * b + i)
def kx_lim (x : bd_M) (w n k : Nat) : Int32 := if ¬ x 11 w k < 0 ∧ x 11 w k < nI n then kx_skill x w (x 11 w k).toNatClampNeg (x 10 w k) + 1 else 5
def kx_df (x : bd_M) (w k : Nat) (lim : Int32) : Nat → Int32 × Int32 × Int32
  | 0 => ((-1), (-1), 0)
  | p + 1 => if kx_may x w p then (if lim < kx_skill x w p (x 10 w k) then kx_df x w k lim p else (if (kx_df x w k lim p).2.1 < kx_skill x w p (x 10 w k) then (nI p, kx_skill x w p (x 10 w k), x 0 w p) else if kx_skill x w p (x 10 w k) = (kx_df x w k lim p).2.1 then (if (kx_df x w k lim p).2.2 ≤ x 0 w p then kx_df x w k lim p else (nI p, kx_skill x w p (x 10 w k), x 0 w p)) else kx_df x w k lim p)) else kx_df x w k lim p
def kx_who (x : bd_M) (w n k : Nat) : Int32 := (kx_df x w k (kx_lim x w n k) n).1
def kx_sd2 (y : bd_M) (w n k : Nat) : bd_M := if ¬ y 12 w k < 0 ∧ y 12 w k < nI n then bd_up y 7 w (y 12 w k).toNatClampNeg 1 else y
def kx_sd1 (y : bd_M) (w n k : Nat) : bd_M := if y 12 w k = (-1) then kx_sd2 (bd_up y 12 w k (kx_who y w n k)) w n k else y
def kx_sd (x : bd_M) (w n b : Nat) : Nat → bd_M
  | 0 => x
  | i + 1 => kx_sd1 (kx_sd x w n b i) w n (8 * b + i)
def kx_mf (x : bd_M) (w p : Nat) (v : Int32) : Int32 := bd_mx 0 (10 + kx_skill x w p v - kx_hard x w v - x 0 w p / 20) * kx_wt x w v
def kx_ms1 (x : bd_M) (w n k : Nat) (a : Int32) : Int32 := if ¬ x 12 w k < 0 ∧ x 12 w k < nI n then a + kx_mf x w (x 12 w k).toNatClampNeg (x 10 w k) else a + (-5)
def kx_ms (x : bd_M) (w n b : Nat) : Nat → Int32
  | 0 => x 21 w b / 5
  | i + 1 => if kx_own x w (8 * b + i) then kx_ms1 x w n (8 * b + i) (kx_ms x w n b i) + 1 else kx_ms1 x w n (8 * b + i) (kx_ms x w n b i)
def kx_seat (x : bd_M) (w n b zb : Nat) : bd_M := kx_sd (kx_sm (kx_ns x w n) w n b zb) w n b zb
def kx_mo (y : bd_M) (w n b zb : Nat) : Int32 := if ¬ kx_deps y w b zb ≤ 3 then 0 else bd_mx 0 (kx_ms y w n b zb)
def kx_no2 (y : bd_M) (w k p : Nat) : bd_M := if kx_dep y w k then bd_up (bd_up y 5 w p (y 5 w p + 1)) 6 w p (bd_up y 5 w p (y 5 w p + 1) 6 w p + 1) else y
def kx_no1 (y : bd_M) (w n k : Nat) : bd_M := if ¬ y 12 w k < 0 ∧ y 12 w k < nI n then kx_no2 (bd_up y 4 w (y 12 w k).toNatClampNeg (y 4 w (y 12 w k).toNatClampNeg + 1)) w k (y 12 w k).toNatClampNeg else y
def kx_no (x : bd_M) (w n b : Nat) : Nat → bd_M
  | 0 => x
  | i + 1 => kx_no1 (kx_no x w n b i) w n (8 * b + i)
def kx_ml (x : bd_M) (w : Nat) : Nat → bd_M
  | 0 => x
  | i + 1 => if kx_ml x w i 7 w i = 0 then kx_rest (kx_ml x w i) w i 10 else kx_tire (kx_ml x w i) w i 15
def kx_p1 (x : bd_M) (w n b zb : Nat) : bd_M := bd_up (kx_seat x w n b zb) 22 w b (kx_mo (kx_seat x w n b zb) w n b zb)
def kx_p2 (y : bd_M) (w b zb : Nat) : bd_M := bd_up y 24 w b (kx_deps y w b zb)
def kx_p3 (y : bd_M) (w b zb : Nat) : bd_M := bd_up y 25 w b (kx_emps y w b zb)
def kx_p4 (y : bd_M) (w b zb : Nat) : bd_M := if ¬ kx_deps y w b zb ≤ 3 then bd_up y 27 w b (y 27 w b + 1) else y
def kx_p5 (y : bd_M) (w b : Nat) : bd_M := bd_up y 33 w 0 (y 33 w 0 + y 24 w b)
def kx_p6 (y : bd_M) (w b : Nat) : bd_M := bd_up y 34 w 0 (y 34 w 0 + y 25 w b)
def kx_play (x : bd_M) (w n b zb : Nat) : bd_M := kx_ml (kx_no (kx_p6 (kx_p5 (kx_p4 (kx_p3 (kx_p2 (kx_p1 x w n b zb) w b zb) w b zb) w b zb) w b) w b) w n b zb) w n
abbrev kx_tu (t nb i : Nat) : Nat := (t % nb + i) % nb
def kx_pl (x : bd_M) (w n nb : Nat) (z : Nat → Nat) (t : Nat) : Nat → bd_M
  | 0 => x
  | i + 1 => kx_play (kx_pl x w n nb z t i) w n (kx_tu t nb i) (z (kx_tu t nb i))
abbrev kx_ia (x : bd_M) (w i j : Nat) : Prop := if x 22 w i = x 22 w j then (if x 24 w i = x 24 w j then ¬ nI j ≤ nI i else ¬ x 24 w j ≤ x 24 w i) else ¬ x 22 w i ≤ x 22 w j
abbrev kx_bt (x : bd_M) (w i j : Nat) : Prop := if x 22 w j < x 22 w i then True else if x 22 w i = x 22 w j then ¬ x 24 w j ≤ x 24 w i else False
def kx_abm (x : bd_M) (w i : Nat) : Nat → Int32
  | 0 => 0
  | j + 1 => if kx_bt x w j i then kx_abm x w i j + 1 else if nI i ≤ nI j then kx_abm x w i j else if kx_bt x w i j then kx_abm x w i j else kx_abm x w i j + 1
def kx_pts (v : Int32) : Int32 := if v = 0 then 5 else if v = 1 then 3 else if v = 2 then 1 else 0
def kx_gp2 (y : bd_M) (w i : Nat) : bd_M := if y 22 w i ≤ 0 then y else bd_up y 26 w i (y 26 w i + kx_pts (y 23 w i))
def kx_gp (x : bd_M) (w nb : Nat) : Nat → bd_M
  | 0 => x
  | i + 1 => kx_gp2 (bd_up (kx_gp x w nb i) 23 w i (kx_abm (kx_gp x w nb i) w i nb)) w i
def kx_gw (x : bd_M) (w nb : Nat) : Nat → Int32
  | 0 => (-1)
  | i + 1 => if kx_gp x w nb (i + 1) 23 w i = 0 then nI i else kx_gw x w nb i
def kx_rl (x : bd_M) (w : Nat) (z : Nat → Nat) : Nat → bd_M
  | 0 => x
  | i + 1 => kx_raise (kx_rl x w z i) w i (kx_owns (kx_rl x w z i) w i (z i) - 2 * kx_deps (kx_rl x w z i) w i (z i))
def kx_ab (x : bd_M) (w : Nat) : Nat → bd_M
  | 0 => x
  | i + 1 => bd_up (kx_ab x w i) 1 w i (bd_mx 0 (kx_ab x w i 1 w i - 1))
def kx_h1 (x : bd_M) (w n nb : Nat) (z : Nat → Nat) (t : Nat) : bd_M := kx_pl (kx_fd x w n) w n nb z t nb
def kx_h4 (x : bd_M) (w n nb : Nat) (z : Nat → Nat) (t : Nat) : bd_M := kx_ab (kx_rl (kx_gp (kx_h1 x w n nb z t) w nb nb) w z nb) w n
def kx_hold (x : bd_M) (w n nb : Nat) (z : Nat → Nat) (t : Nat) : bd_M := bd_up (kx_h4 x w n nb z t) 32 w 0 (kx_h4 x w n nb z t 32 w 0 + 1)
def kx_ti (t nb b : Nat) : Nat → Nat → Nat
  | 0, i => i
  | f + 1, i => if kx_tu t nb i = b then i else kx_ti t nb b f (i + 1)
def kx_bi1 (s : bd_M × Int32 × Int32) (w n b zb a q : Nat) : bd_M × Int32 × Int32 := if kx_mo (kx_seat (kx_swap s.1 w n b a q) w n b zb) w n b zb ≤ s.2.1 then (kx_swap (kx_seat (kx_swap s.1 w n b a q) w n b zb) w n b a q, s.2.1, s.2.2) else (kx_swap (kx_seat (kx_swap s.1 w n b a q) w n b zb) w n b a q, kx_mo (kx_seat (kx_swap s.1 w n b a q) w n b zb) w n b zb, 8 * nI a + nI q)
def kx_bi (s : bd_M × Int32 × Int32) (w n b zb a : Nat) : Nat → bd_M × Int32 × Int32
  | 0 => s
  | j + 1 => if j ≤ a then kx_bi s w n b zb a j else kx_bi1 (kx_bi s w n b zb a j) w n b zb a j
def kx_bo (x : bd_M) (w n b zb : Nat) : Nat → bd_M × Int32 × Int32
  | 0 => (kx_seat x w n b zb, kx_mo (kx_seat x w n b zb) w n b zb, (-1))
  | a + 1 => kx_bi (kx_bo x w n b zb a) w n b zb a zb
theorem kx_bi_0 {s : bd_M × Int32 × Int32} {w n b zb a : Nat} : ∀ j, j ≤ a + 1 → kx_bi s w n b zb a j = s
  | 0, _ => rfl
  | j + 1, h => by rw [kx_bi, if_pos (by omega)]; exact kx_bi_0 j (by omega)
-- shapes stay
section KSH
variable {x : bd_M} {w n nb : Nat} {z : Nat → Nat}
theorem kx_fd_sh (h : kx_Sh x w n nb z) {w' : Nat} : ∀ i, kx_Sh (kx_fd x w' i) w n nb z
  | 0 => h
  | i + 1 => kx_Sh_up (kx_fd_sh h i) (by decide)
theorem kx_ns_sh (h : kx_Sh x w n nb z) {w' : Nat} : ∀ i, kx_Sh (kx_ns x w' i) w n nb z
  | 0 => h
  | i + 1 => kx_Sh_up (kx_ns_sh h i) (by decide)
theorem kx_sm1_sh (h : kx_Sh x w n nb z) {w' n' k : Nat} : kx_Sh (kx_sm1 x w' n' k) w n nb z := by
  unfold kx_sm1
  split
  · split
    · exact kx_Sh_up (kx_Sh_up (kx_Sh_up h (by decide)) (by decide)) (by decide)
    · exact kx_Sh_up h (by decide)
  · exact kx_Sh_up h (by decide)
theorem kx_sm_sh (h : kx_Sh x w n nb z) {w' n' b : Nat} : ∀ i, kx_Sh (kx_sm x w' n' b i) w n nb z
  | 0 => h
  | i + 1 => kx_sm1_sh (kx_sm_sh h i)
theorem kx_sd2_sh (h : kx_Sh x w n nb z) {w' n' k : Nat} : kx_Sh (kx_sd2 x w' n' k) w n nb z := by
  unfold kx_sd2
  split
  · exact kx_Sh_up h (by decide)
  · exact h
theorem kx_sd1_sh (h : kx_Sh x w n nb z) {w' n' k : Nat} : kx_Sh (kx_sd1 x w' n' k) w n nb z := by
  unfold kx_sd1
  split
  · exact kx_sd2_sh (kx_Sh_up h (by decide))
  · exact h
theorem kx_sd_sh (h : kx_Sh x w n nb z) {w' n' b : Nat} : ∀ i, kx_Sh (kx_sd x w' n' b i) w n nb z
  | 0 => h
  | i + 1 => kx_sd1_sh (kx_sd_sh h i)
theorem kx_seat_sh (h : kx_Sh x w n nb z) {w' n' b zb : Nat} : kx_Sh (kx_seat x w' n' b zb) w n nb z := kx_sd_sh (kx_sm_sh (kx_ns_sh h n') zb) zb
theorem kx_no2_sh (h : kx_Sh x w n nb z) {w' k p : Nat} : kx_Sh (kx_no2 x w' k p) w n nb z := by
  unfold kx_no2
  split
  · exact kx_Sh_up (kx_Sh_up h (by decide)) (by decide)
  · exact h
theorem kx_no1_sh (h : kx_Sh x w n nb z) {w' n' k : Nat} : kx_Sh (kx_no1 x w' n' k) w n nb z := by
  unfold kx_no1
  split
  · exact kx_no2_sh (kx_Sh_up h (by decide))
  · exact h
theorem kx_no_sh (h : kx_Sh x w n nb z) {w' n' b : Nat} : ∀ i, kx_Sh (kx_no x w' n' b i) w n nb z
  | 0 => h
  | i + 1 => kx_no1_sh (kx_no_sh h i)
theorem kx_ml_sh (h : kx_Sh x w n nb z) {w' : Nat} : ∀ i, kx_Sh (kx_ml x w' i) w n nb z
  | 0 => h
  | i + 1 => by
    unfold kx_ml
    split
    · exact kx_rest_sh (kx_ml_sh h i)
    · exact kx_tire_sh (kx_ml_sh h i)
theorem kx_p4_sh (h : kx_Sh x w n nb z) {w' b zb : Nat} : kx_Sh (kx_p4 x w' b zb) w n nb z := by
  unfold kx_p4
  split
  · exact kx_Sh_up h (by decide)
  · exact h
theorem kx_play_sh (h : kx_Sh x w n nb z) {w' n' b zb : Nat} : kx_Sh (kx_play x w' n' b zb) w n nb z := kx_ml_sh (kx_no_sh (kx_Sh_up (kx_Sh_up (kx_p4_sh (kx_Sh_up (kx_Sh_up (kx_Sh_up (kx_seat_sh h) (by decide)) (by decide)) (by decide))) (by decide)) (by decide)) zb) n'
theorem kx_pl_sh (h : kx_Sh x w n nb z) {w' n' nb' t : Nat} {z' : Nat → Nat} : ∀ i, kx_Sh (kx_pl x w' n' nb' z' t i) w n nb z
  | 0 => h
  | i + 1 => kx_play_sh (kx_pl_sh h i)
theorem kx_gp2_sh (h : kx_Sh x w n nb z) {w' i : Nat} : kx_Sh (kx_gp2 x w' i) w n nb z := by
  unfold kx_gp2
  split
  · exact h
  · exact kx_Sh_up h (by decide)
theorem kx_gp_sh (h : kx_Sh x w n nb z) {w' nb' : Nat} : ∀ i, kx_Sh (kx_gp x w' nb' i) w n nb z
  | 0 => h
  | i + 1 => kx_gp2_sh (kx_Sh_up (kx_gp_sh h i) (by decide))
theorem kx_rl_sh (h : kx_Sh x w n nb z) {w' : Nat} {z' : Nat → Nat} : ∀ i, kx_Sh (kx_rl x w' z' i) w n nb z
  | 0 => h
  | i + 1 => kx_raise_sh (kx_rl_sh h i)
theorem kx_ab_sh (h : kx_Sh x w n nb z) {w' : Nat} : ∀ i, kx_Sh (kx_ab x w' i) w n nb z
  | 0 => h
  | i + 1 => kx_Sh_up (kx_ab_sh h i) (by decide)
theorem kx_hold_sh (h : kx_Sh x w n nb z) {w' n' nb' t : Nat} {z' : Nat → Nat} : kx_Sh (kx_hold x w' n' nb' z' t) w n nb z := kx_Sh_up (kx_ab_sh (kx_rl_sh (kx_gp_sh (kx_pl_sh (kx_fd_sh h n') nb') nb') nb') n') (by decide)
theorem kx_bi1_sh {s : bd_M × Int32 × Int32} (h : kx_Sh s.1 w n nb z) {w' n' b zb a q : Nat} : kx_Sh (kx_bi1 s w' n' b zb a q).1 w n nb z := by
  unfold kx_bi1
  split <;> exact kx_swap_sh (kx_seat_sh (kx_swap_sh h))
theorem kx_bi_sh {s : bd_M × Int32 × Int32} (h : kx_Sh s.1 w n nb z) {w' n' b zb a : Nat} : ∀ j, kx_Sh (kx_bi s w' n' b zb a j).1 w n nb z
  | 0 => h
  | j + 1 => by
    rw [kx_bi]
    split
    · exact kx_bi_sh h j
    · exact kx_bi1_sh (kx_bi_sh h j)
theorem kx_bo_sh (h : kx_Sh x w n nb z) {w' n' b zb : Nat} : ∀ a, kx_Sh (kx_bo x w' n' b zb a).1 w n nb z
  | 0 => kx_seat_sh h
  | a + 1 => kx_bi_sh (kx_bo_sh h a) zb
end KSH
-- the number of contests stays while one is held
section KC
variable {x : bd_M} {w' k' : Nat}
theorem kx_fd_f {w f : Nat} (h : f ≠ 6) : ∀ i, kx_fd x w i f w' k' = x f w' k'
  | 0 => rfl
  | i + 1 => by rw [kx_fd, bd_up_f h]; exact kx_fd_f h i
theorem kx_ns_f {w f : Nat} (h : f ≠ 7) : ∀ i, kx_ns x w i f w' k' = x f w' k'
  | 0 => rfl
  | i + 1 => by rw [kx_ns, bd_up_f h]; exact kx_ns_f h i
theorem kx_sm1_f {w n k f : Nat} (h : f ≠ 7) (h2 : f ≠ 12) : kx_sm1 x w n k f w' k' = x f w' k' := by
  unfold kx_sm1
  split
  · split
    · rw [bd_up_f h, bd_up_f h2, bd_up_f h2]
    · rw [bd_up_f h2]
  · rw [bd_up_f h2]
theorem kx_sm_f {w n b f : Nat} (h : f ≠ 7) (h2 : f ≠ 12) : ∀ i, kx_sm x w n b i f w' k' = x f w' k'
  | 0 => rfl
  | i + 1 => by rw [kx_sm, kx_sm1_f h h2]; exact kx_sm_f h h2 i
theorem kx_sd1_f {w n k f : Nat} (h : f ≠ 7) (h2 : f ≠ 12) : kx_sd1 x w n k f w' k' = x f w' k' := by
  unfold kx_sd1 kx_sd2
  split
  · split
    · rw [bd_up_f h, bd_up_f h2]
    · rw [bd_up_f h2]
  · rfl
theorem kx_sd_f {w n b f : Nat} (h : f ≠ 7) (h2 : f ≠ 12) : ∀ i, kx_sd x w n b i f w' k' = x f w' k'
  | 0 => rfl
  | i + 1 => by rw [kx_sd, kx_sd1_f h h2]; exact kx_sd_f h h2 i
theorem kx_seat_f {w n b zb f : Nat} (h : f ≠ 7) (h2 : f ≠ 12) : kx_seat x w n b zb f w' k' = x f w' k' := by rw [kx_seat, kx_sd_f h h2, kx_sm_f h h2, kx_ns_f h]
theorem kx_no1_f {w n k f : Nat} (h : f ≠ 4) (h2 : f ≠ 5) (h3 : f ≠ 6) : kx_no1 x w n k f w' k' = x f w' k' := by
  unfold kx_no1 kx_no2
  split
  · split
    · rw [bd_up_f h3, bd_up_f h2, bd_up_f h]
    · rw [bd_up_f h]
  · rfl
theorem kx_no_f {w n b f : Nat} (h : f ≠ 4) (h2 : f ≠ 5) (h3 : f ≠ 6) : ∀ i, kx_no x w n b i f w' k' = x f w' k'
  | 0 => rfl
  | i + 1 => by rw [kx_no, kx_no1_f h h2 h3]; exact kx_no_f h h2 h3 i
theorem kx_ml_f {w f : Nat} (h : f ≠ 0) : ∀ i, kx_ml x w i f w' k' = x f w' k'
  | 0 => rfl
  | i + 1 => by
    rw [kx_ml]
    split
    · rw [kx_rest, bd_up_f h]; exact kx_ml_f h i
    · rw [kx_tire, bd_up_f h]; exact kx_ml_f h i
theorem kx_play_f {w n b zb f : Nat} (h : f = 32) : kx_play x w n b zb f w' k' = x f w' k' := by
  subst h
  rw [kx_play, kx_ml_f (by decide), kx_no_f (by decide) (by decide) (by decide), kx_p6, bd_up_f (by decide), kx_p5, bd_up_f (by decide), kx_p4]
  split
  · rw [bd_up_f (by decide), kx_p3, bd_up_f (by decide), kx_p2, bd_up_f (by decide), kx_p1, bd_up_f (by decide), kx_seat_f (by decide) (by decide)]
  · rw [kx_p3, bd_up_f (by decide), kx_p2, bd_up_f (by decide), kx_p1, bd_up_f (by decide), kx_seat_f (by decide) (by decide)]
theorem kx_pl_f {w n nb t : Nat} {z : Nat → Nat} : ∀ i, kx_pl x w n nb z t i 32 w' k' = x 32 w' k'
  | 0 => rfl
  | i + 1 => by rw [kx_pl, kx_play_f rfl]; exact kx_pl_f i
end KC
