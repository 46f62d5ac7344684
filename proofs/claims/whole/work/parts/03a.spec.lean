/-! WHAT THE CLASS'S METHODS DO, over its memory: the Java text, line by line -/
/-- a season's counts: n players, nb bands, z b seats of band b -/
def kx_Sh (x : bd_M) (w n nb : Nat) (z : Nat → Nat) : Prop := x 30 w 0 = nI n ∧ n ≤ 24 ∧ x 31 w 0 = nI nb ∧ nb ≤ 6 ∧ ∀ b, b < 6 → x 20 w b = nI (z b) ∧ z b ≤ 8
theorem kx_Sh_up {x : bd_M} {w n nb : Nat} {z : Nat → Nat} (h : kx_Sh x w n nb z) {f w' k : Nat} {v : Int32} (hf : f ≠ 30 ∧ f ≠ 31 ∧ f ≠ 20) : kx_Sh (bd_up x f w' k v) w n nb z := by
  obtain ⟨h1, h2, h3, h4, h5⟩ := h
  refine ⟨?_, h2, ?_, h4, fun b hb => ⟨?_, (h5 b hb).2⟩⟩
  · rw [bd_up_f (Ne.symm hf.1)]; exact h1
  · rw [bd_up_f (Ne.symm hf.2.1)]; exact h3
  · rw [bd_up_f (Ne.symm hf.2.2)]; exact (h5 b hb).1
def kx_skill (x : bd_M) (w k : Nat) (i : Int32) : Int32 := if i < 0 then 0 else if 4 ≤ i then 0 else x (i.toNatClampNeg + 1000) w k
abbrev kx_may (x : bd_M) (w k : Nat) : Prop := x 1 w k = 0 ∧ x 7 w k = 0 ∧ ¬ 1 < x 6 w k
def kx_tire (x : bd_M) (w k : Nat) (v : Int32) : bd_M := bd_up x 0 w k (bd_mn 100 (x 0 w k + v))
def kx_rest (x : bd_M) (w k : Nat) (v : Int32) : bd_M := bd_up x 0 w k (bd_mx 0 (x 0 w k - v))
def kx_ptell (x : bd_M) (w k : Nat) (q : Int32) : Int32 := if q = 4 then x 0 w k else if q = 5 then x 1 w k else if q = 6 then x 2 w k else if q = 7 then x 3 w k else if q = 8 then x 4 w k else if q = 9 then x 5 w k else kx_skill x w k q
abbrev kx_own (x : bd_M) (w k : Nat) : Prop := ¬ x 12 w k = (-1) ∧ x 12 w k = x 11 w k
abbrev kx_dep (x : bd_M) (w k : Nat) : Prop := ¬ x 12 w k = (-1) ∧ ¬ x 12 w k = x 11 w k
def kx_ctell (x : bd_M) (w k : Nat) (q : Int32) : Int32 := if q = 0 then x 10 w k else if q = 1 then x 11 w k else x 12 w k
def kx_ccopy (x : bd_M) (w k w2 k2 : Nat) : bd_M := bd_up (bd_up (bd_up x 10 w k (x 10 w2 k2)) 11 w k (bd_up x 10 w k (x 10 w2 k2) 11 w2 k2)) 12 w k (bd_up (bd_up x 10 w k (x 10 w2 k2)) 11 w k (bd_up x 10 w k (x 10 w2 k2) 11 w2 k2) 12 w2 k2)
