/-! THE MEANS, as functions of the memories; the end of a method that answers a double -/
def kx_mS (x : bd_M) (w : Nat) : Nat → Int32
  | 0 => 0
  | j + 1 => if x 22 w j = (-1) then kx_mS x w j else kx_mS x w j + x 22 w j
def kx_mC (x : bd_M) (w : Nat) : Nat → Nat
  | 0 => 0
  | j + 1 => if x 22 w j = (-1) then kx_mC x w j else kx_mC x w j + 1
theorem kx_mC_le {x : bd_M} {w : Nat} : ∀ j, kx_mC x w j ≤ j
  | 0 => Nat.le_refl _
  | j + 1 => by
    have h := kx_mC_le (x := x) (w := w) j
    rw [kx_mC]
    split
    · omega
    · omega
def ry_mS (y : bd_M) : Nat → Int32
  | 0 => 0
  | j + 1 => if y 28 0 (4 * j) = (-1) then ry_mS y j else ry_mS y j + y 28 0 (4 * j)
def ry_mC (y : bd_M) : Nat → Nat
  | 0 => 0
  | j + 1 => if y 28 0 (4 * j) = (-1) then ry_mC y j else ry_mC y j + 1
theorem ry_mC_le {y : bd_M} : ∀ j, ry_mC y j ≤ j
  | 0 => Nat.le_refl _
  | j + 1 => by
    have h := ry_mC_le (y := y) j
    rw [ry_mC]
    split
    · omega
    · omega
def bd_mean (a : Int32) (n : Nat) : UInt64 := if n = 0 then FP.dconst0 else FP.ddiv (FP.i2d a) (FP.i2d (nI n))
section BDD
variable {p : Program} {l : Launch} {e : Env} {R : Room} {s : State} {m : MethodId} {args : Array Value} {below : List Frame} {meth : Method} {c : Code} {H : Heap} {locs : List Loc} {cells slots mc ms : Nat}
variable {cc : ByteArray} {pc nL : Nat} {ls : Array Slot} {E : bd_E} {xm ym : bd_M} {om : Nat → Int64} {own : String}
theorem bd_rd (C : bd_Cx E p m c cc nL s args own) (hr : meth.sig.returnType = some .double) (hlk : meth.locks = false) (hR : bd_Rep E xm ym om H) (hS : va_S (bd_A E) s.heap H locs) (hc : cells ≤ mc) (hs : slots ≤ ms) (hdg : decode cc pc = .ok (.dreturn, 1)) {v v' : UInt64} (hv : v' = v) : W p l e R s m args below meth c H locs cells slots (MQ below (bd_Q E xm ym om (some (.double v))) args s mc ms (bd_A E)) (F0 m pc ls [.double v']) := by
  subst hv
  refine W.widen hc hs ?_
  exact W.dret C.1.1 C.1.2.1 hr (fun t ht _ => ⟨⟨rfl, by rw [ht]; exact hR⟩, hS.F ht⟩) hS.2.2 hdg hlk
end BDD
