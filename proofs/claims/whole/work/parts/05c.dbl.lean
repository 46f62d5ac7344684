/-! A MEAN IS NO NaN: an int by a small positive int -/
def bd_okD (d : FP.Core.Datum) : Prop := (∃ s, d = .inf s) ∨ ∃ s c q, d = .fin s c q ∧ c < 9007199254740992 ∧ q ≤ 971
theorem bd_ok_bound {s : Bool} {c : Nat} {q : Int} (hc : c < 9007199254740992) : bd_okD (FP.Core.bound FP.Core.b64 s c q) := by
  have e : FP.Core.b64.qmax = 971 := by decide
  unfold FP.Core.bound
  rw [e]
  split
  · rename_i h; exact Or.inr ⟨s, c, q, rfl, hc, h⟩
  · exact Or.inl ⟨s, rfl⟩
theorem bd_ok_settle {s : Bool} {c : Nat} {q : Int} : bd_okD (FP.Core.settle FP.Core.b64 s c q) := by
  have e : 2 ^ FP.Core.b64.p = 9007199254740992 := by decide
  unfold FP.Core.settle
  rw [e]
  split
  · rename_i h; exact bd_ok_bound h
  · exact bd_ok_bound (by decide)
theorem bd_ok_ratio {s : Bool} {num den : Nat} {e : Int} : bd_okD (FP.Core.roundRatio FP.Core.b64 s num den e) := by
  unfold FP.Core.roundRatio
  split
  · exact Or.inr ⟨s, 0, FP.Core.b64.qmin, rfl, by decide, by decide⟩
  · exact bd_ok_settle
theorem bd_enc {d : FP.Core.Datum} (h : bd_okD d) : ∃ sT E T : Nat, FP.Core.encode FP.Core.b64 d = (sT * 2048 + E) * 4503599627370496 + T ∧ sT ≤ 1 ∧ T < 4503599627370496 ∧ E ≤ 2047 ∧ (E = 2047 → T = 0) := by
  have hb : ∀ s : Bool, s.toNat ≤ 1 := by decide
  have et : FP.Core.b64.tails = 4503599627370496 := by decide
  have ee : FP.Core.b64.exps = 2048 := by decide
  have eq9 : FP.Core.b64.qmin = -1074 := by decide
  rcases h with ⟨s, rfl⟩ | ⟨s, c, q, rfl, hc, hq⟩
  · refine ⟨s.toNat, 2047, 0, ?_, hb s, by decide, by decide, fun _ => rfl⟩
    show FP.Core.assemble _ _ _ _ = _
    unfold FP.Core.assemble
    rw [et, ee]
  · unfold FP.Core.encode
    rw [et, eq9]
    show ∃ sT E T : Nat, (if c < 4503599627370496 then FP.Core.assemble FP.Core.b64 s 0 c else FP.Core.assemble FP.Core.b64 s ((q - (-1074)).toNat + 1) (c - 4503599627370496)) = _ ∧ _
    split
    · rename_i h
      refine ⟨s.toNat, 0, c, ?_, hb s, h, by decide, fun h9 => by omega⟩
      unfold FP.Core.assemble
      rw [et, ee]
    · refine ⟨s.toNat, (q - (-1074)).toNat + 1, c - 4503599627370496, ?_, hb s, by omega, by omega, fun h9 => by omega⟩
      unfold FP.Core.assemble
      rw [et, ee]
theorem bd_dec {n sT E T : Nat} (h : n = (sT * 2048 + E) * 4503599627370496 + T) (h1 : sT ≤ 1) (h2 : T < 4503599627370496) (h3 : E ≤ 2047) (h4 : E = 2047 → T = 0) : FP.Core.decode FP.Core.b64 n ≠ .nan := by
  have et : FP.Core.b64.tails = 4503599627370496 := by decide
  have ee : FP.Core.b64.exps = 2048 := by decide
  have hE : FP.Core.fieldE FP.Core.b64 n = E := by
    unfold FP.Core.fieldE
    rw [et, ee]
    omega
  have hT : FP.Core.fieldT FP.Core.b64 n = T := by
    unfold FP.Core.fieldT
    rw [et]
    omega
  unfold FP.Core.decode
  rw [hE, hT, ee]
  split
  · rename_i h9
    rw [if_pos (h4 h9)]
    intro h8; cases h8
  · split <;> intro h8 <;> cases h8
theorem bd_enc64 {d : FP.Core.Datum} (h : bd_okD d) : ∃ sT E T : Nat, (UInt64.ofNat (FP.Core.encode FP.Core.b64 d)).toNat = (sT * 2048 + E) * 4503599627370496 + T ∧ sT ≤ 1 ∧ T < 4503599627370496 ∧ E ≤ 2047 ∧ (E = 2047 → T = 0) := by
  obtain ⟨sT, E, T, h1, h2, h3, h4, h5⟩ := bd_enc h
  refine ⟨sT, E, T, ?_, h2, h3, h4, h5⟩
  rw [UInt64.toNat_ofNat', h1]
  exact Nat.mod_eq_of_lt (by omega)
theorem bd_i2d (a : Int32) : FP.Core.decode FP.Core.b64 (FP.i2d a).toNat ≠ .nan := by
  obtain ⟨sT, E, T, h1, h2, h3, h4, h5⟩ := bd_enc64 (d := FP.Core.round FP.Core.b64 (FP.Core.ofInt a.toInt)) bd_ok_ratio
  exact bd_dec h1 h2 h3 h4 h5
theorem bd_quo {x y : FP.Core.Datum} (hx : x ≠ .nan) (hy : ∃ s c q, y = .fin s c q ∧ c ≠ 0) : bd_okD (FP.Core.quotient FP.Core.b64 x y) := by
  obtain ⟨s, c, q, rfl, hc⟩ := hy
  cases x with
  | nan => exact absurd rfl hx
  | inf t => exact Or.inl ⟨_, rfl⟩
  | fin t d r =>
    show bd_okD (if c = 0 then _ else _)
    rw [if_neg hc]
    exact bd_ok_ratio
def bd_fin0 (d : FP.Core.Datum) : Bool := match d with | .fin _ c _ => decide (c ≠ 0) | _ => false
theorem bd_fin0_of {d : FP.Core.Datum} (h : bd_fin0 d = true) : ∃ s c q, d = .fin s c q ∧ c ≠ 0 := by
  cases d with
  | nan => cases h
  | inf t => cases h
  | fin t d r => exact ⟨t, d, r, rfl, of_decide_eq_true h⟩
theorem bd_cnt : ∀ n : Fin 7, 0 < n.val → bd_fin0 (FP.Core.decode FP.Core.b64 (FP.i2d (nI n.val)).toNat) = true := by decide +kernel
theorem bd_div {a : Int32} {n : Nat} (h1 : 0 < n) (h6 : n ≤ 6) : vf_n64 (FP.ddiv (FP.i2d a) (FP.i2d (nI n))) := by
  obtain ⟨sT, E, T, h1, h2, h3, h4, h5⟩ := bd_enc64 (bd_quo (bd_i2d a) (bd_fin0_of (bd_cnt ⟨n, by omega⟩ h1)))
  show (FP.ddiv (FP.i2d a) (FP.i2d (nI n))) &&& 0x7fffffffffffffff ≤ 0x7ff0000000000000
  rw [UInt64.le_iff_toNat_le, UInt64.toNat_and]
  show (UInt64.ofNat (FP.Core.encode FP.Core.b64 (FP.Core.quotient FP.Core.b64 (FP.Core.decode FP.Core.b64 (FP.i2d a).toNat) (FP.Core.decode FP.Core.b64 (FP.i2d (nI n)).toNat)))).toNat &&& (2 ^ 63 - 1) ≤ 9218868437227405312
  rw [Nat.and_two_pow_sub_one_eq_mod, h1]
  omega
