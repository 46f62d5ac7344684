/-! EVERY CALL -/
section LT
variable {l : Launch} {E : bd_E}
theorem rl_all (hlf : l.stackTraces = false) (i : Nat) (x y : bd_M) (hi2 : i < 512) (hJ : rl_Jn i x y) : la_All l E x y (rl_Jn (i + 1)) := by
  obtain ⟨n, nb, z, t, h, hi⟩ := hJ
  have h2 : i < 1000 := by omega
  exact ⟨la_J_addPlayer hlf h hi, la_J_found hlf h hi, la_J_seat hlf h hi, la_J_change hlf h hi, la_J_absent hlf h hi, la_J_rehearse hlf h hi, la_J_setPiece hlf h hi, la_J_setTaste hlf h hi, la_J_player hlf h hi, la_J_band hlf h hi, la_J_chair hlf h hi, la_J_contest hlf h hi h2, la_J_rank hlf h hi, la_J_count hlf h hi, la_J_foresee hlf h hi h2, la_J_advise hlf h hi h2, la_J_free hlf h hi, la_J_mean h hi, la_J_digest h hi, la_up h (by omega)⟩
theorem rl_start : rl_Jn 0 kx_0 ry_0 := by
  have e0 : ¬ (0 : Int32) < 0 := by decide
  refine ⟨0, 0, fun _ => 0, 0, ⟨⟨rfl, by decide, rfl, by decide, fun b hb => ⟨rfl, by show 0 ≤ 8; decide⟩⟩, ⟨rfl, by decide, rfl, by decide, fun b hb => ⟨rfl, by show 0 ≤ 8; decide⟩, fun k hk => ⟨e0, by show (0 : Int32).toNatClampNeg < 4; decide⟩, fun k hk => e0⟩, ⟨⟨fun p hp => absurd hp (Nat.not_lt_zero p), fun b hb => absurd hb (Nat.not_lt_zero b), fun i hi => ⟨rfl, rfl⟩⟩, fun b hb => absurd hb (Nat.not_lt_zero b), fun p hp => ⟨rfl, rfl, e0, rfl, rfl⟩, fun p h1 h2 => rfl, fun b hb => absurd hb (Nat.not_lt_zero b), ⟨rfl, rfl⟩, fun b hb => absurd hb (Nat.not_lt_zero b), fun b hb => absurd hb (Nat.not_lt_zero b), rfl⟩, ⟨fun b hb => rfl, fun b hb hb6 => rfl⟩, rfl, ⟨fun p hp => Or.inl ⟨rfl, rfl⟩, fun b hb => absurd hb (Nat.not_lt_zero b)⟩, fun b hb hb6 => ⟨⟨rfl, rfl, rfl⟩, ⟨rfl, rfl, rfl, rfl⟩, fun k hk => ⟨rfl, rfl⟩⟩, fun b hb => ⟨e0, by show ¬ (50 : Int32) < 0; decide⟩⟩, Nat.le_refl 0⟩
end LT
