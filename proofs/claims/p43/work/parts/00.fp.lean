/-! numbers that are no NaN (a name here stands in the rest of the library: it sends the round there at once) -/
theorem fp_d {r : UInt64} (h : FP.Core.dIsNaN r = false) : r &&& 0x7fffffffffffffff ≤ 0x7ff0000000000000 := by
  have h1 : ¬ (9218868437227405312 < r.toNat % 2 ^ 63) := fun h2 => by
    have h3 := (FP.Core.isNaN_bits r).mpr h2
    rw [h3] at h
    cases h
  rw [UInt64.le_iff_toNat_le, UInt64.toNat_and]
  show r.toNat &&& (2 ^ 63 - 1) ≤ 9218868437227405312
  rw [Nat.and_two_pow_sub_one_eq_mod]
  exact Nat.le_of_not_lt h1
