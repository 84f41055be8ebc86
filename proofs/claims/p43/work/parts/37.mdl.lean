/-! what the model answers -/
theorem inB_no {v lo hi : Int32} (h : inB v lo hi = false) : v < lo ∨ hi < v := by
  rw [inB] at h
  by_cases h1 : v < lo
  · exact Or.inl h1
  · by_cases h2 : hi < v
    · exact Or.inr h2
    · simp [h1, h2] at h
theorem inB_yes {v lo hi : Int32} (h : inB v lo hi = true) : ¬ v < lo ∧ ¬ hi < v := by
  rw [inB, Bool.and_eq_true] at h
  exact ⟨of_decide_eq_true h.1, of_decide_eq_true h.2⟩
theorem i_of {v : Int32} {n : Nat} (h0 : ¬ v < 0) (h1 : v.toInt < n) : ∃ i, i < n ∧ v = Int32.ofNat i := by
  rw [Int32.lt_iff_toInt_lt, show (0 : Int32).toInt = 0 from rfl] at h0
  refine ⟨v.toInt.toNat, by omega, ?_⟩
  apply Int32.toInt_inj.mp
  have := Int32.toInt_lt v
  rw [Int32.toInt_ofNat_of_lt (by omega)]
  omega
theorem inB_c {v : Int32} {n : Nat} (hn : n < 1000000) (h : inB v 0 (Int32.ofNat n) = true) : ∃ i, i < n + 1 ∧ v = Int32.ofNat i := by
  obtain ⟨h0, h1⟩ := inB_yes h
  refine i_of h0 ?_
  rw [Int32.lt_iff_toInt_lt, i_toInt hn] at h1
  omega
theorem inB_n {v x : Int32} {n : Nat} (hn : n < 1000000) (hx : x = Int32.ofNat n) (h : inB v 0 (x - 1) = true) : ∃ i, i < n ∧ v = Int32.ofNat i := by
  obtain ⟨h0, h1⟩ := inB_yes h
  by_cases e : n = 0
  · subst e
    rw [hx] at h1
    rw [Int32.lt_iff_toInt_lt, show (0 : Int32).toInt = 0 from rfl] at h0
    rw [Int32.lt_iff_toInt_lt, show (Int32.ofNat 0 - 1 : Int32).toInt = -1 from by decide] at h1
    omega
  · refine i_of h0 ?_
    rw [hx, show (1 : Int32) = Int32.ofNat 1 from rfl, i_sub (by omega), Int32.lt_iff_toInt_lt, i_toInt (by omega)] at h1
    omega
theorem inB_in {v x : Int32} {n i : Nat} (hn : n < 1000000) (hx : x = Int32.ofNat n) (hi : i < n) (hv : v = Int32.ofNat i) : inB v 0 (x - 1) = true := by
  subst hv
  rw [inB, hx, show (1 : Int32) = Int32.ofNat 1 from rfl, i_sub (by omega), Bool.and_eq_true]
  refine ⟨decide_eq_true (i_nonneg (by omega)), decide_eq_true ?_⟩
  rw [i_lt (by omega) (by omega)]
  omega
section MDL
variable {RO : List mE} {d sb : Nat} {ext : List sh} {M : mM} {Q : mQ}
def freshN (N : Nat → Int32) (i : Nat) : Int32 := bif decide (N (15 + 8 * i + 1) = 0) then 0 else bif decide (N 1 = 0) then -1 else (N (15 + 8 * i + 1) + N 1 - 1) / N 1
end MDL
