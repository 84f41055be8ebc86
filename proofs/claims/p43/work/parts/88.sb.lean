theorem sh0 {x : Int32} : x <<< ((0 : Int32) &&& 31) = x := by
  rw [show ((0 : Int32) &&& 31) = 0 from by decide]
  simp
theorem sr0 {x : Int32} : x >>> ((0 : Int32) &&& 31) = x := by
  rw [show ((0 : Int32) &&& 31) = 0 from by decide]
  simp
def sgn (x : Int32) : Prop := ∃ a, a < 128 ∧ x = Int32.ofNat a
theorem byte_small : ∀ a, a < 128 → vp_nar .byte (Int32.ofNat a) = Int32.ofNat a ∧ byB (Int32.ofNat a) = Int32.ofNat a ∧ fits .byte (.int (Int32.ofNat a)) = true ∧ vp_nar .byte ((Int32.ofNat a).toInt8.toInt32) = Int32.ofNat a ∧ ((Int32.ofNat a).toUInt32 % 65536).toInt32 = Int32.ofNat a ∧ (Int32.ofNat a &&& 255) = Int32.ofNat a := by decide +kernel
theorem sgn_byB {x : Int32} (h : sgn x) : byB x = x := by
  obtain ⟨a, h1, rfl⟩ := h
  exact (byte_small a h1).2.1
theorem big_no {n : Nat} (h : n < 1000000) : ¬ (2147483639 : Int32) < Int32.ofNat n := by
  rw [Int32.lt_iff_toInt_lt, i_toInt h, show (2147483639 : Int32).toInt = 2147483639 from by decide]
  omega
section SB
variable {hs f : Nat → Int32} {d len : Nat} {RO : List mE} {M : mM} {Q : mQ} {g : Nat} {l : List Int32} {G : List sh}
theorem c_newLen {a b c : Nat} (hbc : b ≤ c) (ha : 0 < a) (hac : a + c < 100000) : EvR RO (d + 1) 352 [.int (Int32.ofNat a), .int (Int32.ofNat b), .int (Int32.ofNat c)] G M (some (.int (Int32.ofNat (a + c)))) M := by
  have hmx : (if Int32.ofNat b < Int32.ofNat c then Int32.ofNat c else Int32.ofNat b) = Int32.ofNat c := by
    by_cases h : b < c
    · rw [if_pos ((i_lt (by omega) (by omega)).mpr h)]
    · rw [if_neg (fun h2 => h ((i_lt (by omega) (by omega)).mp h2)), show b = c by omega]
  have hsum : Int32.ofNat a + (if Int32.ofNat b < Int32.ofNat c then Int32.ofNat c else Int32.ofNat b) = Int32.ofNat (a + c) := by rw [hmx, i_add]
  refine EvR.of (fun Q hQ => ?_)
  rw [← hsum] at hQ
  refine EvP.wp [] 60 rfl ?_
  refine lt_if (a := 0) (b := a + c) rfl hsum (by omega) (by omega) (fun _ => ?_) (fun h => absurd h (by omega))
  refine ⟨fun h => absurd h (by rw [hsum]; exact big_no (by omega)), fun _ => ?_⟩
  exact hQ
theorem c_canEnc {a : Nat} (ha : a < 128) : EvR RO (d + 1) 294 [.int (Int32.ofNat a)] G M (some (.int 1)) M := by
  refine EvP.wp [] 60 rfl ?_
  refine gt_if (a := a) (b := 255) rfl rfl (by omega) (by omega) (fun h => absurd h (by omega)) (fun _ => ?_)
  exact ⟨by decide +kernel, rfl, rfl, rfl, rfl, rfl⟩
end SB
