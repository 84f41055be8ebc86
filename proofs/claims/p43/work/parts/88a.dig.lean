theorem i_neglt {a b : Nat} (ha : a < 1000000) (hb : b < 1000000) : -Int32.ofNat a < -Int32.ofNat b ↔ b < a := by
  rw [Int32.lt_iff_toInt_lt, Int32.toInt_neg, Int32.toInt_neg, i_toInt ha, i_toInt hb, Int.bmod_eq_of_le (by omega) (by omega), Int.bmod_eq_of_le (by omega) (by omega)]
  omega
theorem div_100 : ∀ n, n < 1000 → (-Int32.ofNat n) / 100 = -Int32.ofNat (n / 100) ∧ (-Int32.ofNat (n / 100)) * 100 - (-Int32.ofNat n) = Int32.ofNat (n % 100) := by decide +kernel
theorem dig_tab : ∀ r, r < 100 → strF [48, 49, 50, 51, 52, 53, 54, 55, 56, 57, 48, 49, 50, 51, 52, 53, 54, 55, 56, 57, 48, 49, 50, 51, 52, 53, 54, 55, 56, 57, 48, 49, 50, 51, 52, 53, 54, 55, 56, 57, 48, 49, 50, 51, 52, 53, 54, 55, 56, 57, 48, 49, 50, 51, 52, 53, 54, 55, 56, 57, 48, 49, 50, 51, 52, 53, 54, 55, 56, 57, 48, 49, 50, 51, 52, 53, 54, 55, 56, 57, 48, 49, 50, 51, 52, 53, 54, 55, 56, 57, 48, 49, 50, 51, 52, 53, 54, 55, 56, 57] r = Int32.ofNat (48 + r % 10) ∧ strF [48, 48, 48, 48, 48, 48, 48, 48, 48, 48, 49, 49, 49, 49, 49, 49, 49, 49, 49, 49, 50, 50, 50, 50, 50, 50, 50, 50, 50, 50, 51, 51, 51, 51, 51, 51, 51, 51, 51, 51, 52, 52, 52, 52, 52, 52, 52, 52, 52, 52, 53, 53, 53, 53, 53, 53, 53, 53, 53, 53, 54, 54, 54, 54, 54, 54, 54, 54, 54, 54, 55, 55, 55, 55, 55, 55, 55, 55, 55, 55, 56, 56, 56, 56, 56, 56, 56, 56, 56, 56, 57, 57, 57, 57, 57, 57, 57, 57, 57, 57] r = Int32.ofNat (48 + r / 10) := by decide +kernel
theorem digs_sgn {n : Nat} (h : n < 1000) : ∀ x ∈ digs n, sgn x := by
  intro x hx
  unfold digs at hx
  split at hx
  · rcases List.mem_cons.mp hx with rfl | hx
    · exact ⟨_, by omega, rfl⟩
    · cases hx
  · split at hx
    · rcases List.mem_cons.mp hx with rfl | hx
      · exact ⟨_, by omega, rfl⟩
      · rcases List.mem_cons.mp hx with rfl | hx
        · exact ⟨_, by omega, rfl⟩
        · cases hx
    · rcases List.mem_cons.mp hx with rfl | hx
      · exact ⟨_, by omega, rfl⟩
      · rcases List.mem_cons.mp hx with rfl | hx
        · exact ⟨_, by omega, rfl⟩
        · rcases List.mem_cons.mp hx with rfl | hx
          · exact ⟨_, by omega, rfl⟩
          · cases hx
section SB
variable {hs f : Nat → Int32} {d len : Nat} {RO : List mE} {M : mM} {Q : mQ} {g n : Nat} {l : List Int32} {G : List sh}
theorem c_strSize (hn : n < 1000) : EvR RO (d + 1) 344 [.int (Int32.ofNat n)] G M (some (.int (Int32.ofNat (digs n).length))) M := by
  refine EvR.of (fun Q hQ => ?_)
  have k1 : (-10 : Int32) = -Int32.ofNat 10 := by decide
  have k2 : (10 : Int32) * -10 = -Int32.ofNat 100 := by decide
  have k3 : (10 : Int32) * (10 * -10) = -Int32.ofNat 1000 := by decide
  refine EvP.wp [] 120 rfl ?_
  refine nn_if rfl (by omega) ?_
  refine ⟨fun _ => ?_, fun h => absurd (by decide) h⟩
  by_cases h1 : n < 10
  · rw [digs, if_pos h1] at hQ
    refine ⟨fun _ => ?_, fun h => absurd (by rw [k1, i_neglt (by omega) (by omega)]; omega) h⟩
    exact hQ
  refine ⟨fun h => absurd h (by rw [k1, i_neglt (by omega) (by omega)]; omega), fun _ => ?_⟩
  refine ⟨fun _ => ?_, fun h => absurd (by decide) h⟩
  by_cases h2 : n < 100
  · rw [digs, if_neg h1, if_pos h2] at hQ
    refine ⟨fun _ => ?_, fun h => absurd (by rw [k2, i_neglt (by omega) (by omega)]; omega) h⟩
    exact hQ
  refine ⟨fun h => absurd h (by rw [k2, i_neglt (by omega) (by omega)]; omega), fun _ => ?_⟩
  refine ⟨fun _ => ?_, fun h => absurd (by decide) h⟩
  rw [digs, if_neg h1, if_neg h2] at hQ
  refine ⟨fun _ => ?_, fun h => absurd (by rw [k3, i_neglt (by omega) (by omega)]; omega) h⟩
  exact hQ
/-- the row of digits behind place L -/
def digF (O : Nat → Int32) (L n : Nat) : Nat → Int32 := if n < 10 then upd O L (Int32.ofNat (48 + n)) else if n < 100 then upd (upd O (L + 1) (Int32.ofNat (48 + n % 10))) L (Int32.ofNat (48 + n / 10)) else upd (upd (upd O (L + 2) (Int32.ofNat (48 + n % 10))) (L + 1) (Int32.ofNat (48 + n / 10 % 10))) L (Int32.ofNat (48 + n / 100))
theorem c_check {i n : Int32} (h0 : ¬ i < 0) (h1 : i < n) : EvR RO (d + 1) 287 [.int i, .int n] G M none M := by
  refine ⟨.inl none, G, M, 0, 0, 0, ?_, rfl, rfl, rfl, rfl, rfl⟩
  rw [mrun_s]
  show (bif !decide (i < 0) && decide (i < n) then some ((.inl none : mO), wof G M, 0, 0) else none) = _
  rw [decide_eq_false h0, decide_eq_true h1]; rfl
theorem char_small : ∀ a, a < 128 → narrow .char (.int (Int32.ofNat a)) = .int (Int32.ofNat a) := by decide +kernel
end SB
