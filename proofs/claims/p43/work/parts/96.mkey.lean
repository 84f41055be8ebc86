/-! the reference's words -/
theorem tok_1 {B : Nat → Nat} {n e : Nat} {lr : Bool} (he : e ≤ n) (h : tokK B n e lr = 1) : skp B n e < n ∧ tokE B n e = run B n 1 (skp B n e) ∧ ∀ j, skp B n e ≤ j → j < tokE B n e → kd (B j) = 1 := by
  obtain ⟨s1, s2⟩ := skp_le (B := B) he
  by_cases h0 : skp B n e = n
  · rw [(tokK_0 (lr := lr) h0).1] at h; cases h
  · by_cases h1 : kd (B (skp B n e)) = 1
    · obtain ⟨t1, t2⟩ := tokK_1 (lr := lr) h0 h1
      obtain ⟨g1, g2, g3, g4⟩ := rt_ge (P := fun j => Nat.beq (kd (B j)) 1) (n := n) (n - skp B n e) (skp B n e) rfl
      refine ⟨by omega, t2, fun j a b => ?_⟩
      rw [t2] at b
      exact Nat.eq_of_beq_eq_true (g3 j a b)
    · by_cases h2 : kd (B (skp B n e)) = 2
      · rw [(tokK_2 (lr := lr) h0 h2).1] at h
        split at h
        · cases h
        · split at h <;> cases h
      · rw [(tokK_3 (lr := lr) h0 h1 h2).1] at h
        exact absurd h h1
theorem kd1 {b : Nat} (h : kd b = 1) : 97 ≤ b ∧ b ≤ 122 := by
  unfold kd at h
  split at h
  · assumption
  · split at h
    · cases h
    · split at h <;> cases h
section MKEY
variable {RO : List mE} {d n sb : Nat} {G ext : List sh} {M : mM} {Q : mQ} {B : Nat → Nat}
end MKEY
