/-! the way written; the best worth -/
theorem wayL_s {N : Nat → Int32} {k kd n : Nat} (h1 : N (191 + 2 * k) = Int32.ofNat kd) (h2 : N (191 + 2 * k + 1) = Int32.ofNat n) (hk : kd < 3) (hn : n < 100) : wayL N (k + 1) = wayL N k ++ ((if 0 < k then [32] else []) ++ (wordL kd ++ digs n)) := by
  rw [wayL, h1, h2, clamp_n (n := 3) hk (by omega), clamp_n (n := 100) hn (by omega)]
theorem wayL_len {N : Nat → Int32} {t : Nat} (h : ∀ i, i < t → stageOk N i) : ∀ k, k ≤ t → (wayL N k).length ≤ 7 * k := by
  intro k
  induction k with
  | zero => intro _; exact Nat.le_refl _
  | succ k ih =>
    intro hk
    obtain ⟨kd, n, h1, h2, h3, h4, h5, h6⟩ := h k (by omega)
    have h7 := ih (by omega)
    have h8 := digs_len2 (n := n) (by omega)
    rw [wayL_s h1 h2 h3 (by omega)]
    simp only [List.length_append, wordL_len]
    by_cases e : 0 < k
    · rw [if_pos e, List.length_singleton]; omega
    · rw [if_neg e, List.length_nil]; omega
/-- the words' letters among the reference's own -/
def keysOk (K : Nat → Int32) : Prop := ∀ kd, kd < 3 → wordL kd = [K (5 * (3 + kd)), K (5 * (3 + kd) + 1), K (5 * (3 + kd) + 2), K (5 * (3 + kd) + 3)] ∧ K (5 * (3 + kd) + 4) = 0 ∧ (∀ x, x < 4 → ¬ K (5 * (3 + kd) + x) = 0)
section MDL
variable {RO : List mE} {d sb : Nat} {ext : List sh} {M : mM} {Q : mQ}
def wrK (M : mM) (p : Nat) (K : Nat → Int32) (b : Nat) : Nat → mM
  | 0 => M
  | x + 1 => wr1 (wrK M p K b x) (p + x) (K (b + x))
theorem wrK_q {M : mM} {p b q : Nat} {K : Nat → Int32} (h1 : q ≠ 145) (h2 : q ≠ 156) : ∀ x, wrK M p K b x q = M q := by
  intro x
  induction x with
  | zero => rfl
  | succ x ih => rw [wrK, wr1, upM_ne h1, upM_ne h2, ih]
theorem wrK_15 {M : mM} {p b : Nat} {K : Nat → Int32} (h : M 145 15 = Int32.ofNat p) : ∀ x, wrK M p K b x 145 15 = Int32.ofNat (p + x) := by
  intro x
  cases x with
  | zero => exact h
  | succ x => rfl
end MDL
