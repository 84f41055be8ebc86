/-! what the model writes -/
theorem digs_len2 {n : Nat} (h : n < 100) : (digs n).length ≤ 2 := by
  unfold digs
  split
  · exact (by decide : 1 ≤ 2)
  · exact (by decide : 2 ≤ 2)
theorem sideL_len {N : Nat → Int32} {m sd : Int32} : ∀ k, k ≤ 16 → (sideL N m sd k).length ≤ 3 * k := by
  intro k
  induction k with
  | zero => intro _; exact Nat.le_refl _
  | succ k ih =>
    intro hk
    have h1 := ih (by omega)
    have h2 := digs_len2 (n := k) (by omega)
    rw [sideL]
    cases isOnB N m k && decide (N (63 + 8 * k + 5) = sd) with
    | false => rw [cond_false]; omega
    | true =>
      cases (sideL N m sd k).isEmpty with
      | true => rw [cond_true, cond_true]; omega
      | false => rw [cond_true, cond_false, List.length_append, List.length_cons]; omega
theorem sideL_off {N : Nat → Int32} {m sd : Int32} {k : Nat} (h : (isOnB N m k && decide (N (63 + 8 * k + 5) = sd)) = false) : sideL N m sd (k + 1) = sideL N m sd k := by
  rw [sideL, h]; rfl
theorem sideL_new {N : Nat → Int32} {m sd : Int32} {k : Nat} (h : (isOnB N m k && decide (N (63 + 8 * k + 5) = sd)) = true) (h2 : (sideL N m sd k).isEmpty = true) : sideL N m sd (k + 1) = digs k := by
  rw [sideL, h, h2]; rfl
theorem sideL_more {N : Nat → Int32} {m sd : Int32} {k : Nat} (h : (isOnB N m k && decide (N (63 + 8 * k + 5) = sd)) = true) (h2 : (sideL N m sd k).isEmpty = false) : sideL N m sd (k + 1) = sideL N m sd k ++ 44 :: digs k := by
  rw [sideL, h, h2]; rfl
def nameL (N : Nat → Int32) (i : Nat) : Nat → List Int32
  | 0 => []
  | j + 1 => nameL N i j ++ [N (15 + 8 * i + 2 + j)]
theorem nameL_len {N : Nat → Int32} {i : Nat} : ∀ j, (nameL N i j).length = j := by
  intro j
  induction j with
  | zero => rfl
  | succ j ih => rw [nameL, List.length_append, ih]; rfl
def muleL (N : Nat → Int32) (i S w : Nat) : List Int32 := nameL N i (lettN N i) ++ 58 :: (sideL N (Int32.ofNat i) 0 S ++ 124 :: (sideL N (Int32.ofNat i) 1 S ++ 61 :: digs w))
def outM (M : mM) : mM := upM M 145 (upd (M 145) 15 0)
def wordL (k : Nat) : List Int32 := match k with
  | 0 => [114, 111, 97, 100]
  | 1 => [102, 111, 114, 100]
  | _ => [99, 97, 109, 112]
def wayL (N : Nat → Int32) : Nat → List Int32
  | 0 => []
  | k + 1 => wayL N k ++ ((if 0 < k then [32] else []) ++ (wordL (N (191 + 2 * k)).toNatClampNeg ++ digs (N (191 + 2 * k + 1)).toNatClampNeg))
theorem wordL_len {k : Nat} : (wordL k).length = 4 := by
  unfold wordL
  split <;> rfl
section MDL
variable {RO : List mE} {d sb : Nat} {ext : List sh} {M : mM} {Q : mQ}
end MDL
