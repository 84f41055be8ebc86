/-! the model's changes: the rest -/
theorem gt_if {x y : Int32} {a b : Nat} {P Q : Prop} (hx : x = Int32.ofNat a) (hy : y = Int32.ofNat b) (ha : a < 1000000) (hb : b < 1000000) (h1 : b < a → P) (h2 : a ≤ b → Q) : (y < x → P) ∧ (¬ y < x → Q) := lt_if hy hx hb ha h1 h2
theorem easeN_at {N : Nat → Int32} {j : Nat} (h : ∀ i, i < 6 → j ≠ 15 + 8 * i + 1) : ∀ k, k ≤ 6 → easeN N k j = N j := by
  intro k
  induction k with
  | zero => intro _; rfl
  | succ k ih => intro hk; rw [easeN, tireN, upd_ne (h k (by omega)), ih (by omega)]
theorem restN_at {N : Nat → Int32} {m j : Nat} (hm : m ≤ 6) (h : ∀ i, i < 6 → j ≠ 15 + 8 * i + 1) (h6 : j ≠ 6) : ∀ k, restN m N k j = N j := by
  intro k
  induction k with
  | zero => rfl
  | succ k ih => rw [restN, easeN_at h m hm, upd_ne h6, ih]
section MDL
variable {RO : List mE} {d sb : Nat} {ext : List sh} {M : mM} {Q : mQ}
def saveM (M : mM) (k : Nat) : mM := upM (upM M 152 (copyF (M 152) (k * 207) (M 149) 0 207)) 145 (upd (M 145) 9 (M 145 9 ||| ((1 : Int32) <<< (Int32.ofNat k &&& 31))))
end MDL
