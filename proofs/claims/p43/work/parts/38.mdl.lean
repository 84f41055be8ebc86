/-! the model's other answers -/
theorem i_dec {n : Nat} : Int32.ofNat (n + 1) + -1 = Int32.ofNat n := by
  rw [← i_inc, Int32.add_assoc, show (1 : Int32) + -1 = 0 from by decide, Int32.add_zero]
def deepN (N : Nat → Int32) (i S : Nat) : Nat → Nat
  | 0 => 0
  | n + 1 => bif decide (fordL N i (Int32.ofNat (n + 1)) < loadN N (Int32.ofNat i) S) then deepN N i S n else n + 1
theorem wayN_at {g N : Nat → Int32} {m S j : Nat} (hS : S ≤ 16) (hm : m ≤ 6) (h : j < 8 ∨ 62 < j ∧ 190 < j) : ∀ st, wayN g m S N st j = N j := by
  intro st
  induction st with
  | zero => rfl
  | succ st ih =>
    have hl : ∀ k, k ≤ m → legN g st S (wayN g m S N st) k j = wayN g m S N st j := by
      intro k
      induction k with
      | zero => intro _; rfl
      | succ k ih2 =>
        intro hk
        rw [legN]
        cases decide (g k = 1) with
        | false => exact ih2 (by omega)
        | true => rw [cond_true, passN_at hS (by omega) (by omega)]; exact ih2 (by omega)
    rw [wayN, hl m (Nat.le_refl _), ih]
theorem tripsN_at {g N : Nat → Int32} {m S t j : Nat} (hS : S ≤ 16) (hm : m ≤ 6) (h : j < 6 ∨ 190 < j) : tripsN g N m S t j = N j := by
  rw [tripsN, endN, upd_ne (by omega), countN_at (by omega), payN_at (by omega) (by omega), delN_at (by omega) S hS, wayN_at hS hm (by omega)]
def asideM (M : mM) : mM := upM M 150 (copyF (M 150) 0 (M 149) 0 207)
def whatM (M : mM) (m S : Nat) : mM := upM (asideM M) 153 (gN (M 153) (M 149) S m)
def tripN (M : mM) (m S t : Nat) : Nat → Int32 := tripsN (gN (M 153) (M 149) S m) (M 149) m S t
theorem back_eq {M : mM} {m S t : Nat} (hS : S ≤ 16) (hm : m ≤ 6) : upM (upM (upM (asideM M) 153 (gN ((asideM M) 153) ((asideM M) 149) S m)) 149 (tripN M m S t)) 149 (copyF (tripN M m S t) 0 (copyF (M 150) 0 (M 149) 0 207) 0 207) = whatM M m S := by
  rw [upM_upM, show copyF (tripN M m S t) 0 (copyF (M 150) 0 (M 149) 0 207) 0 207 = M 149 from ?_]
  · show upM (whatM M m S) 149 (whatM M m S 149) = _
    rw [upM_self]
  · funext j
    rw [copyF]
    by_cases h : 0 ≤ j ∧ j < 0 + 207
    · rw [if_pos h, copyF, if_pos (by omega), show 0 + (0 + (j - 0) - 0) = j by omega]
    · rw [if_neg h, tripN, tripsN_at hS hm (by omega)]
theorem thr_eq {M : mM} {w : Int32} : thr M w = upM M 145 (upd (M 145) 3 w) := rfl
def mxB (a b : Int32) : Int32 := bif decide (b < a) then a else b
def dpF (O : Nat → Int32) (w : Nat) (v : Int32) (room u : Nat) : Nat → Int32 := fun j => if u ≤ j ∧ j ≤ room then mxB (O (j - w) + v) (O j) else O j
theorem dpF_0 {O : Nat → Int32} {w room : Nat} {v : Int32} : dpF O w v room (room + 1) = O := by
  funext j
  rw [dpF, if_neg (by omega)]
theorem dpF_s {O : Nat → Int32} {w room u : Nat} {v : Int32} (hw : 1 ≤ w) (hu : w ≤ u) (hr : u ≤ room) : upd (dpF O w v room (u + 1)) u (mxB (dpF O w v room (u + 1) (u - w) + v) (dpF O w v room (u + 1) u)) = dpF O w v room u := by
  funext j
  by_cases e : j = u
  · rw [e, upd_at, dpF, dpF, dpF, if_neg (by omega), if_neg (by omega), if_pos (by omega)]
  · rw [upd_ne e, dpF, dpF]
    by_cases h : u + 1 ≤ j ∧ j ≤ room
    · rw [if_pos h, if_pos (by omega)]
    · rw [if_neg h, if_neg (by omega)]
def zeroF (O : Nat → Int32) (n : Nat) : Nat → Int32 := fun j => if j < n then 0 else O j
theorem zeroF_0 {O : Nat → Int32} : zeroF O 0 = O := by
  funext j
  rw [zeroF, if_neg (by omega)]
theorem zeroF_s {O : Nat → Int32} {n : Nat} : upd (zeroF O n) n 0 = zeroF O (n + 1) := by
  funext j
  by_cases e : j = n
  · rw [e, upd_at, zeroF, if_pos (by omega)]
  · rw [upd_ne e, zeroF, zeroF]
    by_cases h : j < n
    · rw [if_pos h, if_pos (by omega)]
    · rw [if_neg h, if_neg (by omega)]
/-- the best worths behind the first k sacks -/
def dpN (N O : Nat → Int32) (room : Nat) : Nat → (Nat → Int32)
  | 0 => O
  | k + 1 => bif decide (N (63 + 8 * k + 3) = 0) && Nat.ble (N (63 + 8 * k + 1)).toNatClampNeg room then dpF (dpN N O room k) (N (63 + 8 * k + 1)).toNatClampNeg (N (63 + 8 * k + 2)) room (N (63 + 8 * k + 1)).toNatClampNeg else dpN N O room k
def weightOk (N : Nat → Int32) (S : Nat) : Prop := ∀ k, k < S → ∃ w : Nat, N (63 + 8 * k + 1) = Int32.ofNat w ∧ 1 ≤ w ∧ w ≤ 99
section MDL
variable {RO : List mE} {d sb : Nat} {ext : List sh} {M : mM} {Q : mQ}
end MDL
