/-! a trip, a rest, what is remembered -/
theorem shedN_hi {m lim : Int32} {S j : Nat} (hS : S ≤ 16) (h : 190 < j) : ∀ (f : Nat) (N : Nat → Int32), shedN m lim S f N j = N j := by
  intro f
  induction f with
  | zero => intro N; rfl
  | succ f ih =>
    intro N
    rw [shedN_s]
    cases decide (lim < loadN N m S) with
    | false => rfl
    | true =>
      have hk : (poorI N m S).getD 0 < 16 := by
        cases hp : poorI N m S with
        | none => decide
        | some k => exact Nat.lt_of_lt_of_le (pick_lt hp).1 hS
      generalize (poorI N m S).getD 0 = k at hk
      rw [cond_true, ih, lostN, leaveN_at (by omega) (by omega) (by omega) (by omega), countN_at (by omega)]
theorem brkN_hi {N : Nat → Int32} {m : Int32} {j : Nat} (h : 190 < j) : ∀ i, i ≤ 16 → brkN N m i j = N j := by
  intro i
  induction i with
  | zero => intro _; rfl
  | succ i ih =>
    intro hi
    rw [brkN]
    cases isOnB (brkN N m i) m i && decide (brkN N m i (63 + 8 * i) = 3) with
    | false => exact ih (by omega)
    | true => rw [cond_true, upd_ne (by omega), countN_at (by omega), ih (by omega)]
theorem wetN_hi {N : Nat → Int32} {m : Int32} {j : Nat} (h : 190 < j) : ∀ i, i ≤ 16 → wetN N m i j = N j := by
  intro i
  induction i with
  | zero => intro _; rfl
  | succ i ih =>
    intro hi
    rw [wetN]
    cases isOnB (wetN N m i) m i with
    | false => exact ih (by omega)
    | true => rw [cond_true, wet1, upd_ne (by omega), countN_at (by omega), countN_at (by omega), ih (by omega)]
theorem fordN_at {N : Nat → Int32} {i S j : Nat} {depth : Int32} (hS : S ≤ 16) (h : j < 8 ∨ 14 < j ∧ j < 63 ∨ 190 < j) : fordN N i S depth j = N j := by
  have h1 : fordN1 N i S depth j = N j := by
    rw [fordN1]
    rcases h with h | h | h
    · cases decide (0 < Int32.ofNat (shedK (Int32.ofNat i) (fordL N i depth) S 16 N)) with
      | false => rw [cond_false, shedN_at (by omega)]
      | true => rw [cond_true, brkN_at (by omega), shedN_at (by omega)]
    · cases decide (0 < Int32.ofNat (shedK (Int32.ofNat i) (fordL N i depth) S 16 N)) with
      | false => rw [cond_false, shedN_at (by omega)]
      | true => rw [cond_true, brkN_at (by omega), shedN_at (by omega)]
    · cases decide (0 < Int32.ofNat (shedK (Int32.ofNat i) (fordL N i depth) S 16 N)) with
      | false => rw [cond_false, shedN_hi hS h]
      | true => rw [cond_true, brkN_hi h S hS, shedN_hi hS h]
  rw [fordN]
  cases decide (depth < 5) with
  | true => exact h1
  | false =>
    rw [cond_false]
    rcases h with h | h | h
    · rw [wetN_at (by omega)]; exact h1
    · rw [wetN_at (by omega)]; exact h1
    · rw [wetN_hi h S hS]; exact h1
theorem roadN_at {N : Nat → Int32} {i S j : Nat} {miles : Int32} (hS : S ≤ 16) (h : j < 8 ∨ 14 < j ∧ j < 63 ∨ 190 < j) (hi : j ≠ 15 + 8 * i + 1) : roadN N i S miles j = N j := by
  rw [roadN]
  rcases h with h | h | h
  · rw [shedN_at (by omega), tireN, upd_ne hi]
  · rw [shedN_at (by omega), tireN, upd_ne hi]
  · rw [shedN_hi hS h, tireN, upd_ne hi]
theorem passN_at {N : Nat → Int32} {st i S j : Nat} (hS : S ≤ 16) (h : j < 8 ∨ 14 < j ∧ j < 63 ∨ 190 < j) (hi : j ≠ 15 + 8 * i + 1) : passN N st i S j = N j := by
  rw [passN]
  cases decide (N (191 + 2 * st) = 0) with
  | true => rw [cond_true, roadN_at hS h hi]
  | false =>
    cases decide (N (191 + 2 * st) = 1) with
    | true => rw [cond_false, cond_true, fordN_at hS h]
    | false => rw [cond_false, cond_false, tireN, upd_ne hi]
theorem passN_mule {N : Nat → Int32} {st i S j : Nat} (hS : S ≤ 16) (hj : j < 6) (h : muleOk N j) : muleOk (passN N st i S) j := by
  rw [passN]
  cases decide (N (191 + 2 * st) = 0) with
  | true =>
    rw [cond_true, roadN]
    exact muleOk_congr (shedN_at (by omega) _ _) (shedN_at (by omega) _ _) (tireN_ok h)
  | false =>
    cases decide (N (191 + 2 * st) = 1) with
    | true =>
      rw [cond_false, cond_true]
      exact muleOk_congr (fordN_at hS (by omega)) (fordN_at hS (by omega)) h
    | false => exact tireN_ok h
/-- the row's own ranges: what a trip rests on -/
def rowOk (N : Nat → Int32) (m S t : Nat) : Prop := N 3 = Int32.ofNat m ∧ N 4 = Int32.ofNat S ∧ N 5 = Int32.ofNat t ∧ m ≤ 6 ∧ S ≤ 16 ∧ t ≤ 8 ∧ (∀ i, i < m → muleOk N i) ∧ (∀ i, i < t → stageOk N i)
theorem rowOk_of {N N' : Nat → Int32} {m S t : Nat} (h : rowOk N m S t) (h1 : ∀ j, j < 6 → N' j = N j) (h2 : ∀ j, 190 < j → N' j = N j) (h3 : ∀ i, i < 6 → muleOk N i → muleOk N' i) : rowOk N' m S t := by
  obtain ⟨e1, e2, e3, e4, e5, e6, e7, e8⟩ := h
  refine ⟨by rw [h1 3 (by omega)]; exact e1, by rw [h1 4 (by omega)]; exact e2, by rw [h1 5 (by omega)]; exact e3, e4, e5, e6, fun i hi => h3 i (by omega) (e7 i hi), fun i hi => ?_⟩
  have h9 := e8 i hi
  unfold stageOk at h9 ⊢
  rw [h2 _ (by omega), h2 _ (by omega)]
  exact h9
theorem rowOk_pass {N : Nat → Int32} {m S t st i : Nat} (hi : i < 6) (h : rowOk N m S t) : rowOk (passN N st i S) m S t :=
  rowOk_of h (fun j hj => passN_at h.2.2.2.2.1 (by omega) (by omega)) (fun j hj => passN_at h.2.2.2.2.1 (by omega) (by omega)) (fun j hj hm => passN_mule h.2.2.2.2.1 hj hm)
def goesI (N : Nat → Int32) (S k : Nat) : Int32 := zb (decide (0 < sOn N (Int32.ofNat k) S))
def gN (G0 N : Nat → Int32) (S : Nat) : Nat → (Nat → Int32)
  | 0 => G0
  | k + 1 => upd (gN G0 N S k) k (goesI N S k)
theorem gN_at {G0 N : Nat → Int32} {S k : Nat} : ∀ n, k < n → gN G0 N S n k = goesI N S k := by
  intro n
  induction n with
  | zero => intro h; omega
  | succ n ih =>
    intro h
    rw [gN]
    by_cases e : k = n
    · rw [e, upd_at]
    · rw [upd_ne e, ih (by omega)]
def legN (g : Nat → Int32) (st S : Nat) (N : Nat → Int32) : Nat → (Nat → Int32)
  | 0 => N
  | k + 1 => bif decide (g k = 1) then passN (legN g st S N k) st k S else legN g st S N k
def wayN (g : Nat → Int32) (m S : Nat) (N : Nat → Int32) : Nat → (Nat → Int32)
  | 0 => N
  | st + 1 => legN g st S (wayN g m S N st) m
def del1 (N : Nat → Int32) (k : Nat) : Nat → Int32 := leaveN (upd (countN N 1 (N (63 + 8 * k + 2))) 7 (countN N 1 (N (63 + 8 * k + 2)) 7 + countN N 1 (N (63 + 8 * k + 2)) (63 + 8 * k + 2))) k 2
def delN (N : Nat → Int32) : Nat → (Nat → Int32)
  | 0 => N
  | k + 1 => bif decide (delN N k (63 + 8 * k + 3) = 1) then del1 (delN N k) k else delN N k
def pay1 (N : Nat → Int32) (w : Int32) : Nat → Int32 := countN (upd N 7 (N 7 - w * N 2)) 5 (w * upd N 7 (N 7 - w * N 2) 2)
def payN (g N : Nat → Int32) : Nat → (Nat → Int32)
  | 0 => N
  | k + 1 => pay1 (payN g N k) (g k)
def endN (N : Nat → Int32) : Nat → Int32 := upd (countN N 0 1) 6 (countN N 0 1 6 + 1)
def tripsN (g N : Nat → Int32) (m S t : Nat) : Nat → Int32 := endN (payN g (delN (wayN g m S N t) S) m)
theorem rowOk_leg {g : Nat → Int32} {N : Nat → Int32} {m S t st : Nat} (h : rowOk N m S t) : ∀ k, k ≤ m → rowOk (legN g st S N k) m S t := by
  intro k
  induction k with
  | zero => intro _; exact h
  | succ k ih =>
    intro hk
    rw [legN]
    cases decide (g k = 1) with
    | false => exact ih (by omega)
    | true =>
      have h6 := h.2.2.2.1
      exact rowOk_pass (by omega) (ih (by omega))
theorem rowOk_way {g : Nat → Int32} {N : Nat → Int32} {m S t : Nat} (h : rowOk N m S t) : ∀ st, rowOk (wayN g m S N st) m S t := by
  intro st
  induction st with
  | zero => exact h
  | succ st ih => exact rowOk_leg ih m (Nat.le_refl _)
theorem del1_at {N : Nat → Int32} {k j : Nat} (h : j < 7 ∨ 9 < j ∧ j < 63 ∨ 190 < j) (hk : k < 16) : del1 N k j = N j := by
  rw [del1, leaveN_at (by omega) (by omega) (by omega) (by omega), upd_ne (by omega), countN_at (by omega)]
theorem delN_at {N : Nat → Int32} {j : Nat} (h : j < 7 ∨ 9 < j ∧ j < 63 ∨ 190 < j) : ∀ k, k ≤ 16 → delN N k j = N j := by
  intro k
  induction k with
  | zero => intro _; rfl
  | succ k ih =>
    intro hk
    rw [delN]
    cases decide (delN N k (63 + 8 * k + 3) = 1) with
    | false => exact ih (by omega)
    | true => rw [cond_true, del1_at h (by omega)]; exact ih (by omega)
theorem pay1_at {N : Nat → Int32} {w : Int32} {j : Nat} (h : j ≠ 7) (h2 : j ≠ 13) : pay1 N w j = N j := by
  rw [pay1, countN_at (by omega), upd_ne h]
theorem payN_at {g N : Nat → Int32} {j : Nat} (h : j ≠ 7) (h2 : j ≠ 13) : ∀ k, payN g N k j = N j := by
  intro k
  induction k with
  | zero => rfl
  | succ k ih => rw [payN, pay1_at h h2, ih]
section MDL
variable {RO : List mE} {d sb : Nat} {ext : List sh} {M : mM}
end MDL
