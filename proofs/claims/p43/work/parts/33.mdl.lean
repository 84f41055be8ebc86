/-! a stage's doings -/
theorem i_div {a b : Nat} (ha : a < 1000000) (hb : b < 1000000) : Int32.ofNat a / Int32.ofNat b = Int32.ofNat (a / b) := by
  apply Int32.toInt_inj.mp
  have h1 : a / b ≤ a := Nat.div_le_self a b
  rw [Int32.toInt_div, i_toInt ha, i_toInt hb, i_toInt (by omega)]
  rw [show ((a : Int).tdiv (b : Int)) = ((a / b : Nat) : Int) from rfl]
  generalize a / b = q at h1
  apply Int.bmod_eq_of_le <;> omega
def muleOk (N : Nat → Int32) (i : Nat) : Prop := ∃ s t : Nat, N (15 + 8 * i) = Int32.ofNat s ∧ N (15 + 8 * i + 1) = Int32.ofNat t ∧ 10 ≤ s ∧ s ≤ 300 ∧ t ≤ 100
def stageOk (N : Nat → Int32) (i : Nat) : Prop := ∃ k n : Nat, N (191 + 2 * i) = Int32.ofNat k ∧ N (191 + 2 * i + 1) = Int32.ofNat n ∧ k < 3 ∧ 1 ≤ n ∧ n ≤ 99 ∧ (k = 1 → n ≤ 9)
theorem bear_val {N : Nat → Int32} {i s t : Nat} (h1 : N (15 + 8 * i) = Int32.ofNat s) (h2 : N (15 + 8 * i + 1) = Int32.ofNat t) (hs : s ≤ 300) (ht : t ≤ 100) : bearN N i = Int32.ofNat (s * (100 - t) / 100) := by
  have h3 : s * (100 - t) ≤ 300 * 100 := Nat.mul_le_mul hs (by omega)
  rw [bearN, h1, h2, show (100 : Int32) = Int32.ofNat 100 from rfl, i_sub ht, i_mul, i_div (by omega) (by omega)]
theorem bear_ok {N : Nat → Int32} {i : Nat} (h : muleOk N i) : ∃ b : Nat, bearN N i = Int32.ofNat b ∧ b ≤ 300 := by
  obtain ⟨s, t, h1, h2, h3, h4, h5⟩ := h
  have h6 : s * (100 - t) ≤ 300 * 100 := Nat.mul_le_mul h4 (by omega)
  exact ⟨_, bear_val h1 h2 h4 h5, by omega⟩
def fordL (N : Nat → Int32) (i : Nat) (depth : Int32) : Int32 := bearN N i * (10 - depth) / 10
theorem ford_ok {N : Nat → Int32} {i n : Nat} (h : muleOk N i) (hn : n ≤ 9) : ∃ b : Nat, fordL N i (Int32.ofNat n) = Int32.ofNat b ∧ b ≤ 300 := by
  obtain ⟨b, h1, h2⟩ := bear_ok h
  have h3 : b * (10 - n) ≤ 300 * 10 := Nat.mul_le_mul h2 (by omega)
  refine ⟨b * (10 - n) / 10, ?_, by omega⟩
  rw [fordL, h1, show (10 : Int32) = Int32.ofNat 10 from rfl, i_sub (by omega), i_mul, i_div (by omega) (by omega)]
def wetB (kd w : Int32) : Int32 := bif decide (kd = 0) then w / 2 else bif decide (kd = 1) then 3 * w / 4 else w
def brkN (N : Nat → Int32) (m : Int32) : Nat → (Nat → Int32)
  | 0 => N
  | i + 1 => bif isOnB (brkN N m i) m i && decide (brkN N m i (63 + 8 * i) = 3) then upd (countN (brkN N m i) 4 (brkN N m i (63 + 8 * i + 2))) (63 + 8 * i + 2) 0 else brkN N m i
def wet1 (N : Nat → Int32) (i : Nat) : Nat → Int32 := upd (countN (countN N 3 (N (63 + 8 * i + 2) - wetB (N (63 + 8 * i)) (N (63 + 8 * i + 2)))) 6 1) (63 + 8 * i + 2) (wetB (N (63 + 8 * i)) (N (63 + 8 * i + 2)))
def wetN (N : Nat → Int32) (m : Int32) : Nat → (Nat → Int32)
  | 0 => N
  | i + 1 => bif isOnB (wetN N m i) m i then wet1 (wetN N m i) i else wetN N m i
def roadN (N : Nat → Int32) (i S : Nat) (miles : Int32) : Nat → Int32 := shedN (Int32.ofNat i) (bearN (tireN N i (miles * (loadN N (Int32.ofNat i) S * 10 / N (15 + 8 * i) + 1) / 10)) i) S 16 (tireN N i (miles * (loadN N (Int32.ofNat i) S * 10 / N (15 + 8 * i) + 1) / 10))
def fordN1 (N : Nat → Int32) (i S : Nat) (depth : Int32) : Nat → Int32 := bif decide (0 < Int32.ofNat (shedK (Int32.ofNat i) (fordL N i depth) S 16 N)) then brkN (shedN (Int32.ofNat i) (fordL N i depth) S 16 N) (Int32.ofNat i) S else shedN (Int32.ofNat i) (fordL N i depth) S 16 N
def fordN (N : Nat → Int32) (i S : Nat) (depth : Int32) : Nat → Int32 := bif decide (depth < 5) then fordN1 N i S depth else wetN (fordN1 N i S depth) (Int32.ofNat i) S
def passN (N : Nat → Int32) (st i S : Nat) : Nat → Int32 := bif decide (N (191 + 2 * st) = 0) then roadN N i S (N (191 + 2 * st + 1)) else bif decide (N (191 + 2 * st) = 1) then fordN N i S (N (191 + 2 * st + 1)) else tireN N i (-(N 1 * N (191 + 2 * st + 1) / 10))
theorem brkN_at {N : Nat → Int32} {m : Int32} {j : Nat} (h : j < 12 ∨ 12 < j ∧ j < 63) : ∀ i, brkN N m i j = N j := by
  intro i
  induction i with
  | zero => rfl
  | succ i ih =>
    rw [brkN]
    cases isOnB (brkN N m i) m i && decide (brkN N m i (63 + 8 * i) = 3) with
    | false => exact ih
    | true => rw [cond_true, upd_ne (by omega), countN_at (by omega), ih]
theorem wet1_at {N : Nat → Int32} {i j : Nat} (h : j < 11 ∨ 14 < j ∧ j < 63) : wet1 N i j = N j := by
  rw [wet1, upd_ne (by omega), countN_at (by omega), countN_at (by omega)]
theorem wetN_at {N : Nat → Int32} {m : Int32} {j : Nat} (h : j < 11 ∨ 14 < j ∧ j < 63) : ∀ i, wetN N m i j = N j := by
  intro i
  induction i with
  | zero => rfl
  | succ i ih =>
    rw [wetN]
    cases isOnB (wetN N m i) m i with
    | false => exact ih
    | true => rw [cond_true, wet1_at h, ih]
theorem tireN_ok {N : Nat → Int32} {i j : Nat} {more : Int32} (h : muleOk N j) : muleOk (tireN N i more) j := by
  obtain ⟨s, t, h1, h2, h3, h4, h5⟩ := h
  by_cases e : j = i
  · subst e
    have hc : ∀ v, ∃ t : Nat, clampB v = Int32.ofNat t ∧ t ≤ 100 := by
      intro v
      rw [clampB]
      cases ha : decide (v < 0) with
      | true => exact ⟨0, rfl, by omega⟩
      | false =>
        cases hb : decide (100 < v) with
        | true => exact ⟨100, rfl, by omega⟩
        | false =>
          have ha := of_decide_eq_false ha
          have hb := of_decide_eq_false hb
          rw [Int32.lt_iff_toInt_lt] at ha hb
          rw [show (0 : Int32).toInt = 0 from rfl] at ha
          rw [show (100 : Int32).toInt = 100 from rfl] at hb
          refine ⟨v.toInt.toNat, ?_, by omega⟩
          apply Int32.toInt_inj.mp
          rw [i_toInt (by omega)]
          show v.toInt = _
          omega
    obtain ⟨t2, e1, e2⟩ := hc (N (15 + 8 * j + 1) + more)
    exact ⟨s, t2, by rw [tireN, upd_ne (by omega)]; exact h1, by rw [tireN, upd_at]; exact e1, h3, h4, e2⟩
  · exact ⟨s, t, by rw [tireN, upd_ne (by omega)]; exact h1, by rw [tireN, upd_ne (by omega)]; exact h2, h3, h4, h5⟩
theorem muleOk_congr {N N' : Nat → Int32} {j : Nat} (h1 : N' (15 + 8 * j) = N (15 + 8 * j)) (h2 : N' (15 + 8 * j + 1) = N (15 + 8 * j + 1)) (h : muleOk N j) : muleOk N' j := by
  unfold muleOk
  rw [h1, h2]
  exact h
section MDL
variable {RO : List mE} {d sb : Nat} {ext : List sh} {M : mM}
end MDL
