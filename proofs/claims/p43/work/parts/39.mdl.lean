/-! the model's changes -/
def doM (M : mM) (c : Nat) (N : Nat → Int32) : mM := thr (upM (remM M c) 149 N) 0
theorem rem_149 {M : mM} {c : Nat} : remM M c 149 = M 149 := rfl
theorem packN_at {N : Nat → Int32} {k j : Nat} {m sd : Int32} (h : j < 63 ∨ 190 < j) (hk : k < 16) : packN N k m sd j = N j := by
  rw [packN, upd_ne (by omega), upd_ne (by omega), upd_ne (by omega)]
theorem leaveN_far {N : Nat → Int32} {k j : Nat} {p : Int32} (h : j < 63 ∨ 190 < j) (hk : k < 16) : leaveN N k p j = N j := leaveN_at (by omega) (by omega) (by omega) (by omega)
/-- how many sacks stand in the store -/
def stoN (N : Nat → Int32) : Nat → Nat
  | 0 => 0
  | k + 1 => stoN N k + (bif decide (N (63 + 8 * k + 3) = 0) then 1 else 0)
theorem stoN_le {N : Nat → Int32} : ∀ S, stoN N S ≤ S := by
  intro S
  induction S with
  | zero => exact Nat.le_refl _
  | succ S ih =>
    rw [stoN]
    cases decide (N (63 + 8 * S + 3) = 0)
    · exact Nat.le_succ_of_le ih
    · exact Nat.succ_le_succ ih
theorem stoN_congr {N N' : Nat → Int32} : ∀ S, (∀ i, i < S → N' (63 + 8 * i + 3) = N (63 + 8 * i + 3)) → stoN N' S = stoN N S := by
  intro S
  induction S with
  | zero => intro _; rfl
  | succ S ih => intro h; rw [stoN, stoN, ih (fun i hi => h i (by omega)), h S (by omega)]
theorem stoN_pack {N : Nat → Int32} {k : Nat} {m sd : Int32} (hk : N (63 + 8 * k + 3) = 0) : ∀ S, k < S → stoN (packN N k m sd) S + 1 = stoN N S := by
  intro S
  induction S with
  | zero => intro h; omega
  | succ S ih =>
    intro hS
    rw [stoN, stoN]
    by_cases e : S = k
    · subst e
      rw [show packN N S m sd (63 + 8 * S + 3) = 1 by rw [packN, upd_ne (by omega), upd_ne (by omega), upd_at], hk, stoN_congr S (fun i hi => by rw [packN, upd_ne (by omega), upd_ne (by omega), upd_ne (by omega)])]
      rfl
    · rw [show packN N k m sd (63 + 8 * S + 3) = N (63 + 8 * S + 3) by rw [packN, upd_ne (by omega), upd_ne (by omega), upd_ne (by omega)]]
      have := ih (by omega)
      omega
theorem prN_store {N : Nat → Int32} {k i S : Nat} (h : prN N k i S = 0) : N (63 + 8 * k + 3) = 0 := by
  rw [prN] at h
  cases hd : decide (N (63 + 8 * k + 3) = 0) with
  | true => exact of_decide_eq_true hd
  | false => rw [hd] at h; exact absurd (show (1 : Int32) = 0 from h) (by decide)
theorem stoN_zero {N : Nat → Int32} : ∀ S, stoN N S = 0 → ∀ i, i < S → ¬ N (63 + 8 * i + 3) = 0 := by
  intro S
  induction S with
  | zero => intro _ i h; omega
  | succ S ih =>
    intro h i hi
    rw [stoN] at h
    cases hq : decide (N (63 + 8 * S + 3) = 0) with
    | true => rw [hq] at h; simp at h
    | false =>
      rw [hq] at h
      by_cases e : i = S
      · rw [e]; exact of_decide_eq_false hq
      · exact ih (by simpa using h) i (by omega)
def fill1 (N : Nat → Int32) (i S : Nat) : Nat → Int32 := packN N ((bestI N i S S).getD 0) (Int32.ofNat i) (lightN N (Int32.ofNat i) S)
def fillN (i S : Nat) : Nat → (Nat → Int32) → (Nat → Int32)
  | 0, N => N
  | f + 1, N => bif (bestI N i S S).isSome then fillN i S f (fill1 N i S) else N
def fillK (i S : Nat) : Nat → (Nat → Int32) → Nat
  | 0, _ => 0
  | f + 1, N => bif (bestI N i S S).isSome then fillK i S f (fill1 N i S) + 1 else 0
theorem fillN_s {i S f : Nat} {N : Nat → Int32} : fillN i S (f + 1) N = bif (bestI N i S S).isSome then fillN i S f (fill1 N i S) else N := rfl
theorem fillK_s {i S f : Nat} {N : Nat → Int32} : fillK i S (f + 1) N = bif (bestI N i S S).isSome then fillK i S f (fill1 N i S) + 1 else 0 := rfl
def tiredN (N : Nat → Int32) : Nat → Int32 := sm (fun k => N (15 + 8 * k + 1))
def dropF (N : Nat → Int32) (a b : Nat) : Nat → Int32 := fun j => if a ≤ j ∧ j < b then N (j + 2) else N j
theorem dropF_0 {N : Nat → Int32} {a : Nat} : dropF N a a = N := by
  funext j
  rw [dropF, if_neg (by omega)]
theorem dropF_s {N : Nat → Int32} {a b : Nat} (h : a ≤ b) : upd (dropF N a b) b (dropF N a b (b + 2)) = dropF N a (b + 1) := by
  funext j
  by_cases e : j = b
  · rw [e, upd_at, dropF, dropF, if_neg (by omega), if_pos (by omega)]
  · rw [upd_ne e, dropF, dropF]
    by_cases h : a ≤ j ∧ j < b
    · rw [if_pos h, if_pos (by omega)]
    · rw [if_neg h, if_neg (by omega)]
theorem inB_r {v : Int32} {a n : Nat} (ha : a < 1000000) (hn : n < 1000000) (h : inB v (Int32.ofNat a) (Int32.ofNat n) = true) : ∃ i, a ≤ i ∧ i ≤ n ∧ v = Int32.ofNat i := by
  obtain ⟨h0, h1⟩ := inB_yes h
  rw [Int32.lt_iff_toInt_lt, i_toInt ha] at h0
  rw [Int32.lt_iff_toInt_lt, i_toInt hn] at h1
  refine ⟨v.toInt.toNat, by omega, by omega, ?_⟩
  apply Int32.toInt_inj.mp
  rw [i_toInt (by omega)]
  omega
section MDL
variable {RO : List mE} {d sb : Nat} {ext : List sh} {M : mM} {Q : mQ}
end MDL
