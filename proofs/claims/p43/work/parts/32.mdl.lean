/-! what a lost sack changes; shedding -/
def cntN (N : Nat → Int32) (m : Int32) : Nat → Nat
  | 0 => 0
  | i + 1 => cntN N m i + (bif isOnB N m i then 1 else 0)
theorem upd_at {f : Nat → Int32} {j : Nat} {x : Int32} : upd f j x j = x := if_pos rfl
theorem upd_ne {f : Nat → Int32} {i j : Nat} {x : Int32} (h : i ≠ j) : upd f j x i = f i := if_neg h
theorem countN_at {N : Nat → Int32} {w j : Nat} {x : Int32} (h : j ≠ 8 + w) : countN N w x j = N j := upd_ne h
theorem leaveN_at {N : Nat → Int32} {k j : Nat} {p : Int32} (h3 : j ≠ 63 + 8 * k + 3) (h4 : j ≠ 63 + 8 * k + 4) (h5 : j ≠ 63 + 8 * k + 5) (h6 : j ≠ 63 + 8 * k + 6) : leaveN N k p j = N j := by
  rw [leaveN, upd_ne h6, upd_ne h5, upd_ne h4, upd_ne h3]
theorem leaveN_3 {N : Nat → Int32} {k : Nat} {p : Int32} : leaveN N k p (63 + 8 * k + 3) = p := by
  rw [leaveN, upd_ne (by omega), upd_ne (by omega), upd_ne (by omega), upd_at]
theorem leaveN_4 {N : Nat → Int32} {k : Nat} {p : Int32} : leaveN N k p (63 + 8 * k + 4) = -1 := by
  rw [leaveN, upd_ne (by omega), upd_ne (by omega), upd_at]
theorem isOnB_congr {N N' : Nat → Int32} {m : Int32} {i : Nat} (h3 : N' (63 + 8 * i + 3) = N (63 + 8 * i + 3)) (h4 : N' (63 + 8 * i + 4) = N (63 + 8 * i + 4)) : isOnB N' m i = isOnB N m i := by
  rw [isOnB, isOnB, h3, h4]
theorem leave_off {N : Nat → Int32} {m p : Int32} {k i : Nat} (hp : p ≠ 1) : isOnB (leaveN N k p) m i = (isOnB N m i && !decide (i = k)) := by
  by_cases h : i = k
  · subst h
    rw [isOnB, leaveN_3, decide_eq_false hp, Bool.false_and, decide_eq_true rfl, Bool.not_true, Bool.and_false]
  · rw [isOnB_congr (leaveN_at (by omega) (by omega) (by omega) (by omega)) (leaveN_at (by omega) (by omega) (by omega) (by omega)), decide_eq_false h, Bool.not_false, Bool.and_true]
theorem cntN_le {N : Nat → Int32} {m : Int32} : ∀ S, cntN N m S ≤ S := by
  intro S
  induction S with
  | zero => exact Nat.le_refl _
  | succ S ih =>
    rw [cntN]
    cases isOnB N m S
    · exact Nat.le_succ_of_le ih
    · exact Nat.succ_le_succ ih
theorem cntN_congr {N N' : Nat → Int32} {m : Int32} : ∀ S, (∀ i, i < S → isOnB N' m i = isOnB N m i) → cntN N' m S = cntN N m S := by
  intro S
  induction S with
  | zero => intro _; rfl
  | succ S ih => intro h; rw [cntN, cntN, ih (fun i hi => h i (by omega)), h S (by omega)]
theorem cntN_lost {N N' : Nat → Int32} {m : Int32} {k : Nat} (hk : isOnB N m k = true) (h : ∀ i, isOnB N' m i = (isOnB N m i && !decide (i = k))) : ∀ S, k < S → cntN N' m S + 1 = cntN N m S := by
  intro S
  induction S with
  | zero => intro h; omega
  | succ S ih =>
    intro hS
    rw [cntN, cntN, h S]
    by_cases e : S = k
    · subst e
      rw [decide_eq_true rfl, Bool.not_true, Bool.and_false, hk, cntN_congr (N := N) (N' := N') S (fun i hi => by rw [h i, decide_eq_false (by omega), Bool.not_false, Bool.and_true])]
      rfl
    · have h9 := ih (by omega)
      rw [decide_eq_false e, Bool.not_false, Bool.and_true]
      omega
theorem lostN_off {N : Nat → Int32} {m : Int32} {k i : Nat} : isOnB (lostN N k) m i = (isOnB N m i && !decide (i = k)) := by
  rw [lostN, leave_off (by decide), isOnB_congr (countN_at (by omega)) (countN_at (by omega))]
theorem lostN_at {N : Nat → Int32} {k j : Nat} (h : j < 10 ∨ 10 < j ∧ j < 63) : lostN N k j = N j := by
  rw [lostN, leaveN_at (by omega) (by omega) (by omega) (by omega), countN_at (by omega)]
theorem sm_zero {f : Nat → Int32} : ∀ n, (∀ i, i < n → f i = 0) → sm f n = 0 := by
  intro n
  induction n with
  | zero => intro _; rfl
  | succ n ih => intro h; rw [sm, ih (fun i hi => h i (by omega)), h n (by omega)]; rfl
theorem pick_none {p : Nat → Bool} {better : Nat → Nat → Bool} : ∀ {n : Nat}, pick p better n = none → ∀ i, i < n → p i = false := by
  intro n
  induction n with
  | zero => intro _ i h; omega
  | succ n ih =>
    intro h i hi
    rw [pick] at h
    cases hp : pick p better n with
    | none =>
      rw [hp] at h
      replace h : (bif p n then some n else none) = none := h
      cases hq : p n with
      | true => rw [hq] at h; cases h
      | false =>
        by_cases e : i = n
        · rw [e]; exact hq
        · exact ih hp i (by omega)
    | some c =>
      rw [hp] at h
      replace h : (bif p n && better n c then some n else some c) = none := h
      cases hq : p n && better n c <;> (rw [hq] at h; cases h)
theorem load_zero {N : Nat → Int32} {m : Int32} {S : Nat} (h : ∀ i, i < S → isOnB N m i = false) : loadN N m S = 0 := by
  rw [loadN, wOn, wOn, sm_zero S (fun i hi => by rw [h i hi]; rfl), sm_zero S (fun i hi => by rw [h i hi]; rfl)]
  rfl
theorem cntN_zero {N : Nat → Int32} {m : Int32} : ∀ S, cntN N m S = 0 → ∀ i, i < S → isOnB N m i = false := by
  intro S
  induction S with
  | zero => intro _ i h; omega
  | succ S ih =>
    intro h i hi
    rw [cntN] at h
    cases hq : isOnB N m S with
    | true => rw [hq] at h; simp at h
    | false =>
      rw [hq] at h
      by_cases e : i = S
      · rw [e]; exact hq
      · exact ih (by simpa using h) i (by omega)
theorem poor_some {N : Nat → Int32} {m lim : Int32} {S : Nat} (hl : ¬ lim < 0) (h : lim < loadN N m S) : ∃ k, poorI N m S = some k ∧ k < S ∧ isOnB N m k = true := by
  cases hp : poorI N m S with
  | none => rw [load_zero (pick_none hp)] at h; exact absurd h hl
  | some k => exact ⟨k, rfl, pick_lt hp⟩
def shedN (m lim : Int32) (S : Nat) : Nat → (Nat → Int32) → (Nat → Int32)
  | 0, N => N
  | f + 1, N => bif decide (lim < loadN N m S) then shedN m lim S f (lostN N ((poorI N m S).getD 0)) else N
def shedK (m lim : Int32) (S : Nat) : Nat → (Nat → Int32) → Nat
  | 0, _ => 0
  | f + 1, N => bif decide (lim < loadN N m S) then shedK m lim S f (lostN N ((poorI N m S).getD 0)) + 1 else 0
theorem shedN_s {m lim : Int32} {S f : Nat} {N : Nat → Int32} : shedN m lim S (f + 1) N = bif decide (lim < loadN N m S) then shedN m lim S f (lostN N ((poorI N m S).getD 0)) else N := rfl
theorem shedK_s {m lim : Int32} {S f : Nat} {N : Nat → Int32} : shedK m lim S (f + 1) N = bif decide (lim < loadN N m S) then shedK m lim S f (lostN N ((poorI N m S).getD 0)) + 1 else 0 := rfl
theorem shedN_at {m lim : Int32} {S : Nat} {j : Nat} (h : j < 10 ∨ 10 < j ∧ j < 63) : ∀ (f : Nat) (N : Nat → Int32), shedN m lim S f N j = N j := by
  intro f
  induction f with
  | zero => intro N; rfl
  | succ f ih =>
    intro N
    rw [shedN_s]
    cases decide (lim < loadN N m S) with
    | false => rfl
    | true =>
      rw [cond_true, ih, lostN_at h]
section MDL
variable {RO : List mE} {d sb : Nat} {ext : List sh} {M : mM}
end MDL
