/-! the end of a trip: delivered, paid, told -/
theorem del1_ne {N : Nat → Int32} {k i c : Nat} (h : i ≠ k) (hc : c < 8) : del1 N k (63 + 8 * i + c) = N (63 + 8 * i + c) := by
  rw [del1, leaveN_ne h hc, del1_pre (by omega)]
theorem del1_3 {N : Nat → Int32} {k : Nat} : del1 N k (63 + 8 * k + 3) = 2 := leaveN_3
theorem del1_6 {N : Nat → Int32} {k : Nat} : del1 N k (63 + 8 * k + 6) = N 6 := by
  rw [del1, leaveN_6, show decide ((2 : Int32) = 0) = false from by decide, cond_false, upd_ne (by omega), countN, upd_ne (by omega)]
theorem del1_9 {N : Nat → Int32} {k : Nat} (hk : k < 16) : del1 N k 9 = N 9 + N (63 + 8 * k + 2) ∧ del1 N k 7 = N 7 + N (63 + 8 * k + 2) ∧ del1 N k 8 = N 8 := by
  refine ⟨?_, ?_, ?_⟩
  · rw [del1, leaveN_far (Or.inl (by omega)) hk, upd_ne (by omega), countN]; exact upd_at
  · rw [del1, leaveN_far (Or.inl (by omega)) hk, upd_at, countN, upd_ne (by omega), upd_ne (by omega)]
  · rw [del1, leaveN_far (Or.inl (by omega)) hk, upd_ne (by omega), countN, upd_ne (by omega)]
theorem vOk_del1 {N : Nat → Int32} {S k : Nat} (hS : S ≤ 16) (hk : k < S) (h1 : N (63 + 8 * k + 3) = 1) (hv : vOk N S) (hd : dayOk N) : vOk (del1 N k) S := by
  obtain ⟨D, d1, d2⟩ := hd
  obtain ⟨a, b, c1, c2, c3⟩ := id hv
  have lo : ∀ j, (j < 7 ∨ 9 < j ∧ j < 63) → del1 N k j = N j := fun j hj => del1_at (by omega) (by omega)
  have wc : ∀ i c, c < 8 → c ≠ 3 → c ≠ 4 → c ≠ 5 → c ≠ 6 → del1 N k (63 + 8 * i + c) = N (63 + 8 * i + c) := fun i c hc e3 e4 e5 e6 => del1_c hc e3 e4 e5 e6
  obtain ⟨n9, n7, n8⟩ := del1_9 (N := N) (k := k) (by omega)
  have hd2 : delW (del1 N k) S = delW N S + N (63 + 8 * k + 2) := by
    have e := sm_one (f := fun i => bif decide (N (63 + 8 * i + 3) = 2) then N (63 + 8 * i + 2) else 0) (g := fun i => bif decide (del1 N k (63 + 8 * i + 3) = 2) then del1 N k (63 + 8 * i + 2) else 0) (k := k) S hk (fun i hi hne => by
      show (bif decide (del1 N k (63 + 8 * i + 3) = 2) then del1 N k (63 + 8 * i + 2) else 0) = (bif decide (N (63 + 8 * i + 3) = 2) then N (63 + 8 * i + 2) else 0)
      rw [del1_ne hne (by omega), del1_ne hne (by omega)])
    have z1 : (bif decide (N (63 + 8 * k + 3) = 2) then N (63 + 8 * k + 2) else 0) = 0 := by rw [h1, show decide ((1 : Int32) = 2) = false from by decide, cond_false]
    have z2 : (bif decide (del1 N k (63 + 8 * k + 3) = 2) then del1 N k (63 + 8 * k + 2) else 0) = N (63 + 8 * k + 2) := by rw [del1_3, show decide ((2 : Int32) = 2) = true from by decide, cond_true, wc k 2 (by omega) (by omega) (by omega) (by omega) (by omega)]
    rw [z1, z2, Int32.add_zero] at e
    exact e
  refine ⟨fun i hi => ?_, ⟨by rw [lo 0 (by omega)]; exact b.1, by rw [lo 2 (by omega)]; exact b.2⟩, ?_, ?_, ?_⟩
  · by_cases e : i = k
    · subst e
      obtain ⟨v, w, g1, g2, g3, g4, p, q1, q2, q3, q4⟩ := a i hi
      exact ⟨v, w, by rw [wc i 2 (by omega) (by omega) (by omega) (by omega) (by omega)]; exact g1, by rw [wc i 7 (by omega) (by omega) (by omega) (by omega) (by omega)]; exact g2, g3, g4, 2, by omega, del1_3, fun h => absurd h (by omega), fun _ => ⟨D, by rw [del1_6]; exact d1, d2⟩⟩
    · exact sackV_congr (fun c hc _ _ => del1_ne e hc) (a i hi)
  · rw [n9, hd2, c1]
  · rw [n7, n9, lo 13 (by omega)]
    exact x_mon c2 rfl
  · have e := sm_one (f := gapF N) (g := gapF (del1 N k)) (k := k) S hk (fun i hi hne => by rw [gapF, gapF, del1_ne hne (by omega), del1_ne hne (by omega)])
    rw [gapF_1 h1, show gapF (del1 N k) k = 0 from by rw [gapF, del1_3, show decide ((1 : Int32) < 2) = true from by decide, cond_true], ← gapW_eq, ← gapW_eq, Int32.add_zero] at e
    rw [show gapT (del1 N k) S = gapT N S from sm_congr (fun i hi => wc i 7 (by omega) (by omega) (by omega) (by omega) (by omega)), n9, lo 10 (by omega), lo 11 (by omega), lo 12 (by omega)]
    exact x_del c3 e
theorem vOk_del {N : Nat → Int32} {S : Nat} (hS : S ≤ 16) (hv : vOk N S) (hd : dayOk N) : ∀ k, k ≤ S → vOk (delN N k) S ∧ (delN N k 6 = N 6 ∧ delN N k 8 = N 8) ∧ (∀ i, i < S → delN N k (63 + 8 * i + 2) = N (63 + 8 * i + 2)) ∧ (∀ i, i < k → N (63 + 8 * i + 3) = 1 → delN N k (63 + 8 * i + 3) = 2) ∧ ∀ i, i < S → (k ≤ i ∨ ¬ N (63 + 8 * i + 3) = 1) → delN N k (63 + 8 * i + 3) = N (63 + 8 * i + 3) := by
  intro k
  induction k with
  | zero => intro _; exact ⟨hv, ⟨rfl, rfl⟩, fun _ _ => rfl, fun i hi => absurd hi (Nat.not_lt_zero _), fun _ _ _ => rfl⟩
  | succ k ih =>
    intro hk
    obtain ⟨a, ⟨b, b2⟩, c, e, f⟩ := ih (by omega)
    have fk := f k (by omega) (Or.inl (Nat.le_refl _))
    rw [delN]
    cases h : decide (delN N k (63 + 8 * k + 3) = 1) with
    | false =>
      have h9 := of_decide_eq_false h
      rw [cond_false]
      refine ⟨a, ⟨b, b2⟩, c, fun i hi h1 => ?_, fun i hi h1 => ?_⟩
      · by_cases e2 : i = k
        · subst e2; rw [fk] at h9; exact absurd h1 h9
        · exact e i (by omega) h1
      · by_cases e2 : i = k
        · subst e2; exact fk
        · exact f i hi (h1.imp (fun h => by omega) id)
    | true =>
      have h9 := of_decide_eq_true h
      have h9' := fk.symm.trans h9
      rw [cond_true]
      generalize delN N k = X at *
      have d1 := del1_9 (N := X) (k := k) (by omega)
      refine ⟨vOk_del1 hS (by omega) h9 a (dayOk_of b hd), ⟨(del1_at (by omega) (by omega)).trans b, d1.2.2.trans b2⟩, fun i hi => (del1_c (by omega) (by omega) (by omega) (by omega) (by omega)).trans (c i hi), fun i hi h1 => ?_, fun i hi h1 => ?_⟩
      · by_cases e2 : i = k
        · subst e2; exact del1_3
        · exact (del1_ne e2 (by omega)).trans (e i (by omega) h1)
      · have e2 : i ≠ k := by
          rintro rfl
          rcases h1 with h1 | h1
          · omega
          · exact h1 h9'
        exact (del1_ne e2 (by omega)).trans (f i hi (h1.imp (fun h => by omega) id))
theorem x_pay {a b c x : Int32} (h : a + b = c) : (a - x) + (b + x) = c := by grind
theorem vOk_pay1 {N : Nat → Int32} {S : Nat} {w : Int32} (hv : vOk N S) : vOk (pay1 N w) S := by
  obtain ⟨a, b, c1, c2, c3⟩ := id hv
  have lo : ∀ j, j ≠ 7 → j ≠ 13 → pay1 N w j = N j := fun j h1 h2 => pay1_at h1 h2
  have n7 : pay1 N w 7 = N 7 - w * N 2 := by rw [pay1, countN, upd_ne (by omega), upd_at]
  have n13 : pay1 N w 13 = N 13 + w * N 2 := by rw [pay1, countN, upd_at, upd_ne (by omega), upd_ne (by omega)]
  have hk : ∀ i c, pay1 N w (63 + 8 * i + c) = N (63 + 8 * i + c) := fun i c => lo _ (by omega) (by omega)
  refine ⟨fun i hi => sackV_congr (fun c _ _ _ => hk i c) (a i hi), ⟨by rw [lo 0 (by omega) (by omega)]; exact b.1, by rw [lo 2 (by omega) (by omega)]; exact b.2⟩, ?_, ?_, ?_⟩
  · rw [lo 9 (by omega) (by omega), c1]
    exact sm_congr (fun i hi => by rw [hk, hk])
  · rw [n7, n13, lo 9 (by omega) (by omega)]
    exact x_pay c2
  · rw [lo 9 (by omega) (by omega), lo 10 (by omega) (by omega), lo 11 (by omega) (by omega), lo 12 (by omega) (by omega), show gapT (pay1 N w) S = gapT N S from sm_congr (fun i hi => hk i 7), show gapW (pay1 N w) S = gapW N S from sm_congr (fun i hi => by rw [hk, hk])]
    exact c3
theorem vOk_pay {g N : Nat → Int32} {S : Nat} (hv : vOk N S) : ∀ k, vOk (payN g N k) S := by
  intro k
  induction k with
  | zero => exact hv
  | succ k ih => exact vOk_pay1 ih
theorem end_at {N : Nat → Int32} {j : Nat} (h : j ≠ 8) (h6 : j ≠ 6) : endN N j = N j := by
  rw [endN, upd_ne h6, countN, upd_ne (by omega)]
theorem vOk_end {N : Nat → Int32} {S : Nat} (hv : vOk N S) : vOk (endN N) S := by
  obtain ⟨a, b, c1, c2, c3⟩ := id hv
  have lo : ∀ j, j ≠ 8 → j ≠ 6 → endN N j = N j := fun j h1 h2 => end_at h1 h2
  have hk : ∀ i c, endN N (63 + 8 * i + c) = N (63 + 8 * i + c) := fun i c => lo _ (by omega) (by omega)
  refine ⟨fun i hi => sackV_congr (fun c _ _ _ => hk i c) (a i hi), ⟨by rw [lo 0 (by omega) (by omega)]; exact b.1, by rw [lo 2 (by omega) (by omega)]; exact b.2⟩, ?_, ?_, ?_⟩
  · rw [lo 9 (by omega) (by omega), c1]
    exact sm_congr (fun i hi => by rw [hk, hk])
  · rw [lo 7 (by omega) (by omega), lo 13 (by omega) (by omega), lo 9 (by omega) (by omega)]; exact c2
  · rw [lo 9 (by omega) (by omega), lo 10 (by omega) (by omega), lo 11 (by omega) (by omega), lo 12 (by omega) (by omega), show gapT (endN N) S = gapT N S from sm_congr (fun i hi => hk i 7), show gapW (endN N) S = gapW N S from sm_congr (fun i hi => by rw [hk, hk])]
    exact c3
/-- all of a trip -/
theorem trip_v {G0 N : Nat → Int32} {m S t : Nat} (hR : rOk N m S t) (hv : vOk N S) : vOk (trN G0 N m S t) S ∧ trN G0 N m S t 8 = N 8 + 1 ∧ ∀ k, k < S → ¬ trN G0 N m S t (63 + 8 * k + 3) = 1 ∧ (N (63 + 8 * k + 3) = 1 → trN G0 N m S t (63 + 8 * k + 3) = 2 ∨ trN G0 N m S t (63 + 8 * k + 3) = 3) ∧ (¬ N (63 + 8 * k + 3) = 1 → trN G0 N m S t (63 + 8 * k + 3) = N (63 + 8 * k + 3)) ∧ ∃ v v' : Nat, N (63 + 8 * k + 2) = Int32.ofNat v ∧ trN G0 N m S t (63 + 8 * k + 2) = Int32.ofNat v' ∧ v' ≤ v ∧ v ≤ 999 := by
  have hrow := hR.1.1
  have hS := hrow.2.2.2.2.1
  have hd : dayOk N := hR.2.2.2.1
  obtain ⟨a, ⟨b, b8⟩, c⟩ := Wst_way (g := gN G0 N S m) hrow t (Nat.le_refl _) hv hd
  unfold trN tripsN
  generalize wayN (gN G0 N S m) m S N t = X at *
  obtain ⟨d1, ⟨d2, d8⟩, d3, d4, d5⟩ := vOk_del hS a (dayOk_of b hd) S (Nat.le_refl _)
  generalize delN X S = Y at *
  have p1 := vOk_pay (g := gN G0 N S m) d1 m
  have pa : ∀ j, j ≠ 7 → j ≠ 13 → payN (gN G0 N S m) Y m j = Y j := fun j h1 h2 => payN_at h1 h2 m
  generalize payN (gN G0 N S m) Y m = Z at *
  have fin : ∀ i c, endN Z (63 + 8 * i + c) = Y (63 + 8 * i + c) := fun i c => (end_at (by omega) (by omega)).trans (pa _ (by omega) (by omega))
  refine ⟨vOk_end p1, ?_, fun k hk => ?_⟩
  · rw [endN, upd_ne (by omega), countN, upd_at, pa 8 (by omega) (by omega), d8, b8]
  · obtain ⟨w1, v, v', w2, w3, w4, w5⟩ := c k hk
    have h2 : endN Z (63 + 8 * k + 2) = X (63 + 8 * k + 2) := (fin k 2).trans (d3 k hk)
    by_cases h1 : X (63 + 8 * k + 3) = 1
    · have hN1 : N (63 + 8 * k + 3) = 1 := by
        rcases w1 with w1 | w1
        · exact w1.symm.trans h1
        · exact w1.1
      have hT := (fin k 3).trans (d4 k hk h1)
      exact ⟨by rw [hT]; decide, fun _ => Or.inl hT, fun h => absurd hN1 h, v, v', w2, h2.trans w3, w4, w5⟩
    · have hT := (fin k 3).trans (d5 k hk (Or.inr h1))
      refine ⟨by rw [hT]; exact h1, fun h => ?_, fun h => ?_, v, v', w2, h2.trans w3, w4, w5⟩
      · rcases w1 with w1 | w1
        · exact absurd (w1.trans h) h1
        · exact Or.inr (hT.trans w1.2)
      · rcases w1 with w1 | w1
        · exact hT.trans w1
        · exact absurd w1.1 h
/-! where no one goes, nothing comes; who doesn't go is as tired as before -/
theorem goes_zero {N : Nat → Int32} {S k : Nat} (hS : S ≤ 16) (h : ∀ i, i < S → isOnB N (Int32.ofNat k) i = false) : goesI N S k = 0 := by
  have hc : cntN N (Int32.ofNat k) S = 0 := by
    have key : ∀ n, n ≤ S → cntN N (Int32.ofNat k) n = 0 := by
      intro n
      induction n with
      | zero => intro _; rfl
      | succ n ih => intro hn; rw [cntN, ih (by omega), h n (by omega)]; rfl
    exact key S (Nat.le_refl _)
  rw [goesI, sOn_cnt S, hc]
  rfl
theorem leg_none {g N : Nat → Int32} {st S : Nat} : ∀ k, (∀ i, i < k → ¬ g i = 1) → legN g st S N k = N := by
  intro k
  induction k with
  | zero => intro _; rfl
  | succ k ih => intro h; rw [legN, decide_eq_false (h k (by omega)), cond_false, ih (fun i hi => h i (by omega))]
theorem way_none {g N : Nat → Int32} {m S : Nat} (h : ∀ i, i < m → ¬ g i = 1) : ∀ st, wayN g m S N st = N := by
  intro st
  induction st with
  | zero => rfl
  | succ st ih => rw [wayN, leg_none m h, ih]
theorem del_none {N : Nat → Int32} : ∀ k, (∀ i, i < k → ¬ N (63 + 8 * i + 3) = 1) → delN N k = N := by
  intro k
  induction k with
  | zero => intro _; rfl
  | succ k ih => intro h; rw [delN, ih (fun i hi => h i (by omega)), decide_eq_false (h k (by omega)), cond_false]
theorem pay_none {g N : Nat → Int32} : ∀ k, (∀ i, i < k → g i = 0) → payN g N k 7 = N 7 := by
  intro k
  induction k with
  | zero => intro _; rfl
  | succ k ih =>
    intro h
    rw [payN, h k (by omega), pay1, countN, upd_ne (by omega), upd_at, ih (fun i hi => h i (by omega)), Int32.zero_mul, Int32.sub_zero]
theorem trip_none {G0 N : Nat → Int32} {m S t : Nat} (hS : S ≤ 16) (h : ∀ k, k < S → ¬ N (63 + 8 * k + 3) = 1) : trN G0 N m S t 7 = N 7 := by
  have hg : ∀ i, i < m → gN G0 N S m i = 0 := fun i hi => by
    rw [gN_at m hi]
    refine goes_zero hS (fun k hk => ?_)
    rw [isOnB, decide_eq_false (h k hk), Bool.false_and]
  unfold trN tripsN
  rw [way_none (fun i hi => by rw [hg i hi]; decide) t, del_none S h, end_at (by omega) (by omega), pay_none m hg]
theorem leg_tired {g N : Nat → Int32} {st S i : Nat} (hS : S ≤ 16) (hg : ¬ g i = 1) (hi : i < 6) : ∀ k, k ≤ 6 → legN g st S N k (15 + 8 * i + 1) = N (15 + 8 * i + 1) := by
  intro k
  induction k with
  | zero => intro _; rfl
  | succ k ih =>
    intro hk
    rw [legN]
    cases hd : decide (g k = 1) with
    | false => exact ih (by omega)
    | true =>
      have e : i ≠ k := by rintro rfl; exact hg (of_decide_eq_true hd)
      rw [cond_true, passN_at hS (by omega) (by omega)]
      exact ih (by omega)
theorem way_tired {g N : Nat → Int32} {m S i : Nat} (hS : S ≤ 16) (hm : m ≤ 6) (hg : ¬ g i = 1) (hi : i < 6) : ∀ st, wayN g m S N st (15 + 8 * i + 1) = N (15 + 8 * i + 1) := by
  intro st
  induction st with
  | zero => rfl
  | succ st ih => rw [wayN, leg_tired hS hg hi m hm, ih]
theorem trip_tired {G0 N : Nat → Int32} {m S t i : Nat} (hS : S ≤ 16) (hm : m ≤ 6) (hi : i < m) (h : ∀ k, k < S → isOnB N (Int32.ofNat i) k = false) : trN G0 N m S t (15 + 8 * i + 1) = N (15 + 8 * i + 1) := by
  unfold trN tripsN
  rw [end_at (by omega) (by omega), payN_at (by omega) (by omega), delN_at (by omega) S hS, way_tired hS hm (by rw [gN_at m hi, goes_zero hS h]; decide) (by omega)]
