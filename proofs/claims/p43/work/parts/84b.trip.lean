/-! a trip: what is worth and money keeps; what becomes of sacks and mules -/
theorem x_gap {T a b c d g g' x y : Int32} (h : T = a + b + c + d + g) (e : g' + x = g + y) : T = a + (b + (x - y)) + c + d + g' ∧ T = a + b + (c + (x - y)) + d + g' ∧ T = a + b + c + (d + (x - y)) + g' := by
  refine ⟨?_, ?_, ?_⟩ <;> grind
theorem x_del {T a b c d g g' x : Int32} (h : T = a + b + c + d + g) (e : g' + x = g) : T = (a + x) + b + c + d + g' := by grind
theorem x_mon {a b d d' x : Int32} (h : a + b = d) (e : d' = d + x) : (a + x) + b = d' := by grind
def wle (N N' : Nat → Int32) (k : Nat) : Prop := (N' (63 + 8 * k + 3) = N (63 + 8 * k + 3) ∨ N (63 + 8 * k + 3) = 1 ∧ N' (63 + 8 * k + 3) = 3) ∧ ∃ v v' : Nat, N (63 + 8 * k + 2) = Int32.ofNat v ∧ N' (63 + 8 * k + 2) = Int32.ofNat v' ∧ v' ≤ v ∧ v ≤ 999
def dayOk (N : Nat → Int32) : Prop := ∃ D, N 6 = Int32.ofNat D ∧ D ≤ 9999
def Wst (S : Nat) (N N' : Nat → Int32) : Prop := vOk N S → dayOk N → vOk N' S ∧ (N' 6 = N 6 ∧ N' 8 = N 8) ∧ ∀ k, k < S → wle N N' k
theorem Wst.refl {S : Nat} {N : Nat → Int32} : Wst S N N := fun h _ => ⟨h, ⟨rfl, rfl⟩, fun k hk => by
  obtain ⟨v, w, h1, _, h3, h4, _⟩ := h.1 k hk
  exact ⟨Or.inl rfl, v, v, h1, h1, Nat.le_refl _, by omega⟩⟩
theorem dayOk_of {N N' : Nat → Int32} (h : N' 6 = N 6) (hd : dayOk N) : dayOk N' := by
  obtain ⟨D, h1, h2⟩ := hd
  exact ⟨D, h.trans h1, h2⟩
theorem Wst.trans {S : Nat} {N N' N'' : Nat → Int32} (h : Wst S N N') (h' : Wst S N' N'') : Wst S N N'' := fun hv hd => by
  obtain ⟨a, ⟨b, b2⟩, c⟩ := h hv hd
  obtain ⟨a', ⟨b', b2'⟩, c'⟩ := h' a (dayOk_of b hd)
  refine ⟨a', ⟨b'.trans b, b2'.trans b2⟩, fun k hk => ?_⟩
  obtain ⟨p, v, v1, e1, e2, e3, e4⟩ := c k hk
  obtain ⟨p', u, u1, f1, f2, f3, f4⟩ := c' k hk
  have := i_inj (by omega) (by omega) (e2.symm.trans f1)
  refine ⟨?_, v, u1, e1, f2, by omega, e4⟩
  rcases p with p | ⟨p, q⟩
  · rcases p' with p' | ⟨p', q'⟩
    · exact Or.inl (p'.trans p)
    · exact Or.inr ⟨p ▸ p', q'⟩
  · rcases p' with p' | ⟨p', q'⟩
    · exact Or.inr ⟨p, p'.trans q⟩
    · rw [q] at p'; exact absurd p' (by decide)
theorem wle_same {N N' : Nat → Int32} {S k : Nat} (hv : vOk N S) (hk : k < S) (h2 : N' (63 + 8 * k + 2) = N (63 + 8 * k + 2)) (h3 : N' (63 + 8 * k + 3) = N (63 + 8 * k + 3)) : wle N N' k := by
  obtain ⟨v, w, h1, _, h5, h4, _⟩ := hv.1 k hk
  exact ⟨Or.inl h3, v, v, h1, h2.trans h1, Nat.le_refl _, by omega⟩
theorem on_1 {N : Nat → Int32} {mm : Int32} {k : Nat} (h : isOnB N mm k = true) : N (63 + 8 * k + 3) = 1 := by
  rw [isOnB, Bool.and_eq_true] at h
  exact of_decide_eq_true h.1
theorem gapF_1 {N : Nat → Int32} {k : Nat} (h : N (63 + 8 * k + 3) = 1) : gapF N k = N (63 + 8 * k + 2) := by
  rw [gapF, h, show decide ((1 : Int32) < 1) = false from by decide, cond_false]
theorem Wst_lost {N : Nat → Int32} {S k : Nat} (hS : S ≤ 16) (hk : k < S) (h1 : N (63 + 8 * k + 3) = 1) : Wst S N (lostN N k) := fun hv hd => by
  obtain ⟨D, d1, d2⟩ := hd
  obtain ⟨a, b, c1, c2, c3⟩ := id hv
  have far : ∀ j, j < 63 → j ≠ 10 → lostN N k j = N j := fun j hj h10 => lostN_at (by omega)
  have far10 : lostN N k 10 = N 10 + N (63 + 8 * k + 2) := by
    rw [lostN, leaveN_far (Or.inl (by omega)) (by omega), countN]; exact upd_at
  have wc : ∀ i c, c < 8 → c ≠ 3 → c ≠ 4 → c ≠ 5 → c ≠ 6 → lostN N k (63 + 8 * i + c) = N (63 + 8 * i + c) := fun i c hc e3 e4 e5 e6 => by
    rw [lostN, leaveN_w hc e3 e4 e5 e6, countN, upd_ne (by omega)]
  have ne : ∀ i c, i ≠ k → c < 8 → lostN N k (63 + 8 * i + c) = N (63 + 8 * i + c) := fun i c hi hc => by
    rw [lostN, leaveN_ne hi hc, countN, upd_ne (by omega)]
  have p3 : lostN N k (63 + 8 * k + 3) = 3 := leaveN_3
  have p6 : lostN N k (63 + 8 * k + 6) = N 6 := by
    rw [lostN, leaveN_6, show decide ((3 : Int32) = 0) = false from by decide, cond_false, countN, upd_ne (by omega)]
  refine ⟨⟨fun i hi => ?_, ⟨by rw [far 0 (by omega) (by omega)]; exact b.1, by rw [far 2 (by omega) (by omega)]; exact b.2⟩, ?_, ?_, ?_⟩, ⟨far 6 (by omega) (by omega), far 8 (by omega) (by omega)⟩, fun i hi => ?_⟩
  · by_cases e : i = k
    · subst e
      obtain ⟨v, w, g1, g2, g3, g4, p, q1, q2, q3, q4⟩ := a i hi
      exact ⟨v, w, by rw [wc i 2 (by omega) (by omega) (by omega) (by omega) (by omega)]; exact g1, by rw [wc i 7 (by omega) (by omega) (by omega) (by omega) (by omega)]; exact g2, g3, g4, 3, by omega, p3, fun h => absurd h (by omega), fun _ => ⟨D, by rw [p6]; exact d1, d2⟩⟩
    · exact sackV_congr (fun c hc _ _ => ne i c e hc) (a i hi)
  · rw [far 9 (by omega) (by omega), c1]
    refine sm_congr (fun i hi => ?_)
    by_cases e : i = k
    · subst e
      rw [p3, h1, show decide ((3 : Int32) = 2) = false from by decide, show decide ((1 : Int32) = 2) = false from by decide, cond_false, cond_false]
    · rw [ne i 3 e (by omega), ne i 2 e (by omega)]
  · rw [far 7 (by omega) (by omega), far 13 (by omega) (by omega), far 9 (by omega) (by omega)]; exact c2
  · rw [far 9 (by omega) (by omega), far 11 (by omega) (by omega), far 12 (by omega) (by omega), far10, show gapT (lostN N k) S = gapT N S from sm_congr (fun i hi => wc i 7 (by omega) (by omega) (by omega) (by omega) (by omega))]
    have e := sm_one (f := gapF N) (g := gapF (lostN N k)) (k := k) S hk (fun i hi hne => by rw [gapF, gapF, ne i 3 hne (by omega), ne i 2 hne (by omega)])
    rw [gapF_1 h1, show gapF (lostN N k) k = 0 from by rw [gapF, p3, show decide ((1 : Int32) < 3) = true from by decide, cond_true], ← gapW_eq, ← gapW_eq] at e
    have := (x_gap c3 e).1
    rw [Int32.sub_zero] at this
    exact this
  · by_cases e : i = k
    · subst e
      obtain ⟨v, w, g1, _, g3, g4, _⟩ := a i hi
      exact ⟨Or.inr ⟨h1, p3⟩, v, v, g1, (wc i 2 (by omega) (by omega) (by omega) (by omega) (by omega)).trans g1, Nat.le_refl _, by omega⟩
    · exact wle_same hv hi (ne i 2 e (by omega)) (ne i 3 e (by omega))
/-- a packed sack's worth sinks, and what it lost is counted -/
theorem Wst_sink {N N' : Nat → Int32} {S k z : Nat} {y : Int32} (hz : z = 11 ∨ z = 12) (hk : k < S) (h1 : N (63 + 8 * k + 3) = 1) (hw : N' (63 + 8 * k + 2) = y) (hzz : N' z = N z + (N (63 + 8 * k + 2) - y)) (hy : ∀ v, N (63 + 8 * k + 2) = Int32.ofNat v → v ≤ 999 → ∃ u, y = Int32.ofNat u ∧ u ≤ v) (lo : ∀ j, j < 63 → j ≠ z → j ≠ 14 → N' j = N j) (hi' : ∀ i c, c < 8 → (i ≠ k ∨ c ≠ 2) → N' (63 + 8 * i + c) = N (63 + 8 * i + c)) : Wst S N N' := fun hv hd => by
  obtain ⟨a, b, c1, c2, c3⟩ := id hv
  refine ⟨⟨fun i hi => ?_, ⟨by rw [lo 0 (by omega) (by omega) (by omega)]; exact b.1, by rw [lo 2 (by omega) (by omega) (by omega)]; exact b.2⟩, ?_, ?_, ?_⟩, ⟨lo 6 (by omega) (by omega) (by omega), lo 8 (by omega) (by omega) (by omega)⟩, fun i hi => ?_⟩
  · by_cases e : i = k
    · subst e
      obtain ⟨v, w, g1, g2, g3, g4, p, q1, q2, q3, q4⟩ := a i hi
      obtain ⟨u, u1, u2⟩ := hy v g1 (by omega)
      exact ⟨u, w, hw.trans u1, by rw [hi' i 7 (by omega) (Or.inr (by omega))]; exact g2, by omega, g4, p, q1, by rw [hi' i 3 (by omega) (Or.inr (by omega))]; exact q2, fun h => by rw [hi' i 6 (by omega) (Or.inr (by omega))]; exact q3 h, fun h => by rw [hi' i 6 (by omega) (Or.inr (by omega))]; exact q4 h⟩
    · exact sackV_congr (fun c hc _ _ => hi' i c hc (Or.inl e)) (a i hi)
  · rw [lo 9 (by omega) (by omega) (by omega), c1]
    refine sm_congr (fun i hi => ?_)
    rw [hi' i 3 (by omega) (Or.inr (by omega))]
    by_cases e : i = k
    · subst e
      rw [h1, show decide ((1 : Int32) = 2) = false from by decide, cond_false, cond_false]
    · rw [hi' i 2 (by omega) (Or.inl e)]
  · rw [lo 7 (by omega) (by omega) (by omega), lo 13 (by omega) (by omega) (by omega), lo 9 (by omega) (by omega) (by omega)]; exact c2
  · have e := sm_one (f := gapF N) (g := gapF N') (k := k) S hk (fun i hi hne => by rw [gapF, gapF, hi' i 3 (by omega) (Or.inl hne), hi' i 2 (by omega) (Or.inl hne)])
    rw [gapF_1 h1, gapF_1 ((hi' k 3 (by omega) (Or.inr (by omega))).trans h1), hw, ← gapW_eq, ← gapW_eq] at e
    rw [show gapT N' S = gapT N S from sm_congr (fun i hi => hi' i 7 (by omega) (Or.inr (by omega))), lo 9 (by omega) (by omega) (by omega), lo 10 (by omega) (by omega) (by omega)]
    rcases hz with rfl | rfl
    · rw [hzz, lo 12 (by omega) (by omega) (by omega)]
      exact (x_gap c3 e).2.1
    · rw [hzz, lo 11 (by omega) (by omega) (by omega)]
      exact (x_gap c3 e).2.2
  · by_cases e : i = k
    · subst e
      obtain ⟨v, w, g1, _, g3, g4, _⟩ := a i hi
      obtain ⟨u, u1, u2⟩ := hy v g1 (by omega)
      exact ⟨Or.inl (hi' i 3 (by omega) (Or.inr (by omega))), v, u, g1, hw.trans u1, u2, by omega⟩
    · exact wle_same hv hi (hi' i 2 (by omega) (Or.inl e)) (hi' i 3 (by omega) (Or.inl e))
theorem Wst_shed {S : Nat} {mm lim : Int32} (hS : S ≤ 16) (hl : ¬ lim < 0) : ∀ (f : Nat) (N : Nat → Int32), Wst S N (shedN mm lim S f N) := by
  intro f
  induction f with
  | zero => intro N; exact Wst.refl
  | succ f ih =>
    intro N
    rw [shedN_s]
    cases h : decide (lim < loadN N mm S) with
    | false => exact Wst.refl
    | true =>
      obtain ⟨k, e, hk, ho⟩ := poor_some hl (of_decide_eq_true h)
      rw [cond_true, e]
      exact (Wst_lost hS hk (on_1 ho)).trans (ih _)
theorem Wst_brk {S : Nat} {N : Nat → Int32} {mm : Int32} (hS : S ≤ 16) : ∀ i, i ≤ S → Wst S N (brkN N mm i) := by
  intro i
  induction i with
  | zero => intro _; exact Wst.refl
  | succ i ih =>
    intro hi
    refine (ih (by omega)).trans ?_
    rw [brkN]
    cases h : isOnB (brkN N mm i) mm i && decide (brkN N mm i (63 + 8 * i) = 3) with
    | false => exact Wst.refl
    | true =>
      rw [cond_true]
      generalize brkN N mm i = X at *
      rw [Bool.and_eq_true] at h
      refine Wst_sink (z := 12) (y := 0) (Or.inr rfl) (by omega) (on_1 h.1) upd_at ?_ (fun v _ _ => ⟨0, rfl, Nat.zero_le _⟩) (fun j h1 h2 h3 => ?_) (fun x c hc h9 => ?_)
      · rw [upd_ne (by omega), countN, Int32.sub_zero]; exact upd_at
      · rw [upd_ne (by omega), countN, upd_ne (by omega)]
      · rw [upd_ne (by omega), countN, upd_ne (by omega)]
theorem wet_le : ∀ v, v < 1000 → (∃ u, Int32.ofNat v / 2 = Int32.ofNat u ∧ u ≤ v) ∧ ∃ u, 3 * Int32.ofNat v / 4 = Int32.ofNat u ∧ u ≤ v := by
  intro v hv
  refine ⟨⟨v / 2, i_div (a := v) (b := 2) (by omega) (by omega), by omega⟩, 3 * v / 4, ?_, by omega⟩
  rw [show (3 : Int32) * Int32.ofNat v = Int32.ofNat (3 * v) from (i_mul (a := 3) (b := v)).symm ▸ rfl]
  exact i_div (a := 3 * v) (b := 4) (by omega) (by omega)
theorem Wst_wet {S : Nat} {N : Nat → Int32} {mm : Int32} (hS : S ≤ 16) : ∀ i, i ≤ S → Wst S N (wetN N mm i) := by
  intro i
  induction i with
  | zero => intro _; exact Wst.refl
  | succ i ih =>
    intro hi
    refine (ih (by omega)).trans ?_
    rw [wetN]
    cases h : isOnB (wetN N mm i) mm i with
    | false => exact Wst.refl
    | true =>
      rw [cond_true]
      generalize wetN N mm i = X at *
      refine Wst_sink (z := 11) (y := wetB (X (63 + 8 * i)) (X (63 + 8 * i + 2))) (Or.inl rfl) (by omega) (on_1 h) upd_at ?_ (fun v e hv => ?_) (fun j h1 h2 h3 => ?_) (fun x c hc h9 => ?_)
      · rw [wet1, upd_ne (by omega), countN, upd_ne (by omega), countN]; exact upd_at
      · rw [e, wetB]
        cases decide (X (63 + 8 * i) = 0) with
        | true => exact (wet_le v (by omega)).1
        | false =>
          rw [cond_false]
          cases decide (X (63 + 8 * i) = 1) with
          | true => exact (wet_le v (by omega)).2
          | false => exact ⟨v, rfl, Nat.le_refl _⟩
      · rw [wet1, upd_ne (by omega), countN, upd_ne (by omega), countN, upd_ne (by omega)]
      · rw [wet1, upd_ne (by omega), countN, upd_ne (by omega), countN, upd_ne (by omega)]
theorem Wst_tire {S i : Nat} {N : Nat → Int32} {x : Int32} (hi : i < 6) : Wst S N (tireN N i x) := fun hv hd => by
  have lo : ∀ j, (j < 15 ∨ 62 < j) → tireN N i x j = N j := fun j hj => by rw [tireN, upd_ne (by omega)]
  exact ⟨vOk_congr (fun j hj => lo j (by omega)) (fun k hk c hc _ _ => lo _ (by omega)) hv, ⟨lo 6 (by omega), lo 8 (by omega)⟩, fun k hk => wle_same hv hk (lo _ (by omega)) (lo _ (by omega))⟩
theorem ofNat_nn {n : Nat} (h : n < 1000000) : ¬ Int32.ofNat n < 0 := i_nonneg h
theorem Wst_pass {N : Nat → Int32} {m S t st i : Nat} (hi : i < m) (hst : st < t) (h : rowOk N m S t) : Wst S N (passN N st i S) := by
  obtain ⟨r1, r2, r3, r4, r5, r6, r7, r8⟩ := id h
  rw [passN]
  cases hd : decide (N (191 + 2 * st) = 0) with
  | true =>
    rw [cond_true, roadN]
    generalize N (191 + 2 * st + 1) * (loadN N (Int32.ofNat i) S * 10 / N (15 + 8 * i) + 1) / 10 = x
    have w0 : Wst S N (tireN N i x) := Wst_tire (by omega)
    obtain ⟨b, e, hb⟩ := bear_ok (tireN_ok (i := i) (j := i) (more := x) (r7 i hi))
    have w1 := Wst_shed (mm := Int32.ofNat i) (lim := bearN (tireN N i x) i) r5 (by rw [e]; exact ofNat_nn (by omega)) 16 (tireN N i x)
    exact w0.trans w1
  | false =>
    rw [cond_false]
    cases hd2 : decide (N (191 + 2 * st) = 1) with
    | false => rw [cond_false]; exact Wst_tire (by omega)
    | true =>
      rw [cond_true]
      obtain ⟨k, n, s1, s2, s3, s4, s5, s6⟩ := r8 st hst
      have hk1 : k = 1 := by
        have := of_decide_eq_true hd2
        rw [s1] at this
        exact i_inj (by omega) (by omega) (this.trans (show (1 : Int32) = Int32.ofNat 1 from rfl))
      have hn9 := s6 hk1
      obtain ⟨b, e, hb⟩ := ford_ok (r7 i hi) hn9
      have w1 : Wst S N (fordN1 N i S (N (191 + 2 * st + 1))) := by
        rw [fordN1]
        have w0 : Wst S N (shedN (Int32.ofNat i) (fordL N i (N (191 + 2 * st + 1))) S 16 N) := Wst_shed r5 (by rw [s2, e]; exact ofNat_nn (by omega)) 16 _
        cases decide (0 < Int32.ofNat (shedK (Int32.ofNat i) (fordL N i (N (191 + 2 * st + 1))) S 16 N)) with
        | true => exact w0.trans (Wst_brk r5 S (Nat.le_refl _))
        | false => exact w0
      rw [fordN]
      cases decide (N (191 + 2 * st + 1) < 5) with
      | true => exact w1
      | false => exact w1.trans (Wst_wet r5 S (Nat.le_refl _))
theorem Wst_leg {g : Nat → Int32} {N : Nat → Int32} {m S t st : Nat} (hst : st < t) (h : rowOk N m S t) : ∀ k, k ≤ m → Wst S N (legN g st S N k) := by
  intro k
  induction k with
  | zero => intro _; exact Wst.refl
  | succ k ih =>
    intro hk
    refine (ih (by omega)).trans ?_
    rw [legN]
    cases decide (g k = 1) with
    | false => exact Wst.refl
    | true => exact Wst_pass (by omega) hst (rowOk_leg h k (by omega))
theorem Wst_way {g : Nat → Int32} {N : Nat → Int32} {m S t : Nat} (h : rowOk N m S t) : ∀ st, st ≤ t → Wst S N (wayN g m S N st) := by
  intro st
  induction st with
  | zero => intro _; exact Wst.refl
  | succ st ih =>
    intro hs
    refine (ih (by omega)).trans ?_
    rw [wayN]
    exact Wst_leg (by omega) (rowOk_way h st) m (Nat.le_refl _)
