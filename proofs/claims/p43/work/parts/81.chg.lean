/-! trips, rests, new rows: the row stays in order -/
theorem rOk_mk {N : Nat → Int32} {m S t : Nat} (h1 : rowOk N m S t) (h2 : sacksOk N m S) (h3 : weightOk N S) (h4 : ∃ e, N 1 = Int32.ofNat e ∧ e ≤ 50) (h5 : placesOk N S) (h6 : ∀ i, i < m → ∃ c, bearN N i = Int32.ofNat c ∧ ldK N (Int32.ofNat i) S ≤ c ∧ c ≤ 300) (h7 : ∃ D, N 6 = Int32.ofNat D ∧ D ≤ 9999) (h8 : ∀ i, i < m → lettersOk N i) : rOk N m S t := ⟨⟨h1, h2, h3, h4⟩, h5, loadsOk_of h1.2.2.2.2.1 h2 h3 h6, h7, h8⟩
theorem places_lost {N : Nat → Int32} {S k : Nat} (h : placesOk N S) : placesOk (lostN N k) S := by
  rw [lostN]
  exact placesOk_leave (p := 3) (by omega) (Or.inr (by omega)) (placesOk_congr (fun i _ => ⟨countN_at (by omega), countN_at (by omega)⟩) h)
theorem places_shed {S : Nat} {mm lim : Int32} : ∀ (f : Nat) (N : Nat → Int32), placesOk N S → placesOk (shedN mm lim S f N) S := by
  intro f
  induction f with
  | zero => intro N h; exact h
  | succ f ih =>
    intro N h
    rw [shedN_s]
    cases decide (lim < loadN N mm S) with
    | false => exact h
    | true => exact ih _ (places_lost h)
theorem places_tire {N : Nat → Int32} {S i : Nat} {x : Int32} (hi : i < 6) (h : placesOk N S) : placesOk (tireN N i x) S := placesOk_congr (fun k _ => ⟨tireN_far hi (by omega), tireN_far hi (by omega)⟩) h
theorem places_ford {N : Nat → Int32} {S i : Nat} {depth : Int32} (h : placesOk N S) : placesOk (fordN N i S depth) S := by
  have h1 : placesOk (fordN1 N i S depth) S := by
    rw [fordN1]
    have h0 := places_shed (mm := Int32.ofNat i) (lim := fordL N i depth) 16 N h
    cases decide (0 < Int32.ofNat (shedK (Int32.ofNat i) (fordL N i depth) S 16 N)) with
    | false => exact h0
    | true => exact placesOk_congr (fun k _ => ⟨brkN_c (by omega) (by omega) S, brkN_c (by omega) (by omega) S⟩) h0
  rw [fordN]
  cases decide (depth < 5) with
  | true => exact h1
  | false => exact placesOk_congr (fun k _ => ⟨wetN_c (by omega) (by omega) (by omega) S, wetN_c (by omega) (by omega) (by omega) S⟩) h1
theorem places_pass {N : Nat → Int32} {S st i : Nat} (hi : i < 6) (h : placesOk N S) : placesOk (passN N st i S) S := by
  rw [passN]
  cases decide (N (191 + 2 * st) = 0) with
  | true => rw [cond_true, roadN]; exact places_shed 16 _ (places_tire hi h)
  | false =>
    cases decide (N (191 + 2 * st) = 1) with
    | true => exact places_ford h
    | false => exact places_tire hi h
theorem places_way {g N : Nat → Int32} {m S : Nat} (hm : m ≤ 6) (h : placesOk N S) : ∀ st, placesOk (wayN g m S N st) S := by
  have leg : ∀ (st : Nat) (P : Nat → Int32), placesOk P S → ∀ k, k ≤ m → placesOk (legN g st S P k) S := by
    intro st P hP k
    induction k with
    | zero => intro _; exact hP
    | succ k ih =>
      intro hk
      rw [legN]
      cases decide (g k = 1) with
      | false => exact ih (by omega)
      | true => exact places_pass (by omega) (ih (by omega))
  intro st
  induction st with
  | zero => exact h
  | succ st ih => exact leg st _ ih m (Nat.le_refl _)
theorem way_name {g N : Nat → Int32} {m S j : Nat} (hm : m ≤ 6) (hS : S ≤ 16) (h1 : 14 < j) (h2 : j < 63) (h3 : ∀ i, i < 6 → j ≠ 15 + 8 * i + 1) : ∀ st, wayN g m S N st j = N j := by
  have leg : ∀ (st : Nat) (P : Nat → Int32) (k : Nat), k ≤ m → legN g st S P k j = P j := by
    intro st P k
    induction k with
    | zero => intro _; rfl
    | succ k ih =>
      intro hk
      rw [legN]
      cases decide (g k = 1) with
      | false => exact ih (by omega)
      | true => rw [cond_true, passN_at hS (by omega) (h3 k (by omega))]; exact ih (by omega)
  intro st
  induction st with
  | zero => rfl
  | succ st ih => rw [wayN, leg st _ m (Nat.le_refl _)]; exact ih
theorem del1_c {N : Nat → Int32} {k x c : Nat} (hc : c < 8) (h : c ≠ 3) (h4 : c ≠ 4) (h5 : c ≠ 5) (h6 : c ≠ 6) : del1 N k (63 + 8 * x + c) = N (63 + 8 * x + c) := by
  rw [del1, leaveN_w hc h h4 h5 h6, upd_ne (by omega), countN_at (by omega)]
theorem del1_pre {N : Nat → Int32} {k j : Nat} (h : 63 ≤ j) : upd (countN N 1 (N (63 + 8 * k + 2))) 7 (countN N 1 (N (63 + 8 * k + 2)) 7 + countN N 1 (N (63 + 8 * k + 2)) (63 + 8 * k + 2)) j = N j := by
  rw [upd_ne (by omega), countN_at (by omega)]
theorem del_ok {N : Nat → Int32} {m S : Nat} (hO : sacksOk N m S) (hW : weightOk N S) (hP : placesOk N S) : ∀ k, k ≤ S → sacksOk (delN N k) m S ∧ weightOk (delN N k) S ∧ placesOk (delN N k) S ∧ ∀ x, x < k → ¬ delN N k (63 + 8 * x + 3) = 1 := by
  intro k
  induction k with
  | zero => intro _; exact ⟨hO, hW, hP, fun x h => absurd h (Nat.not_lt_zero _)⟩
  | succ k ih =>
    intro hk
    obtain ⟨a, b, c, d⟩ := ih (by omega)
    rw [delN]
    cases hb : decide (delN N k (63 + 8 * k + 3) = 1) with
    | false =>
      refine ⟨a, b, c, fun x hx => ?_⟩
      by_cases e : x = k
      · subst e; exact of_decide_eq_false hb
      · exact d x (by omega)
    | true =>
      rw [cond_true]
      refine ⟨fun x hx => ?_, weightOk_congr (fun i _ => del1_c (by omega) (by omega) (by omega) (by omega) (by omega)) b, ?_, fun x hx => ?_⟩
      · rw [del1]
        exact sackOk_leavez (by decide) (sackOk_congr (del1_pre (by omega)) (del1_pre (by omega)) (del1_pre (by omega)) (a x hx))
      · rw [del1]
        exact placesOk_leave (p := 2) (by omega) (Or.inr (by omega)) (placesOk_congr (fun i _ => ⟨del1_pre (by omega), del1_pre (by omega)⟩) c)
      · rw [del1]
        by_cases e : x = k
        · subst e; rw [leaveN_3]; decide
        · rw [leaveN_at (by omega) (by omega) (by omega) (by omega), del1_pre (by omega)]; exact d x (by omega)
theorem rOk_trip {G0 N : Nat → Int32} {m S t D : Nat} (h : rOk N m S t) (hD : N 6 = Int32.ofNat D) (hD9 : D < 9999) : rOk (trN G0 N m S t) m S t := by
  have hS := h.1.1.2.2.2.2.1
  have hm := h.1.1.2.2.2.1
  have ht := h.1.1.2.2.2.2.2.1
  rw [trN, tripsN]
  generalize gN G0 N S m = g
  have hI := inv_way (g := g) h.1 t
  have hP := places_way (g := g) hm h.2.1 t
  have hn : ∀ j, 14 < j → j < 63 → (∀ i, i < 6 → j ≠ 15 + 8 * i + 1) → wayN g m S N t j = N j := fun j h1 h2 h3 => way_name hm hS h1 h2 h3 t
  have h6 : wayN g m S N t 6 = N 6 := wayN_at hS hm (by omega) t
  generalize wayN g m S N t = W at *
  obtain ⟨⟨r1, r2, r3, r4, r5, r6, r7, r8⟩, i2, i3, e, e1, e2⟩ := hI
  obtain ⟨a, b, c, d⟩ := del_ok i2 i3 hP S (Nat.le_refl _)
  have hdl : ∀ j, j < 7 ∨ 9 < j ∧ j < 63 ∨ 190 < j → delN W S j = W j := fun j hj => delN_at (by omega) S hS
  generalize delN W S = P at *
  have hE : ∀ j, j ≠ 6 → j ≠ 7 → j ≠ 8 → j ≠ 13 → endN (payN g P m) j = P j := fun j h1 h2 h3 h4 => by
    rw [endN, upd_ne h1, countN_at h3, payN_at h2 h4]
  have hoff : ∀ mm x, x < S → isOnB (endN (payN g P m)) mm x = false := fun mm x hx => by
    rw [isOnB, hE _ (by omega) (by omega) (by omega) (by omega), decide_eq_false (d x hx), Bool.false_and]
  have hmu : ∀ i, i < m → muleOk (endN (payN g P m)) i := fun i hi => muleOk_congr (by rw [hE _ (by omega) (by omega) (by omega) (by omega), hdl _ (by omega)]) (by rw [hE _ (by omega) (by omega) (by omega) (by omega), hdl _ (by omega)]) (r7 i hi)
  refine rOk_mk ⟨by rw [hE 3 (by omega) (by omega) (by omega) (by omega), hdl _ (by omega)]; exact r1, by rw [hE 4 (by omega) (by omega) (by omega) (by omega), hdl _ (by omega)]; exact r2, by rw [hE 5 (by omega) (by omega) (by omega) (by omega), hdl _ (by omega)]; exact r3, r4, r5, r6, hmu, fun i hi => stageOk_congr (by rw [hE _ (by omega) (by omega) (by omega) (by omega), hdl _ (by omega)]) (by rw [hE _ (by omega) (by omega) (by omega) (by omega), hdl _ (by omega)]) (r8 i hi)⟩ (sacksOk_congr (fun k _ => ⟨hE _ (by omega) (by omega) (by omega) (by omega), hE _ (by omega) (by omega) (by omega) (by omega), hE _ (by omega) (by omega) (by omega) (by omega)⟩) a) (weightOk_congr (fun k _ => hE _ (by omega) (by omega) (by omega) (by omega)) b) ⟨e, by rw [hE 1 (by omega) (by omega) (by omega) (by omega), hdl _ (by omega)]; exact e1, e2⟩ (placesOk_congr (fun k _ => ⟨hE _ (by omega) (by omega) (by omega) (by omega), hE _ (by omega) (by omega) (by omega) (by omega)⟩) c) (fun i hi => ?_) ⟨D + 1, ?_, by omega⟩ (fun i hi => lettersOk_congr (N := N) (fun n hn9 => ?_) (h.2.2.2.2 i hi))
  · obtain ⟨x, x1, x2⟩ := bear_ok (hmu i hi)
    refine ⟨x, x1, ?_, x2⟩
    rw [ldK_zero S (fun k hk => hoff _ k hk)]
    exact Nat.zero_le _
  · rw [endN, upd_at, countN_at (by decide), payN_at (by decide) (by decide), hdl 6 (by omega), h6, hD, i_inc]
  · rw [hE _ (by omega) (by omega) (by omega) (by omega), hdl _ (by omega)]
    exact hn _ (by omega) (by omega) (fun x hx => by omega)
theorem bear_le {N N' : Nat → Int32} {i s a b : Nat} (h1 : N (15 + 8 * i) = Int32.ofNat s) (h2 : N (15 + 8 * i + 1) = Int32.ofNat a) (h3 : N' (15 + 8 * i) = Int32.ofNat s) (h4 : N' (15 + 8 * i + 1) = Int32.ofNat b) (hs : s ≤ 300) (ha : a ≤ 100) (hb : b ≤ a) : ∃ x y, bearN N i = Int32.ofNat x ∧ bearN N' i = Int32.ofNat y ∧ x ≤ y ∧ y ≤ 300 := by
  have hx := bear_val h1 h2 hs ha
  have hy := bear_val h3 h4 hs (by omega)
  have h9 : s * (100 - a) ≤ s * (100 - b) := Nat.mul_le_mul_left s (by omega)
  have h8 : s * (100 - b) ≤ 300 * 100 := Nat.mul_le_mul hs (by omega)
  exact ⟨_, _, hx, hy, Nat.div_le_div_right h9, by omega⟩
theorem rOk_rest {N : Nat → Int32} {m S t D n : Nat} (h : rOk N m S t) (hD : N 6 = Int32.ofNat D) (hn : D + n ≤ 9999) : rOk (restN m N n) m S t := by
  obtain ⟨⟨⟨r1, r2, r3, r4, r5, r6, r7, r8⟩, i2, i3, e, e1, e2⟩, h2, h3, -, h5⟩ := h
  have ne : ∀ j, (∀ i, i < 6 → j ≠ 15 + 8 * i + 1) → j ≠ 6 → restN m N n j = N j := fun j h1 h2 => restN_at r4 h1 h2 n
  have hv : ∀ i, i < m → ∃ s a, N (15 + 8 * i) = Int32.ofNat s ∧ N (15 + 8 * i + 1) = Int32.ofNat a ∧ 10 ≤ s ∧ s ≤ 300 ∧ a ≤ 100 ∧ restN m N n (15 + 8 * i) = Int32.ofNat s ∧ restN m N n (15 + 8 * i + 1) = Int32.ofNat (a - n * e) := fun i hi => by
    obtain ⟨s, a, a1, a2, a3, a4, a5⟩ := r7 i hi
    exact ⟨s, a, a1, a2, a3, a4, a5, by rw [ne _ (fun x hx => by omega) (by omega)]; exact a1, restN_val r4 hi a2 a5 e1 e2 n⟩
  refine rOk_mk ⟨by rw [ne 3 (fun x _ => by omega) (by omega)]; exact r1, by rw [ne 4 (fun x _ => by omega) (by omega)]; exact r2, by rw [ne 5 (fun x _ => by omega) (by omega)]; exact r3, r4, r5, r6, fun i hi => ?_, fun i hi => stageOk_congr (ne _ (fun x _ => by omega) (by omega)) (ne _ (fun x _ => by omega) (by omega)) (r8 i hi)⟩ (sacksOk_congr (fun k _ => ⟨ne _ (fun x _ => by omega) (by omega), ne _ (fun x _ => by omega) (by omega), ne _ (fun x _ => by omega) (by omega)⟩) i2) (weightOk_congr (fun k _ => ne _ (fun x _ => by omega) (by omega)) i3) ⟨e, by rw [ne 1 (fun x _ => by omega) (by omega)]; exact e1, e2⟩ (placesOk_congr (fun k _ => ⟨ne _ (fun x _ => by omega) (by omega), ne _ (fun x _ => by omega) (by omega)⟩) h2) (fun i hi => ?_) ⟨D + n, by rw [restN_6, hD, i_add], hn⟩ (fun i hi => lettersOk_congr (fun x hx => ne _ (fun y hy => by omega) (by omega)) (h5 i hi))
  · obtain ⟨s, a, a1, a2, a3, a4, a5, a6, a7⟩ := hv i hi
    exact ⟨s, a - n * e, a6, a7, a3, a4, by omega⟩
  · obtain ⟨s, a, a1, a2, a3, a4, a5, a6, a7⟩ := hv i hi
    obtain ⟨x, y, b1, b2, b3, b4⟩ := bear_le a1 a2 a6 a7 a4 a5 (by omega)
    obtain ⟨c, c1, c2, c3⟩ := loadsOk_to r5 i2 i3 h3 i hi
    have hc := i_inj (a := x) (b := c) (by omega) (by omega) (b1.symm.trans c1)
    have hl : ldK (restN m N n) (Int32.ofNat i) S ≤ ldK N (Int32.ofNat i) S := ldK_mono S (fun k _ hk => ⟨by rw [← isOnB_congr (N := N) (ne (63 + 8 * k + 3) (fun x _ => by omega) (by omega)) (ne (63 + 8 * k + 4) (fun x _ => by omega) (by omega))]; exact hk, ne _ (fun x _ => by omega) (by omega)⟩)
    exact ⟨y, b2, by omega, b4⟩
theorem rOk_brings {N : Nat → Int32} {m S t w : Nat} {kd v : Int32} (h : rOk N m S t) (hS : S < 16) (hw : 1 ≤ w) (hw9 : w ≤ 99) : rOk (bringsN N S kd (Int32.ofNat w) v) m (S + 1) t := by
  obtain ⟨⟨⟨r1, r2, r3, r4, r5, r6, r7, r8⟩, i2, i3, e, e1, e2⟩, h2, h3, h4, h5⟩ := h
  obtain ⟨y0, y1, y2, y3, y4, y5, y6, y7⟩ := bringsN_c (N := N) (k := S) (kd := kd) (w := Int32.ofNat w) (v := v)
  have lo : ∀ j, j ≠ 4 → (j < 63 + 8 * S ∨ 63 + 8 * S + 7 < j) → bringsN N S kd (Int32.ofNat w) v j = N j := fun j h1 h2 => bringsN_lo h1 h2
  have h9 := bringsN_4 (N := N) (k := S) (kd := kd) (w := Int32.ofNat w) (v := v) r2
  generalize bringsN N S kd (Int32.ofNat w) v = P at *
  refine rOk_mk ⟨by rw [lo 3 (by omega) (by omega)]; exact r1, h9, by rw [lo 5 (by omega) (by omega)]; exact r3, r4, by omega, r6, fun i hi => muleOk_congr (lo _ (by omega) (by omega)) (lo _ (by omega) (by omega)) (r7 i hi), fun i hi => stageOk_congr (lo _ (by omega) (by omega)) (lo _ (by omega) (by omega)) (r8 i hi)⟩ (fun k hk => ?_) (fun k hk => ?_) ⟨e, by rw [lo 1 (by omega) (by omega)]; exact e1, e2⟩ (fun k hk => ?_) (fun i hi => ?_) (by rw [lo 6 (by omega) (by omega)]; exact h4) (fun i hi => lettersOk_congr (fun n hn => lo _ (by omega) (by omega)) (h5 i hi))
  · by_cases e : k = S
    · subst e
      exact Or.inr ⟨by rw [y3]; decide, y4, y5⟩
    · exact sackOk_congr (lo _ (by omega) (by omega)) (lo _ (by omega) (by omega)) (lo _ (by omega) (by omega)) (i2 k (by omega))
  · by_cases e : k = S
    · subst e
      exact ⟨w, y1, hw, hw9⟩
    · rw [lo _ (by omega) (by omega)]; exact i3 k (by omega)
  · by_cases e : k = S
    · subst e
      exact ⟨0, by omega, y3, fun _ => y6⟩
    · rw [lo _ (by omega) (by omega), lo _ (by omega) (by omega)]; exact h2 k (by omega)
  · obtain ⟨c, c1, c2, c3⟩ := loadsOk_to r5 i2 i3 h3 i hi
    refine ⟨c, by rw [bearN_congr (N := N) (lo _ (by omega) (by omega)) (lo _ (by omega) (by omega))]; exact c1, ?_, c3⟩
    rw [ldK, isOnB, y3]
    have hl : ldK P (Int32.ofNat i) S ≤ ldK N (Int32.ofNat i) S := ldK_mono S (fun k hk hb => ⟨by rw [← isOnB_congr (N := N) (lo (63 + 8 * k + 3) (by omega) (by omega)) (lo (63 + 8 * k + 4) (by omega) (by omega))]; exact hb, lo _ (by omega) (by omega)⟩)
    exact Nat.le_trans hl c2
/-- what lies above the sacks, and the settings -/
theorem rOk_high {N N' : Nat → Int32} {m S t t' : Nat} (h : rOk N m S t) (lo : ∀ j, 2 < j → j < 191 → j ≠ 5 → N' j = N j) (h1 : ∃ e, N' 1 = Int32.ofNat e ∧ e ≤ 50) (h5' : N' 5 = Int32.ofNat t') (ht : t' ≤ 8) (hst : ∀ i, i < t' → stageOk N' i) : rOk N' m S t' := by
  obtain ⟨⟨⟨r1, r2, r3, r4, r5, r6, r7, r8⟩, i2, i3, e, e1, e2⟩, h2, h3, h4, h5⟩ := h
  refine rOk_mk ⟨by rw [lo 3 (by omega) (by omega) (by omega)]; exact r1, by rw [lo 4 (by omega) (by omega) (by omega)]; exact r2, h5', r4, r5, ht, fun i hi => muleOk_congr (lo _ (by omega) (by omega) (by omega)) (lo _ (by omega) (by omega) (by omega)) (r7 i hi), hst⟩ (sacksOk_congr (fun k _ => ⟨lo _ (by omega) (by omega) (by omega), lo _ (by omega) (by omega) (by omega), lo _ (by omega) (by omega) (by omega)⟩) i2) (weightOk_congr (fun k _ => lo _ (by omega) (by omega) (by omega)) i3) h1 (placesOk_congr (fun k _ => ⟨lo _ (by omega) (by omega) (by omega), lo _ (by omega) (by omega) (by omega)⟩) h2) (fun i hi => ?_) (by rw [lo 6 (by omega) (by omega) (by omega)]; exact h4) (fun i hi => lettersOk_congr (fun n hn => lo _ (by omega) (by omega) (by omega)) (h5 i hi))
  obtain ⟨c, c1, c2, c3⟩ := loadsOk_to r5 i2 i3 h3 i hi
  refine ⟨c, by rw [bearN_congr (N := N) (lo _ (by omega) (by omega) (by omega)) (lo _ (by omega) (by omega) (by omega))]; exact c1, Nat.le_trans (ldK_mono S (fun k hk hb => ⟨?_, lo _ (by omega) (by omega) (by omega)⟩)) c2, c3⟩
  rw [← isOnB_congr (N := N) (lo (63 + 8 * k + 3) (by omega) (by omega) (by omega)) (lo (63 + 8 * k + 4) (by omega) (by omega) (by omega))]; exact hb
theorem rOk_leads {N : Nat → Int32} {m S t k x : Nat} (h : rOk N m S t) (ht : t < 8) (hk : k < 3) (hx : 1 ≤ x) (hx9 : x ≤ 99) (h1 : k = 1 → x ≤ 9) : rOk (leadsN N t (Int32.ofNat k) (Int32.ofNat x)) m S (t + 1) := by
  obtain ⟨y0, y1⟩ := leadsN_c (N := N) (k := t) (kd := Int32.ofNat k) (n := Int32.ofNat x)
  have lo : ∀ j, j ≠ 5 → (j < 191 + 2 * t ∨ 191 + 2 * t + 1 < j) → leadsN N t (Int32.ofNat k) (Int32.ofNat x) j = N j := fun j h1 h2 => leadsN_lo h1 h2
  refine rOk_high h (fun j h1 h2 h3 => lo j h3 (by omega)) (by rw [lo 1 (by omega) (by omega)]; exact h.1.2.2.2) (leadsN_5 h.1.1.2.2.1) (by omega) (fun i hi => ?_)
  by_cases e : i = t
  · subst e
    exact ⟨k, x, y0, y1, hk, hx, hx9, h1⟩
  · exact stageOk_congr (lo _ (by omega) (by omega)) (lo _ (by omega) (by omega)) (h.1.1.2.2.2.2.2.2.2 i (by omega))
theorem stageOk_congr' {N N' : Nat → Int32} {i j : Nat} (h1 : N' (191 + 2 * i) = N (191 + 2 * j)) (h2 : N' (191 + 2 * i + 1) = N (191 + 2 * j + 1)) (h : stageOk N j) : stageOk N' i := by
  unfold stageOk
  rw [h1, h2]
  exact h
theorem rOk_drop {N : Nat → Int32} {m S t k : Nat} (h : rOk N m S t) (hk : k < t) : rOk (dropF (upd N 5 (Int32.ofNat (t - 1))) (191 + 2 * k) (191 + 2 * (t - 1))) m S (t - 1) := by
  have ht := h.1.1.2.2.2.2.2.1
  refine rOk_high h (fun j h1 h2 h3 => by rw [dropF_at (by omega), upd_ne h3]) (by rw [dropF_at (by omega), upd_ne (by decide)]; exact h.1.2.2.2) (by rw [dropF_at (by omega), upd_at]) (by omega) (fun i hi => ?_)
  by_cases e : k ≤ i
  · refine stageOk_congr' (j := i + 1) ?_ ?_ (h.1.1.2.2.2.2.2.2.2 (i + 1) (by omega))
    · rw [dropF_in (by omega) (by omega), upd_ne (by omega)]; rfl
    · rw [dropF_in (by omega) (by omega), upd_ne (by omega)]; rfl
  · exact stageOk_congr (by rw [dropF_at (by omega), upd_ne (by omega)]) (by rw [dropF_at (by omega), upd_ne (by omega)]) (h.1.1.2.2.2.2.2.2.2 i (by omega))
theorem rOk_set {N : Nat → Int32} {m S t k e : Nat} (h : rOk N m S t) (hk : k < 3) (he : k = 1 → e ≤ 50) : rOk (upd N k (Int32.ofNat e)) m S t := by
  refine rOk_high h (fun j h1 h2 h3 => upd_ne (by omega)) ?_ (by rw [upd_ne (by omega)]; exact h.1.1.2.2.1) h.1.1.2.2.2.2.2.1 (fun i hi => stageOk_congr (upd_ne (by omega)) (upd_ne (by omega)) (h.1.1.2.2.2.2.2.2.2 i hi))
  by_cases h1 : k = 1
  · subst h1
    exact ⟨e, upd_at, he rfl⟩
  · rw [upd_ne (fun h => h1 h.symm)]; exact h.1.2.2.2
theorem rOk_zero : rOk (fun _ => 0) 0 0 0 := rOk_mk ⟨rfl, rfl, rfl, by omega, by omega, by omega, fun i h => absurd h (Nat.not_lt_zero _), fun i h => absurd h (Nat.not_lt_zero _)⟩ (fun i h => absurd h (Nat.not_lt_zero _)) (fun i h => absurd h (Nat.not_lt_zero _)) ⟨0, rfl, by omega⟩ (fun i h => absurd h (Nat.not_lt_zero _)) (fun i h => absurd h (Nat.not_lt_zero _)) ⟨0, rfl, by omega⟩ (fun i h => absurd h (Nat.not_lt_zero _))
