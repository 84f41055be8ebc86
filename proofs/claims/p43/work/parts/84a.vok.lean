/-! what is kept of worth and money: nothing is lost but what is counted -/
theorem x_ac1 (a b c : Int32) : a + b + c = a + c + b := by rw [Int32.add_assoc, Int32.add_comm b c, ← Int32.add_assoc]
theorem x_cancel {a b c : Int32} (h : a + c = b + c) : a = b := by
  have := congrArg (fun z => z - c) h
  simpa using this
/-- two sums that differ at one place -/
theorem sm_one {f g : Nat → Int32} {k : Nat} : ∀ n, k < n → (∀ i, i < n → i ≠ k → g i = f i) → sm g n + f k = sm f n + g k := by
  intro n
  induction n with
  | zero => intro h; omega
  | succ n ih =>
    intro hk h
    rw [sm, sm]
    by_cases e : k = n
    · subst e
      rw [sm_congr (f := g) (g := f) (fun i hi => h i (by omega) (by omega)), x_ac1]
    · have h1 := ih (by omega) (fun i hi hne => h i (by omega) hne)
      rw [h n (by omega) (by omega), x_ac1, h1, x_ac1]
def sackV (N : Nat → Int32) (k : Nat) : Prop := ∃ v w : Nat, N (63 + 8 * k + 2) = Int32.ofNat v ∧ N (63 + 8 * k + 7) = Int32.ofNat w ∧ v ≤ w ∧ w ≤ 999 ∧ ∃ p, p < 4 ∧ N (63 + 8 * k + 3) = Int32.ofNat p ∧ (p ≤ 1 → N (63 + 8 * k + 6) = -1) ∧ (1 < p → ∃ D, N (63 + 8 * k + 6) = Int32.ofNat D ∧ D ≤ 9999)
def delW (N : Nat → Int32) : Nat → Int32 := sm (fun k => bif decide (N (63 + 8 * k + 3) = 2) then N (63 + 8 * k + 2) else 0)
def gapF (N : Nat → Int32) (k : Nat) : Int32 := bif decide (1 < N (63 + 8 * k + 3)) then 0 else N (63 + 8 * k + 2)
/-- nothing lost: what was delivered, the money, what was told of worth -/
def sumOk (N : Nat → Int32) (S : Nat) : Prop := N 9 = delW N S ∧ N 7 + N 13 = N 9 ∧ gapT N S = N 9 + N 10 + N 11 + N 12 + gapW N S
def vOk (N : Nat → Int32) (S : Nat) : Prop := (∀ k, k < S → sackV N k) ∧ ((∃ a, N 0 = Int32.ofNat a ∧ a ≤ 99) ∧ ∃ a, N 2 = Int32.ofNat a ∧ a ≤ 50) ∧ sumOk N S
theorem gapW_eq {N : Nat → Int32} {n : Nat} : gapW N n = sm (gapF N) n := rfl
theorem sackV_congr {N N' : Nat → Int32} {k : Nat} (h : ∀ c, c < 8 → c ≠ 4 → c ≠ 5 → N' (63 + 8 * k + c) = N (63 + 8 * k + c)) (hs : sackV N k) : sackV N' k := by
  obtain ⟨v, w, h1, h2, h3, h4, p, p1, p2, p3, p4⟩ := hs
  refine ⟨v, w, by rw [h 2 (by omega) (by omega) (by omega)]; exact h1, by rw [h 7 (by omega) (by omega) (by omega)]; exact h2, h3, h4, p, p1, by rw [h 3 (by omega) (by omega) (by omega)]; exact p2, fun e => by rw [h 6 (by omega) (by omega) (by omega)]; exact p3 e, fun e => by rw [h 6 (by omega) (by omega) (by omega)]; exact p4 e⟩
/-- the sums, where the sacks' worths, told worths and ended places are the same -/
theorem sumOk_congr {N N' : Nat → Int32} {S : Nat} (h : ∀ j, 7 ≤ j → j ≤ 13 → N' j = N j) (h2 : ∀ k, k < S → N' (63 + 8 * k + 2) = N (63 + 8 * k + 2)) (h7 : ∀ k, k < S → N' (63 + 8 * k + 7) = N (63 + 8 * k + 7)) (h3 : ∀ k, k < S → decide (N' (63 + 8 * k + 3) = 2) = decide (N (63 + 8 * k + 3) = 2) ∧ decide (1 < N' (63 + 8 * k + 3)) = decide (1 < N (63 + 8 * k + 3))) (hs : sumOk N S) : sumOk N' S := by
  obtain ⟨a, b, c⟩ := hs
  have e1 : delW N' S = delW N S := sm_congr (fun k hk => by rw [(h3 k hk).1, h2 k hk])
  have e2 : gapW N' S = gapW N S := sm_congr (fun k hk => by rw [(h3 k hk).2, h2 k hk])
  have e3 : gapT N' S = gapT N S := sm_congr (fun k hk => h7 k hk)
  refine ⟨by rw [h 9 (by omega) (by omega), e1]; exact a, by rw [h 7 (by omega) (by omega), h 13 (by omega) (by omega), h 9 (by omega) (by omega)]; exact b, ?_⟩
  rw [e3, e2, h 9 (by omega) (by omega), h 10 (by omega) (by omega), h 11 (by omega) (by omega), h 12 (by omega) (by omega)]
  exact c
theorem vOk_congr {N N' : Nat → Int32} {S : Nat} (h : ∀ j, j < 3 ∨ 7 ≤ j ∧ j ≤ 13 → N' j = N j) (hk : ∀ k, k < S → ∀ c, c < 8 → c ≠ 4 → c ≠ 5 → N' (63 + 8 * k + c) = N (63 + 8 * k + c)) (hv : vOk N S) : vOk N' S := by
  obtain ⟨a, ⟨⟨b, b1, b2⟩, c, c1, c2⟩, d⟩ := hv
  refine ⟨fun k h9 => sackV_congr (hk k h9) (a k h9), ⟨⟨b, by rw [h 0 (by omega)]; exact b1, b2⟩, c, by rw [h 2 (by omega)]; exact c1, c2⟩, sumOk_congr (fun j h1 h2 => h j (by omega)) (fun k h9 => hk k h9 2 (by omega) (by omega) (by omega)) (fun k h9 => hk k h9 7 (by omega) (by omega) (by omega)) (fun k h9 => by rw [hk k h9 3 (by omega) (by omega) (by omega)]; exact ⟨rfl, rfl⟩) d⟩
theorem i_gt1 {p : Nat} (h : p < 4) : decide ((1 : Int32) < Int32.ofNat p) = decide (1 < p) ∧ decide (Int32.ofNat p = 2) = decide (p = 2) ∧ decide (Int32.ofNat p = 1) = decide (p = 1) ∧ decide (Int32.ofNat p = 3) = decide (p = 3) ∧ decide (Int32.ofNat p = 0) = decide (p = 0) := by
  have : ∀ p, p < 4 → decide ((1 : Int32) < Int32.ofNat p) = decide (1 < p) ∧ decide (Int32.ofNat p = 2) = decide (p = 2) ∧ decide (Int32.ofNat p = 1) = decide (p = 1) ∧ decide (Int32.ofNat p = 3) = decide (p = 3) ∧ decide (Int32.ofNat p = 0) = decide (p = 0) := by decide +kernel
  exact this p h
theorem place_1 {N : Nat → Int32} {k p : Nat} (hp : p < 4) (h : N (63 + 8 * k + 3) = Int32.ofNat p) (h1 : N (63 + 8 * k + 3) = 1) : p = 1 := by
  have := (i_gt1 hp).2.2.1
  rw [← h, decide_eq_true h1] at this
  exact of_decide_eq_true this.symm
theorem place_0 {N : Nat → Int32} {k p : Nat} (hp : p < 4) (h : N (63 + 8 * k + 3) = Int32.ofNat p) (h1 : N (63 + 8 * k + 3) = 0) : p = 0 := by
  have := (i_gt1 hp).2.2.2.2
  rw [← h, decide_eq_true h1] at this
  exact of_decide_eq_true this.symm
/-! packed, taken off, shifted, filled, rested, a new sack, ways, settings -/
theorem vOk_pack {N : Nat → Int32} {S k : Nat} {mm sd : Int32} (hk : k < S) (h0 : N (63 + 8 * k + 3) = 0) (hv : vOk N S) (hS : S ≤ 16) : vOk (packN N k mm sd) S := by
  obtain ⟨a, b, c⟩ := hv
  have hfar : ∀ j, j < 63 → packN N k mm sd j = N j := fun j hj => packN_at (Or.inl hj) (by omega)
  refine ⟨fun i hi => ?_, ⟨by rw [hfar 0 (by omega)]; exact b.1, by rw [hfar 2 (by omega)]; exact b.2⟩, sumOk_congr (fun j h1 h2 => hfar j (by omega)) (fun i hi => packN_w (by omega) (by omega) (by omega) (by omega)) (fun i hi => packN_w (by omega) (by omega) (by omega) (by omega)) (fun i hi => ?_) c⟩
  · by_cases e : i = k
    · subst e
      obtain ⟨v, w, h1, h2, h3, h4, p, p1, p2, p3, p4⟩ := a i hi
      have hp0 := place_0 p1 p2 h0
      exact ⟨v, w, by rw [packN_w (by omega) (by omega) (by omega) (by omega)]; exact h1, by rw [packN_w (by omega) (by omega) (by omega) (by omega)]; exact h2, h3, h4, 1, by omega, packN_3, fun _ => by rw [packN_w (by omega) (by omega) (by omega) (by omega)]; exact p3 (by omega), fun h => absurd h (by omega)⟩
    · refine sackV_congr (fun c hc h4 h5 => ?_) (a i hi)
      rw [packN, upd_ne (by omega), upd_ne (by omega), upd_ne (by omega)]
  · by_cases e : i = k
    · subst e
      rw [packN_3, h0]
      exact ⟨by decide, by decide⟩
    · rw [show packN N k mm sd (63 + 8 * i + 3) = N (63 + 8 * i + 3) by rw [packN, upd_ne (by omega), upd_ne (by omega), upd_ne (by omega)]]
      exact ⟨rfl, rfl⟩
theorem leaveN_ne {N : Nat → Int32} {k i c : Nat} {p : Int32} (h : i ≠ k) (hc : c < 8) : leaveN N k p (63 + 8 * i + c) = N (63 + 8 * i + c) := by
  rw [leaveN, upd_ne (by omega), upd_ne (by omega), upd_ne (by omega), upd_ne (by omega)]
theorem vOk_unpack {N : Nat → Int32} {S k : Nat} (hk : k < S) (h1 : N (63 + 8 * k + 3) = 1) (hv : vOk N S) (hS : S ≤ 16) : vOk (leaveN N k 0) S := by
  obtain ⟨a, b, c⟩ := hv
  have hfar : ∀ j, j < 63 → leaveN N k 0 j = N j := fun j hj => leaveN_far (Or.inl hj) (by omega)
  refine ⟨fun i hi => ?_, ⟨by rw [hfar 0 (by omega)]; exact b.1, by rw [hfar 2 (by omega)]; exact b.2⟩, sumOk_congr (fun j h1 h2 => hfar j (by omega)) (fun i hi => leaveN_w (by omega) (by omega) (by omega) (by omega) (by omega)) (fun i hi => leaveN_w (by omega) (by omega) (by omega) (by omega) (by omega)) (fun i hi => ?_) c⟩
  · by_cases e : i = k
    · subst e
      obtain ⟨v, w, g1, g2, g3, g4, p, p1, p2, p3, p4⟩ := a i hi
      exact ⟨v, w, by rw [leaveN_w (by omega) (by omega) (by omega) (by omega) (by omega)]; exact g1, by rw [leaveN_w (by omega) (by omega) (by omega) (by omega) (by omega)]; exact g2, g3, g4, 0, by omega, leaveN_3, fun _ => leaveN_6, fun h => absurd h (by omega)⟩
    · exact sackV_congr (fun c hc _ _ => leaveN_ne e hc) (a i hi)
  · by_cases e : i = k
    · subst e
      rw [leaveN_3, h1]
      exact ⟨by decide, by decide⟩
    · rw [leaveN_ne e (by omega)]
      exact ⟨rfl, rfl⟩
theorem vOk_shift {N : Nat → Int32} {S k : Nat} (hS : S ≤ 16) (hk : k < S) (hv : vOk N S) : vOk (shN N k) S :=
  vOk_congr (fun j hj => upd_ne (by omega)) (fun i hi c hc h4 h5 => upd_ne (by omega)) hv
theorem vOk_fill {i S : Nat} (hS : S ≤ 16) : ∀ (n : Nat) (N : Nat → Int32), vOk N S → vOk (fillN i S n N) S := by
  intro n
  induction n with
  | zero => intro N h; exact h
  | succ n ih =>
    intro N h
    rw [fillN_s]
    cases hb : bestI N i S S with
    | none => exact h
    | some k =>
      show vOk (fillN i S n (fill1 N i S)) S
      have hk := pick_lt hb
      refine ih _ ?_
      rw [fill1, hb]
      exact vOk_pack hk.1 (prN_store (of_decide_eq_true hk.2)) h hS
theorem vOk_rest {N : Nat → Int32} {S m D : Nat} (hm : m ≤ 6) (hS : S ≤ 16) (hv : vOk N S) : vOk (restN m N D) S :=
  vOk_congr (fun j hj => restN_at hm (fun i hi => by omega) (by omega) D) (fun k hk c hc h4 h5 => restN_at hm (fun i hi => by omega) (by omega) D) hv
theorem vOk_high {N N' : Nat → Int32} {S : Nat} (h : ∀ j, j < 191 → j ≠ 5 → N' j = N j) (hS : S ≤ 16) (hv : vOk N S) : vOk N' S :=
  vOk_congr (fun j hj => h j (by omega) (by omega)) (fun k hk c hc _ _ => h _ (by omega) (by omega)) hv
theorem vOk_set {N : Nat → Int32} {S k e : Nat} (hk : k < 3) (h0 : k = 0 → e ≤ 99) (h2 : k = 2 → e ≤ 50) (hS : S ≤ 16) (hv : vOk N S) : vOk (upd N k (Int32.ofNat e)) S := by
  obtain ⟨a, ⟨b1, b2⟩, c⟩ := hv
  refine ⟨fun i hi => sackV_congr (fun c hc _ _ => upd_ne (by omega)) (a i hi), ⟨?_, ?_⟩, sumOk_congr (fun j _ _ => upd_ne (by omega)) (fun i _ => upd_ne (by omega)) (fun i _ => upd_ne (by omega)) (fun i _ => by rw [upd_ne (by omega)]; exact ⟨rfl, rfl⟩) c⟩
  · by_cases e0 : k = 0
    · subst e0; exact ⟨e, upd_at, h0 rfl⟩
    · rw [upd_ne (by omega)]; exact b1
  · by_cases e2 : k = 2
    · subst e2; exact ⟨e, upd_at, h2 rfl⟩
    · rw [upd_ne (by omega)]; exact b2
theorem vOk_brings {N : Nat → Int32} {S v : Nat} {kd w : Int32} (hS : S < 16) (hv9 : v ≤ 999) (hv : vOk N S) : vOk (bringsN N S kd w (Int32.ofNat v)) (S + 1) := by
  obtain ⟨a, b, c1, c2, c3⟩ := hv
  have lo : ∀ {j}, j ≠ 4 → (j < 63 + 8 * S ∨ 63 + 8 * S + 7 < j) → bringsN N S kd w (Int32.ofNat v) j = N j := fun h4 h => bringsN_lo h4 h
  obtain ⟨n0, n1, n2, n3, n4, n5, n6, n7⟩ := bringsN_c (N := N) (k := S) (kd := kd) (w := w) (v := Int32.ofNat v)
  refine ⟨fun i hi => ?_, ⟨by rw [lo (by omega) (by omega)]; exact b.1, by rw [lo (by omega) (by omega)]; exact b.2⟩, ?_, ?_, ?_⟩
  · by_cases e : i = S
    · subst e
      exact ⟨v, v, n2, n7, Nat.le_refl _, hv9, 0, by omega, n3, fun _ => n6, fun h => absurd h (by omega)⟩
    · exact sackV_congr (fun c hc _ _ => lo (by omega) (by omega)) (a i (by omega))
  · rw [lo (by omega) (by omega), delW, sm, n3, show decide ((0 : Int32) = 2) = false from by decide, cond_false, Int32.add_zero, c1, delW]
    exact sm_congr (fun i hi => by rw [lo (by omega) (by omega), lo (by omega) (by omega)])
  · rw [lo (by omega) (by omega), lo (by omega) (by omega), lo (by omega) (by omega)]; exact c2
  · rw [lo (by omega) (by omega), lo (by omega) (by omega), lo (by omega) (by omega), lo (by omega) (by omega), gapT, gapW, sm, sm, n3, n2, n7, show decide ((1 : Int32) < 0) = false from by decide, cond_false]
    rw [sm_congr (f := fun k => bringsN N S kd w (Int32.ofNat v) (63 + 8 * k + 7)) (g := fun k => N (63 + 8 * k + 7)) (fun i hi => lo (by omega) (by omega)), sm_congr (f := fun k => bif decide (1 < bringsN N S kd w (Int32.ofNat v) (63 + 8 * k + 3)) then 0 else bringsN N S kd w (Int32.ofNat v) (63 + 8 * k + 2)) (g := fun k => bif decide (1 < N (63 + 8 * k + 3)) then 0 else N (63 + 8 * k + 2)) (fun i hi => by rw [lo (by omega) (by omega), lo (by omega) (by omega)]), ← Int32.add_assoc]
    exact congrArg (· + Int32.ofNat v) c3
