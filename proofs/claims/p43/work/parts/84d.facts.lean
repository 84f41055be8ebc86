/-! what follows between the questions' answers -/
theorem absB_0 : absB 0 = 0 := by decide
theorem x_sub_eq {a b : Int32} (h : a = b) : a - b = 0 := by rw [h]; exact Int32.sub_self b
theorem x_m2 {a b c : Int32} (h : a + c = b) : a - b + c = 0 := by grind
theorem gap_zero {N : Nat → Int32} {m S t : Nat} (hR : rOk N m S t) (hv : vOk N S) : gapN N m S = 0 := by
  obtain ⟨_, _, c1, c2, c3⟩ := hv
  rw [gapN, wg_eq, x_sub_eq c3, x_m2 c2, absB_0]
  have ho : overN N S m = 0 := by
    refine sm_zero m (fun k hk => ?_)
    obtain ⟨a, c, h1, h2, h3, h4⟩ := hR.2.2.1 k hk
    rw [h1, h2, decide_eq_false (by rw [i_lt (by omega) (by omega)]; omega), cond_false]
  rw [ho]; rfl
theorem deep_spec {N : Nat → Int32} {i S : Nat} : ∀ n, deepN N i S n ≤ n ∧ (deepN N i S n ≠ 0 → ¬ fordL N i (Int32.ofNat (deepN N i S n)) < loadN N (Int32.ofNat i) S) ∧ (deepN N i S n < n → fordL N i (Int32.ofNat (deepN N i S n + 1)) < loadN N (Int32.ofNat i) S) := by
  intro n
  induction n with
  | zero => exact ⟨Nat.le_refl _, fun h => absurd rfl h, fun h => absurd h (Nat.lt_irrefl _)⟩
  | succ n ih =>
    rw [deepN]
    cases h : decide (fordL N i (Int32.ofNat (n + 1)) < loadN N (Int32.ofNat i) S) with
    | false => exact ⟨Nat.le_refl _, fun _ => of_decide_eq_false h, fun h => absurd h (Nat.lt_irrefl _)⟩
    | true =>
      rw [cond_true]
      refine ⟨by have := ih.1; omega, ih.2.1, fun h9 => ?_⟩
      by_cases e : deepN N i S n < n
      · exact ih.2.2 e
      · rw [show deepN N i S n = n by have := ih.1; omega]; exact of_decide_eq_true h
theorem dp_bound {N : Nat → Int32} {S room : Nat} (hv : vOk N S) (hW : weightOk N S) (hS : S ≤ 16) : ∀ k, k ≤ S → ∀ j, j ≤ room → ∃ x : Nat, dpN N (fun _ => 0) room k j = Int32.ofNat x ∧ x ≤ 999 * k := by
  intro k
  induction k with
  | zero => intro _ j _; exact ⟨0, rfl, Nat.zero_le _⟩
  | succ k ih =>
    intro hk j hj
    obtain ⟨x, x1, x2⟩ := ih (by omega) j hj
    rw [dpN]
    cases decide (N (63 + 8 * k + 3) = 0) && Nat.ble (N (63 + 8 * k + 1)).toNatClampNeg room with
    | false => exact ⟨x, x1, by omega⟩
    | true =>
      rw [cond_true, dpF]
      split
      · rename_i hu
        obtain ⟨y, y1, y2⟩ := ih (by omega) (j - (N (63 + 8 * k + 1)).toNatClampNeg) (by omega)
        obtain ⟨v, w, h1, _, h3, h4, _⟩ := hv.1 k (by omega)
        rw [y1, h1, x1, i_add, mxB]
        cases decide (Int32.ofNat x < Int32.ofNat (y + v)) with
        | true => exact ⟨y + v, rfl, by omega⟩
        | false => exact ⟨x, rfl, by omega⟩
      · exact ⟨x, x1, by omega⟩
theorem dp_low {N : Nat → Int32} {S room b v w : Nat} (hv : vOk N S) (hW : weightOk N S) (hS : S ≤ 16) (h0 : N (63 + 8 * b + 3) = 0) (hw : N (63 + 8 * b + 1) = Int32.ofNat w) (hw9 : w ≤ 99) (hr : w ≤ room) (hb : N (63 + 8 * b + 2) = Int32.ofNat v) (hv9 : v ≤ 999) : ∀ k, b < k → k ≤ S → ∃ x : Nat, dpN N (fun _ => 0) room k room = Int32.ofNat x ∧ v ≤ x ∧ x ≤ 16000 := by
  intro k
  induction k with
  | zero => intro h; omega
  | succ k ih =>
    intro hbk hk
    obtain ⟨x, x1, x2⟩ := dp_bound (room := room) hv hW hS k (by omega) room (Nat.le_refl _)
    by_cases e : b = k
    · subst e
      rw [dpN, decide_eq_true h0, hw, clamp_nn (by omega), Nat.ble_eq_true_of_le hr, Bool.true_and, cond_true, dpF, if_pos ⟨hr, Nat.le_refl _⟩]
      obtain ⟨y, y1, y2⟩ := dp_bound (room := room) hv hW hS b (by omega) (room - w) (by omega)
      rw [y1, x1, hb, i_add, mxB]
      cases hd : decide (Int32.ofNat x < Int32.ofNat (y + v)) with
      | true => exact ⟨y + v, rfl, by omega, by omega⟩
      | false =>
        have h9 := of_decide_eq_false hd
        rw [i_lt (by omega) (by omega)] at h9
        exact ⟨x, rfl, by omega, by omega⟩
    · obtain ⟨z, z1, z2, z3⟩ := ih (by omega) (by omega)
      rw [dpN]
      cases decide (N (63 + 8 * k + 3) = 0) && Nat.ble (N (63 + 8 * k + 1)).toNatClampNeg room with
      | false => exact ⟨z, z1, z2, z3⟩
      | true =>
        rw [cond_true, dpF]
        split
        · obtain ⟨y, y1, y2⟩ := dp_bound (room := room) hv hW hS k (by omega) (room - (N (63 + 8 * k + 1)).toNatClampNeg) (by omega)
          obtain ⟨v', w', h1, _, h3, h4, _⟩ := hv.1 k (by omega)
          rw [y1, h1, z1, i_add, mxB]
          cases hd : decide (Int32.ofNat z < Int32.ofNat (y + v')) with
          | true =>
            have h9 := of_decide_eq_true hd
            rw [i_lt (by omega) (by omega)] at h9
            exact ⟨y + v', rfl, by omega, by omega⟩
          | false => exact ⟨z, rfl, z2, z3⟩
        · exact ⟨z, z1, z2, z3⟩
theorem dp_zero {N : Nat → Int32} {room : Nat} : ∀ k, (∀ i, i < k → ¬ N (63 + 8 * i + 3) = 0 ∨ room < (N (63 + 8 * i + 1)).toNatClampNeg) → ∀ j, dpN N (fun _ => 0) room k j = 0 := by
  intro k
  induction k with
  | zero => intro _ j; rfl
  | succ k ih =>
    intro h j
    rw [dpN, show (decide (N (63 + 8 * k + 3) = 0) && Nat.ble (N (63 + 8 * k + 1)).toNatClampNeg room) = false from by
      rcases h k (by omega) with h | h
      · rw [decide_eq_false h, Bool.false_and]
      · rw [show Nat.ble (N (63 + 8 * k + 1)).toNatClampNeg room = false from by
          cases hb : Nat.ble (N (63 + 8 * k + 1)).toNatClampNeg room with
          | false => rfl
          | true => have := Nat.le_of_ble_eq_true hb; omega, Bool.and_false], cond_false]
    exact ih (fun i hi => h i (by omega)) j
/-- the best worth of a mule is at least the best sack's; nothing where none fits -/
theorem best_low {N : Nat → Int32} {m S t i : Nat} (hR : rOk N m S t) (hv : vOk N S) (hi : i < m) : (bestI N i S S = none → dpN N (fun _ => 0) (roomN N S (Int32.ofNat i)) S (roomN N S (Int32.ofNat i)) = 0) ∧ ∀ b, bestI N i S S = some b → ∃ x v : Nat, dpN N (fun _ => 0) (roomN N S (Int32.ofNat i)) S (roomN N S (Int32.ofNat i)) = Int32.ofNat x ∧ N (63 + 8 * b + 2) = Int32.ofNat v ∧ v ≤ x ∧ x ≤ 16000 := by
  have hS := hR.1.1.2.2.2.2.1
  have hm := hR.1.1.2.2.2.1
  obtain ⟨a, c, h1, h2, h3, h4⟩ := hR.2.2.1 i hi
  have hroom : roomN N S (Int32.ofNat i) = c - a := by
    rw [roomN, clamp_nn (by omega), h1, h2, i_sub h3, clamp_nn (by omega)]
  rw [hroom]
  have hW := hR.1.2.2.1
  have key : ∀ k w : Nat, N (63 + 8 * k + 1) = Int32.ofNat w → w ≤ 99 → (prN N k i S = 0 ↔ N (63 + 8 * k + 3) = 0 ∧ w ≤ c - a) := by
    intro k w hw hw9
    rw [prN, h1, h2, hw, i_add]
    by_cases e : N (63 + 8 * k + 3) = 0
    · rw [decide_eq_true e, cond_true]
      by_cases e2 : c < a + w
      · rw [decide_eq_true ((i_lt (by omega) (by omega)).mpr e2), cond_true]
        exact ⟨fun h => absurd h (by decide), fun h => by omega⟩
      · rw [decide_eq_false (by rw [i_lt (by omega) (by omega)]; exact e2), cond_false]
        exact ⟨fun _ => ⟨e, by omega⟩, fun _ => rfl⟩
    · rw [decide_eq_false e, cond_false]
      exact ⟨fun h => absurd h (by decide), fun h => absurd h.1 e⟩
  refine ⟨fun hn => dp_zero S (fun k hk => ?_) _, fun b hb => ?_⟩
  · have h9 := of_decide_eq_false (pick_none hn k hk)
    obtain ⟨w, w1, w2, w3⟩ := hW k hk
    rw [key k w w1 w3] at h9
    rw [w1, clamp_nn (by omega)]
    by_cases e : N (63 + 8 * k + 3) = 0
    · exact Or.inr (Nat.lt_of_not_le (fun h => h9 ⟨e, h⟩))
    · exact Or.inl e
  · have hk := pick_lt hb
    have h9 := of_decide_eq_true hk.2
    obtain ⟨w, w1, w2, w3⟩ := hW b hk.1
    rw [key b w w1 w3] at h9
    obtain ⟨v, w', g1, _, g3, g4, _⟩ := hv.1 b hk.1
    obtain ⟨x, x1, x2, x3⟩ := dp_low hv hW hS h9.1 w1 w3 h9.2 g1 (by omega) S hk.1 (Nat.le_refl _)
    exact ⟨x, v, x1, g1, x2, x3⟩
/-! how many sacks are where -/
def plC (N : Nat → Int32) (x : Int32) : Nat → Nat
  | 0 => 0
  | k + 1 => plC N x k + (bif decide (N (63 + 8 * k + 3) = x) then 1 else 0)
theorem place_cnt {N : Nat → Int32} {x : Int32} : ∀ n, placeN N x n = Int32.ofNat (plC N x n) := by
  intro n
  induction n with
  | zero => rfl
  | succ n ih =>
    rw [show placeN N x (n + 1) = placeN N x n + zb (decide (N (63 + 8 * n + 3) = x)) from rfl, ih, plC]
    cases decide (N (63 + 8 * n + 3) = x) with
    | true => exact i_add _ 1
    | false => exact i_add _ 0
theorem plC_le {N : Nat → Int32} {x : Int32} : ∀ n, plC N x n ≤ n := by
  intro n
  induction n with
  | zero => exact Nat.le_refl _
  | succ n ih => rw [plC]; cases decide (N (63 + 8 * n + 3) = x) <;> simp only [cond_true, cond_false] <;> omega
theorem plC_zero {N : Nat → Int32} {x : Int32} : ∀ n, plC N x n = 0 → ∀ k, k < n → ¬ N (63 + 8 * k + 3) = x := by
  intro n
  induction n with
  | zero => intro _ k hk; omega
  | succ n ih =>
    intro h k hk
    rw [plC] at h
    by_cases e : k = n
    · subst e
      intro hx
      rw [decide_eq_true hx, cond_true] at h
      omega
    · exact ih (by omega) k (by omega)
theorem plC_none {N : Nat → Int32} {x : Int32} : ∀ n, (∀ k, k < n → ¬ N (63 + 8 * k + 3) = x) → plC N x n = 0 := by
  intro n
  induction n with
  | zero => intro _; rfl
  | succ n ih => intro h; rw [plC, ih (fun k hk => h k (by omega)), decide_eq_false (h n (by omega)), cond_false]
theorem plC_sum {N : Nat → Int32} {S : Nat} (h : ∀ k, k < S → ∃ p, p < 4 ∧ N (63 + 8 * k + 3) = Int32.ofNat p) : ∀ n, n ≤ S → plC N 0 n + plC N 1 n + plC N 2 n + plC N 3 n = n := by
  intro n
  induction n with
  | zero => intro _; rfl
  | succ n ih =>
    intro hn
    have h9 := ih (by omega)
    obtain ⟨p, hp, e⟩ := h n (by omega)
    have f := i_gt1 hp
    rw [plC, plC, plC, plC, e, f.2.1, f.2.2.1, f.2.2.2.1, f.2.2.2.2]
    rcases (show p = 0 ∨ p = 1 ∨ p = 2 ∨ p = 3 by omega) with rfl | rfl | rfl | rfl <;> simp <;> omega
theorem packed_zero {N : Nat → Int32} {S : Nat} : (packedI N S).isSome = !decide (plC N 1 S = 0) := by
  cases h : packedI N S with
  | none =>
    rw [decide_eq_true (plC_none S (fun k hk => of_decide_eq_false (pick_none h k hk)))]; rfl
  | some b =>
    have := pick_lt h
    rw [decide_eq_false (fun e => plC_zero S e b this.1 (of_decide_eq_true this.2))]; rfl
/-! a mule filled -/
theorem fill_sto {i S : Nat} {N : Nat → Int32} {k : Nat} (h : bestI N i S S = some k) : stoN (fill1 N i S) S + 1 = stoN N S := by
  have hk := pick_lt h
  rw [fill1, h]
  exact stoN_pack (prN_store (of_decide_eq_true hk.2)) S hk.1
theorem fill_end {i S : Nat} : ∀ (n : Nat) (N : Nat → Int32), stoN N S ≤ n → bestI (fillN i S n N) i S S = none := by
  intro n
  induction n with
  | zero =>
    intro N h
    show bestI N i S S = none
    cases hb : bestI N i S S with
    | none => rfl
    | some k =>
      have hk := pick_lt hb
      exact absurd (prN_store (of_decide_eq_true hk.2)) (stoN_zero S (by omega) k hk.1)
  | succ n ih =>
    intro N h
    rw [fillN_s]
    cases hb : bestI N i S S with
    | none => exact hb
    | some k =>
      have := fill_sto hb
      exact ih _ (by omega)
theorem fill_kept {i S k : Nat} : ∀ (n : Nat) (N : Nat → Int32), N (63 + 8 * k + 3) = 1 → fillN i S n N (63 + 8 * k + 4) = N (63 + 8 * k + 4) := by
  intro n
  induction n with
  | zero => intro N h; rfl
  | succ n ih =>
    intro N h
    rw [fillN_s]
    cases hb : bestI N i S S with
    | none => rfl
    | some b =>
      have hk := pick_lt hb
      have h0 := prN_store (of_decide_eq_true hk.2)
      have e : k ≠ b := by rintro rfl; rw [h] at h0; exact absurd h0 (by decide)
      have f : ∀ c, c < 8 → fill1 N i S (63 + 8 * k + c) = N (63 + 8 * k + c) := fun c hc => by
        rw [fill1, hb]
        show packN N b _ _ (63 + 8 * k + c) = _
        rw [packN, upd_ne (by omega), upd_ne (by omega), upd_ne (by omega)]
      show fillN i S n (fill1 N i S) (63 + 8 * k + 4) = _
      rw [ih _ ((f 3 (by omega)).trans h), f 4 (by omega)]
theorem fillK_le {i S : Nat} : ∀ (n : Nat) (N : Nat → Int32), fillK i S n N ≤ n := by
  intro n
  induction n with
  | zero => intro N; exact Nat.le_refl _
  | succ n ih =>
    intro N
    rw [fillK_s]
    cases (bestI N i S S).isSome with
    | true => have := ih (fill1 N i S); rw [cond_true]; omega
    | false => exact Nat.zero_le _
theorem fill_all {N : Nat → Int32} {i S : Nat} (hS : S ≤ 16) : bestI (fillN i S 16 N) i S S = none ∧ (bestI N i S S = none → fillK i S 16 N = 0) ∧ ∀ b, bestI N i S S = some b → fillK i S 16 N ≠ 0 ∧ fillN i S 16 N (63 + 8 * b + 4) = Int32.ofNat i := by
  refine ⟨fill_end 16 N (by have := stoN_le (N := N) S; omega), fun h => ?_, fun b h => ⟨?_, ?_⟩⟩
  · rw [fillK_s, h]; rfl
  · rw [fillK_s, h]
    show fillK i S 15 (fill1 N i S) + 1 ≠ 0
    omega
  · rw [fillN_s, h]
    show fillN i S 15 (fill1 N i S) (63 + 8 * b + 4) = _
    have e : fill1 N i S = packN N b (Int32.ofNat i) (lightN N (Int32.ofNat i) S) := by rw [fill1, h]; rfl
    rw [fill_kept 15 _ (by rw [e]; exact packN_3), e]
    exact packN_4
/-! loads behind a change -/
theorem load_nat {N : Nat → Int32} {m S t : Nat} (hR : rOk N m S t) (mm : Int32) : ∃ a : Nat, loadN N mm S = Int32.ofNat a ∧ a ≤ 1600 := by
  have := load_ld (mm := mm) hR.1.2.1 hR.1.2.2.1 S (Nat.le_refl _)
  have hS := hR.1.1.2.2.2.2.1
  exact ⟨_, this.1, by omega⟩
theorem load_pack {N : Nat → Int32} {m S t k i : Nat} {sd : Int32} (hR : rOk N m S t) (hk : k < S) (hi : i < m) (hs : sd = 0 ∨ sd = 1) (hp : prN N k i S = 0) : loadN (packN N k (Int32.ofNat i) sd) (Int32.ofNat i) S = loadN N (Int32.ofNat i) S + N (63 + 8 * k + 1) := by
  have hR' := rOk_pack hR hk hi hs hp
  have l1 := (load_ld (mm := Int32.ofNat i) hR.1.2.1 hR.1.2.2.1 S (Nat.le_refl _)).1
  have l2 := (load_ld (mm := Int32.ofNat i) hR'.1.2.1 hR'.1.2.2.1 S (Nat.le_refl _)).1
  obtain ⟨w, w1, w2, w3⟩ := hR.1.2.2.1 k hk
  have h0 := prN_store hp
  rw [l1, l2, w1, i_add]
  refine congrArg Int32.ofNat (ldK_add S hk (fun x hx hne => ⟨pack_on hne, by rw [packN, upd_ne (by omega), upd_ne (by omega), upd_ne (by omega)]⟩) ?_ ?_)
  · rw [isOnB, h0, show decide ((0 : Int32) = 1) = false from by decide, Bool.false_and]
  · rw [isOnB, packN_3, packN_4, show decide ((1 : Int32) = 1) = true from by decide, decide_eq_true rfl, Bool.and_self, cond_true, packN_w (by omega) (by omega) (by omega) (by omega), w1, clamp_nn (by omega)]
/-! rests -/
def tiK (N : Nat → Int32) (m : Nat) (f : Nat → Nat) : Prop := ∀ i, i < m → N (15 + 8 * i + 1) = Int32.ofNat (f i) ∧ f i ≤ 100
theorem tired_sum {N : Nat → Int32} {m : Nat} {f : Nat → Nat} (h : tiK N m f) : ∀ n, n ≤ m → ∃ x : Nat, tiredN N n = Int32.ofNat x ∧ x ≤ 100 * n ∧ ∀ i, i < n → f i ≤ x := by
  intro n
  induction n with
  | zero => intro _; exact ⟨0, rfl, Nat.le_refl _, fun i hi => by omega⟩
  | succ n ih =>
    intro hn
    obtain ⟨x, x1, x2, x3⟩ := ih (by omega)
    obtain ⟨h1, h2⟩ := h n (by omega)
    refine ⟨x + f n, by rw [show tiredN N (n + 1) = tiredN N n + N (15 + 8 * n + 1) from rfl, x1, h1, i_add], by omega, fun i hi => ?_⟩
    by_cases e : i = n
    · subst e; omega
    · have := x3 i (by omega); omega
theorem rest_all {N : Nat → Int32} {m S t i D : Nat} (hR : rOk N m S t) (hi : i < m) : (∃ x b : Nat, tiredN (restN m N D) m = Int32.ofNat x ∧ restN m N D (15 + 8 * i + 1) = Int32.ofNat b ∧ b ≤ x ∧ x ≤ 600) ∧ (freshN N i = -1 ∨ ∃ y b : Nat, freshN N i = Int32.ofNat y ∧ restN m N D (15 + 8 * i + 1) = Int32.ofNat b ∧ y ≤ 200 ∧ b ≤ 100 ∧ (b = 0 ↔ y ≤ D)) := by
  obtain ⟨hr, _, _, e, e1, e2⟩ := hR.1
  have hm := hr.2.2.2.1
  have hmu : ∀ j, j < m → ∃ a, N (15 + 8 * j + 1) = Int32.ofNat a ∧ a ≤ 100 := fun j hj => by
    obtain ⟨s, a, _, h2, _, _, h5⟩ := hr.2.2.2.2.2.2.1 j hj
    exact ⟨a, h2, h5⟩
  have hv : ∀ j a, j < m → N (15 + 8 * j + 1) = Int32.ofNat a → a ≤ 100 → restN m N D (15 + 8 * j + 1) = Int32.ofNat (a - D * e) := fun j a hj h1 h2 => restN_val hm hj h1 h2 e1 e2 D
  obtain ⟨a, a1, a2⟩ := hmu i hi
  have hvi := hv i a hi a1 a2
  refine ⟨?_, ?_⟩
  · have hk : tiK (restN m N D) m (fun j => (restN m N D (15 + 8 * j + 1)).toNatClampNeg) := fun j hj => by
      obtain ⟨c, c1, c2⟩ := hmu j hj
      show restN m N D (15 + 8 * j + 1) = Int32.ofNat (restN m N D (15 + 8 * j + 1)).toNatClampNeg ∧ (restN m N D (15 + 8 * j + 1)).toNatClampNeg ≤ 100
      rw [hv j c hj c1 c2, clamp_nn (by omega)]
      exact ⟨rfl, by omega⟩
    obtain ⟨x, x1, x2, x3⟩ := tired_sum hk m (Nat.le_refl _)
    have := x3 i hi
    refine ⟨x, a - D * e, x1, hvi, ?_, by omega⟩
    rw [hvi, clamp_nn (by omega)] at this
    exact this
  · rw [freshN, a1, e1]
    by_cases ha : a = 0
    · subst ha
      refine Or.inr ⟨0, 0, by rw [show decide (Int32.ofNat 0 = 0) = true from by decide, cond_true]; rfl, by rw [hvi, Nat.zero_sub], by omega, by omega, ?_⟩
      exact ⟨fun _ => Nat.zero_le _, fun _ => rfl⟩
    · rw [decide_eq_false (fun h => ha (i_inj (by omega) (by omega) (h.trans (show (0 : Int32) = Int32.ofNat 0 from rfl)))), cond_false]
      by_cases he : e = 0
      · subst he
        rw [show decide (Int32.ofNat 0 = 0) = true from by decide, cond_true]
        exact Or.inl rfl
      · rw [decide_eq_false (fun h => he (i_inj (by omega) (by omega) (h.trans (show (0 : Int32) = Int32.ofNat 0 from rfl)))), cond_false]
        refine Or.inr ⟨(a + e - 1) / e, a - D * e, ?_, hvi, ?_, by omega, ?_⟩
        · rw [i_add, show (1 : Int32) = Int32.ofNat 1 from rfl, i_sub (by omega), i_div (by omega) (by omega)]
        · exact Nat.le_trans (Nat.div_le_self _ _) (by omega)
        · have hep : 0 < e := by omega
          rw [← Nat.lt_succ_iff, Nat.div_lt_iff_lt_mul hep, Nat.succ_mul]
          omega
