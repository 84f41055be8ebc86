/-! a rest: the class eases at once, the reference day for day -/
theorem clamp_sub {a l : Nat} (ha : a ≤ 100) (hl : l < 100000) : clampB (Int32.ofNat a + -Int32.ofNat l) = Int32.ofNat (a - l) := by
  rw [← Int32.sub_eq_add_neg]
  by_cases h : l ≤ a
  · rw [i_sub h, clamp_nat (by omega), if_neg (by omega)]
  · rw [clampB, decide_eq_true (i_neg (a := a) (b := l) (by omega) (by omega)), cond_true, show a - l = 0 by omega]; rfl
theorem easeN_ne {N : Nat → Int32} {j : Nat} : ∀ k, (∀ i, i < k → j ≠ 15 + 8 * i + 1) → easeN N k j = N j := by
  intro k
  induction k with
  | zero => intro _; rfl
  | succ k ih => intro h; rw [easeN, tireN, upd_ne (h k (by omega)), ih (fun i hi => h i (by omega))]
theorem easeN_val {N : Nat → Int32} {i : Nat} : ∀ k, i < k → easeN N k (15 + 8 * i + 1) = clampB (N (15 + 8 * i + 1) + -(N 1)) := by
  intro k
  induction k with
  | zero => intro h; omega
  | succ k ih =>
    intro h
    rw [easeN, tireN]
    by_cases e : i = k
    · subst e
      rw [upd_at, easeN_ne (j := 15 + 8 * i + 1) i (fun x hx => by omega), easeN_ne (j := 1) i (fun x hx => by omega)]
    · rw [upd_ne (by omega), ih (by omega)]
def stN (N : Nat → Int32) (D l : Nat) : Nat → (Nat → Int32)
  | 0 => upd N 6 (N 6 + Int32.ofNat D)
  | k + 1 => tireN (stN N D l k) k (-Int32.ofNat l)
theorem stN_ne {N : Nat → Int32} {D l j : Nat} : ∀ k, (∀ i, i < k → j ≠ 15 + 8 * i + 1) → stN N D l k j = upd N 6 (N 6 + Int32.ofNat D) j := by
  intro k
  induction k with
  | zero => intro _; rfl
  | succ k ih => intro h; rw [stN, tireN, upd_ne (h k (by omega)), ih (fun i hi => h i (by omega))]
theorem stN_val {N : Nat → Int32} {D l i : Nat} : ∀ k, i < k → stN N D l k (15 + 8 * i + 1) = clampB (N (15 + 8 * i + 1) + -Int32.ofNat l) := by
  intro k
  induction k with
  | zero => intro h; omega
  | succ k ih =>
    intro h
    rw [stN, tireN]
    by_cases e : i = k
    · subst e
      rw [upd_at, stN_ne (j := 15 + 8 * i + 1) i (fun x hx => by omega), upd_ne (by omega)]
    · rw [upd_ne (by omega), ih (by omega)]
theorem restN_1 {N : Nat → Int32} {m : Nat} (hm : m ≤ 6) : ∀ D, restN m N D 1 = N 1 := fun D => restN_at hm (fun i _ => by omega) (by omega) D
theorem restN_6 {N : Nat → Int32} {m : Nat} : ∀ D, restN m N D 6 = N 6 + Int32.ofNat D := by
  intro D
  induction D with
  | zero => exact (Int32.add_zero _).symm
  | succ D ih => rw [restN, easeN_ne (j := 6) m (fun i _ => by omega), upd_at, ih, Int32.add_assoc, i_inc]
theorem restN_val {N : Nat → Int32} {m i a e : Nat} (hm : m ≤ 6) (hi : i < m) (ha : N (15 + 8 * i + 1) = Int32.ofNat a) (ha2 : a ≤ 100) (he : N 1 = Int32.ofNat e) (he2 : e ≤ 50) : ∀ D, restN m N D (15 + 8 * i + 1) = Int32.ofNat (a - D * e) := by
  intro D
  induction D with
  | zero => rw [Nat.zero_mul, Nat.sub_zero]; exact ha
  | succ D ih =>
    rw [restN, easeN_val m hi, upd_ne (by omega), upd_ne (by omega), ih, restN_1 hm, he, clamp_sub (by omega) (by omega), Nat.succ_mul, Nat.sub_sub]
theorem rest_eq {N : Nat → Int32} {m D e : Nat} (hm : m ≤ 6) (hD : D ≤ 99) (hok : ∀ i, i < m → muleOk N i) (he : N 1 = Int32.ofNat e) (he2 : e ≤ 50) : restN m N D = stN N D (e * D) m := by
  have hed : e * D ≤ 50 * 99 := Nat.mul_le_mul he2 hD
  have ne : ∀ j, (∀ i, i < m → j ≠ 15 + 8 * i + 1) → j ≠ 6 → ∀ D, restN m N D j = N j := by
    intro j h1 h2 D
    induction D with
    | zero => rfl
    | succ D ih => rw [restN, easeN_ne m h1, upd_ne h2, ih]
  funext j
  by_cases h6 : j = 6
  · rw [h6, restN_6, stN_ne (j := 6) m (fun i _ => by omega), upd_at]
  · by_cases h : ∃ i, i < m ∧ j = 15 + 8 * i + 1
    · obtain ⟨i, hi, rfl⟩ := h
      obtain ⟨s, a, e1, e2, e3, e4, e5⟩ := hok i hi
      rw [restN_val hm hi e2 e5 he he2, stN_val m hi, e2, clamp_sub e5 (by omega), Nat.mul_comm]
    · have hh : ∀ i, i < m → j ≠ 15 + 8 * i + 1 := fun i hi e => h ⟨i, hi, e⟩
      rw [ne j hh h6, stN_ne m hh, upd_ne h6]
section CLS
variable {RO : List mE} {d sb : Nat} {ext : List sh} {M : mM} {Q : mQ} {m S t : Nat} {N : Nat → Int32} {GG : List sh}
theorem c_stayFor {b D : Nat} (hb : bas GG b) (hT : TrN M b N m S t) (hI : invN N m S t) (hD : D ≤ 99) (hQ : ∀ M', TrN M' b (restN m N D) m S t → FrB b M M' → Q (.inl none) GG M' 0 0) : EvP RO (d + 3) 72 [.ref b, .int (Int32.ofNat D)] GG M Q := by
  have hm := hT.1.2.2.2.1
  obtain ⟨e, ee1, ee2⟩ := hI.2.2.2
  have hok := hI.1.2.2.2.2.2.2.1
  rw [rest_eq hm hD hok ee1 ee2] at hQ
  have hed : e * D ≤ 50 * 99 := Nat.mul_le_mul ee2 hD
  have hd : M b 5 = N 6 := hT.2.1.1
  have t0 := TrN_obj (f := 5) (x := N 6 + Int32.ofNat D) hT (Or.inl rfl)
  have key := up_ind (S := m) (H := fun k => ∀ M1, TrN M1 b (stN N D (e * D) k) m S t → FrB b M M1 → GoP RO (d + 2) 72 [.ref b, .int (Int32.ofNat D), .int (Int32.ofNat k)] [] GG M1 12 0 0 Q) (fun M1 hT1 hF1 => ?_) (fun k hk ih M1 hT1 hF1 => ?_) 0 (by omega)
  · have k0 := key _ t0 (FrB.up (by omega))
    rw [← hd] at k0
    rcases hb with ⟨rfl, sb, ext, rfl⟩ | ⟨rfl, sb, ext, rfl⟩ | ⟨rfl, c9, r9, rfl⟩
    all_goals
      refine EvP.wp [12] 60 rfl ?_
      exact k0
  · have hu := hT1.2.2.2.1.2
    have hq := hQ M1 hT1 hF1
    rcases hb with ⟨rfl, sb, ext, rfl⟩ | ⟨rfl, sb, ext, rfl⟩ | ⟨rfl, c9, r9, rfl⟩
    all_goals
      refine wp_sound [12] 60 _ _ _ _ _ _ _ ?_
      refine lt_if rfl hu (by omega) (by omega) (fun h => absurd h (by omega)) (fun _ => ?_)
      exact hq
  · have hu := hT1.2.2.2.1.2
    have hmk : muleOk (stN N D (e * D) k) k := by
      refine muleOk_congr ?_ ?_ (hok k hk)
      · rw [stN_ne (j := 15 + 8 * k) k (fun i hi => by omega), upd_ne (by omega)]
      · rw [stN_ne (j := 15 + 8 * k + 1) k (fun i hi => by omega), upd_ne (by omega)]
    have g1 : M1 (b + 7) 1 * Int32.ofNat D = Int32.ofNat (e * D) := by
      rw [hT1.2.2.2.2.2.1 1 (by omega), stN_ne (j := 1) k (fun i hi => by omega), upd_ne (by decide), ee1, i_mul]
    have hes : ∀ (d : Nat) (Q : mQ), (∀ M', TrN M' b (tireN (stN N D (e * D) k) k (-Int32.ofNat (e * D))) m S t → FrB b M1 M' → Q (.inl none) GG M' 0 0) → EvP RO (d + 2) 45 [.ref b, .int (Int32.ofNat k), .int (Int32.ofNat (e * D))] GG M1 Q := fun d Q => c_easeBy (RO := RO) (d := d) (GG := GG) hb hT1 hk hmk (by omega)
    rw [← g1] at hes
    have ih' : ∀ M2, TrN M2 b (tireN (stN N D (e * D) k) k (-(M1 (b + 7) 1 * Int32.ofNat D))) m S t → FrB b M1 M2 → GoP RO (d + 2) 72 [.ref b, .int (Int32.ofNat D), .int (Int32.ofNat (k + 1))] [] GG M2 12 0 0 Q := fun M2 h1 h2 => ih M2 (by rw [g1] at h1; exact h1) (hF1.trans h2)
    clear ih hQ
    rcases hb with ⟨rfl, sb, ext, rfl⟩ | ⟨rfl, sb, ext, rfl⟩ | ⟨rfl, c9, r9, rfl⟩
    all_goals
      refine wp_sound [12] 60 _ _ _ _ _ _ _ ?_
      refine lt_if rfl hu (by omega) (by omega) (fun _ => ?_) (fun h => absurd h (by omega))
      refine ⟨1, rfl, by omega, ?_⟩
      refine hes _ _ (fun M2 x1 x2 => ?_)
      refine GoP.eq2 (ih' M2 x1 x2) (by rw [i_inc]) rfl
end CLS
