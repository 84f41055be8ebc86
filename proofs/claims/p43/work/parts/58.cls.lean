/-! the class's trip, whole -/
theorem brkN_c {N : Nat → Int32} {mm : Int32} {j : Nat} (h2 : j ≠ 12) (h4 : ∀ k, j ≠ 63 + 8 * k + 2) : ∀ n, brkN N mm n j = N j := by
  intro n
  induction n with
  | zero => rfl
  | succ n ih =>
    rw [brkN_s]
    cases isOnB (brkN N mm n) mm n && decide (brkN N mm n (63 + 8 * n) = 3) with
    | false => exact ih
    | true => rw [cond_true, brk1_at h2 (h4 n)]; exact ih
theorem wetN_c {N : Nat → Int32} {mm : Int32} {j : Nat} (h : j ≠ 11) (h2 : j ≠ 14) (h4 : ∀ k, j ≠ 63 + 8 * k + 2) : ∀ n, wetN N mm n j = N j := by
  intro n
  induction n with
  | zero => rfl
  | succ n ih =>
    rw [wetN]
    cases isOnB (wetN N mm n) mm n with
    | false => exact ih
    | true => rw [cond_true, wet1_ne h h2 (h4 n)]; exact ih
def invN (N : Nat → Int32) (m S t : Nat) : Prop := rowOk N m S t ∧ sacksOk N m S ∧ weightOk N S ∧ ∃ e, N 1 = Int32.ofNat e ∧ e ≤ 50
theorem sacksOk_ford {N : Nat → Int32} {m S i : Nat} {depth : Int32} (h : sacksOk N m S) : sacksOk (fordN N i S depth) m S := by
  have h1 : sacksOk (fordN1 N i S depth) m S := by
    rw [fordN1]
    have h0 := sacksOk_shed (mm := Int32.ofNat i) (lim := fordL N i depth) 16 N h
    cases decide (0 < Int32.ofNat (shedK (Int32.ofNat i) (fordL N i depth) S 16 N)) with
    | false => exact h0
    | true => exact sacksOk_congr (fun k _ => ⟨brkN_c (by omega) (by omega) S, brkN_c (by omega) (by omega) S, brkN_c (by omega) (by omega) S⟩) h0
  rw [fordN]
  cases decide (depth < 5) with
  | true => exact h1
  | false => exact sacksOk_congr (fun k _ => ⟨wetN_c (by omega) (by omega) (by omega) S, wetN_c (by omega) (by omega) (by omega) S, wetN_c (by omega) (by omega) (by omega) S⟩) h1
theorem weightOk_ford {N : Nat → Int32} {S i : Nat} {depth : Int32} (h : weightOk N S) : weightOk (fordN N i S depth) S := by
  have h1 : weightOk (fordN1 N i S depth) S := by
    rw [fordN1]
    have h0 := weightOk_shed (mm := Int32.ofNat i) (lim := fordL N i depth) 16 N h
    cases decide (0 < Int32.ofNat (shedK (Int32.ofNat i) (fordL N i depth) S 16 N)) with
    | false => exact h0
    | true => exact weightOk_congr (fun k _ => brkN_c (by omega) (by omega) S) h0
  rw [fordN]
  cases decide (depth < 5) with
  | true => exact h1
  | false => exact weightOk_congr (fun k _ => wetN_c (by omega) (by omega) (by omega) S) h1
theorem inv_pass {N : Nat → Int32} {m S t st i : Nat} (hi : i < 6) (h : invN N m S t) : invN (passN N st i S) m S t := by
  obtain ⟨h1, h2, h3, e, h4, h5⟩ := h
  refine ⟨rowOk_pass hi h1, ?_, ?_, e, by rw [passN_at h1.2.2.2.2.1 (by omega) (by omega)]; exact h4, h5⟩
  · rw [passN]
    cases decide (N (191 + 2 * st) = 0) with
    | true => rw [cond_true, roadN]; exact sacksOk_shed 16 _ (sacksOk_tire hi h2)
    | false =>
      cases decide (N (191 + 2 * st) = 1) with
      | true => exact sacksOk_ford h2
      | false => exact sacksOk_tire hi h2
  · rw [passN]
    cases decide (N (191 + 2 * st) = 0) with
    | true => rw [cond_true, roadN]; exact weightOk_shed 16 _ (weightOk_tire hi h3)
    | false =>
      cases decide (N (191 + 2 * st) = 1) with
      | true => exact weightOk_ford h3
      | false => exact weightOk_tire hi h3
theorem inv_leg {g : Nat → Int32} {N : Nat → Int32} {m S t st : Nat} (h : invN N m S t) : ∀ k, k ≤ m → invN (legN g st S N k) m S t := by
  intro k
  induction k with
  | zero => intro _; exact h
  | succ k ih =>
    intro hk
    rw [legN]
    cases decide (g k = 1) with
    | false => exact ih (by omega)
    | true =>
      have h6 := h.1.2.2.2.1
      exact inv_pass (by omega) (ih (by omega))
theorem inv_way {g : Nat → Int32} {N : Nat → Int32} {m S t : Nat} (h : invN N m S t) : ∀ st, invN (wayN g m S N st) m S t := by
  intro st
  induction st with
  | zero => exact h
  | succ st ih => exact inv_leg ih m (Nat.le_refl _)
theorem legN_at {g N : Nat → Int32} {st S j : Nat} (hS : S ≤ 16) (h : 190 < j) : ∀ k, k ≤ 6 → legN g st S N k j = N j := by
  intro k
  induction k with
  | zero => intro _; rfl
  | succ k ih =>
    intro hk
    rw [legN]
    cases decide (g k = 1) with
    | false => exact ih (by omega)
    | true => rw [cond_true, passN_at hS (by omega) (by omega)]; exact ih (by omega)
theorem goes_bit {N G0 : Nat → Int32} {m S i : Nat} (hm : m ≤ 6) (hS : S ≤ 16) (hi : i < m) (hO : sacksOk N m S) : gN G0 N S m i = zb ((bitsN N S).testBit i) := by
  rw [gN_at m hi, goesI, bitsN_at hm (by omega) hO S (Nat.le_refl _), sOn_cnt]
  have := cntN_le (N := N) (m := Int32.ofNat i) S
  congr 1
  refine decide_eq_decide.mpr ?_
  rw [show (0 : Int32) = Int32.ofNat 0 from rfl, i_lt (by omega) (by omega)]
section CLS
variable {RO : List mE} {d sb : Nat} {ext : List sh} {M : mM} {Q : mQ} {b m S t : Nat} {N : Nat → Int32} {GG : List sh}
theorem c_travel {G0 : Nat → Int32} (hb : bas GG b) (hT : TrN M b N m S t) (hI : invN N m S t) (hQ : ∀ M', TrN M' b (tripsN (gN G0 N S m) N m S t) m S t → FrB b M M' → Q (.inl (some (.int (tripsN (gN G0 N S m) N m S t 7 - N 7)))) GG M' 0 0) : EvP RO (d + 5) 75 [.ref b] GG M Q := by
  have hm := hT.1.2.2.2.1
  have hS := hT.1.2.2.2.2.1
  have ht := hT.1.2.2.2.2.2
  have hO := hI.2.1
  have h64 : bitsN N S < 64 := Nat.lt_of_lt_of_le (bitsN_lt hm hO S (Nat.le_refl _)) (Nat.pow_le_pow_right (by decide) hm)
  have hms := fun d => c_mulesWithSacks (RO := RO) (d := d) (GG := GG) hb hT hO
  have gm : M b 6 = N 7 := hT.2.1.2
  have hg : ∀ i, i < m → gN G0 N S m i = zb ((bitsN N S).testBit i) := fun i hi => goes_bit hm hS hi hO
  have hpop : sm (gN G0 N S m) m = popI (bitsN N S) := by
    rw [← pop_lt hm (bitsN_lt hm hO S (Nat.le_refl _))]
    exact sm_congr hg
  rw [tripsN] at hQ
  generalize gN G0 N S m = g at *
  generalize bitsN N S = B at *
  have rest : ∀ M2, TrN M2 b (wayN g m S N t) m S t → FrB b M M2 → ∀ v4 v5 v6 : Value, GoP RO (d + 4) 75 [.ref b, .int (N 7), .int (Int32.ofNat B), .int (Int32.ofNat t), v4, v5, v6] [] GG M2 135 0 0 Q := by
    intro M2 hT2 hF2 v4 v5 v6
    generalize wayN g m S N t = P at *
    have hdl : ∀ (d : Nat) (Q : mQ), (∀ M', TrN M' b (delN P S) m S t → FrB b M2 M' → Q (.inl none) GG M' 0 0) → EvP RO (d + 3) 44 [.ref b] GG M2 Q := fun d Q => c_deliver (RO := RO) (d := d) (GG := GG) hb hT2
    have hpy : ∀ (M3 : mM), TrN M3 b (delN P S) m S t → ∀ (d : Nat) (Q : mQ), (∀ M', TrN M' b (payN g (delN P S) m) m S t → FrB b M3 M' → Q (.inl none) GG M' 0 0) → EvP RO (d + 1) 65 [.ref b, .int (popI B)] GG M3 Q := fun M3 hT3 d Q h => by
      refine c_payWages (RO := RO) (d := d) (GG := GG) hb hT3 ?_
      rw [← hpop, ← pay_eq]
      exact h
    have fin : ∀ M4, TrN M4 b (payN g (delN P S) m) m S t → FrB b M M4 → Q (.inl (some (.int (upM (upM M4 (b + 8) (upd (M4 (b + 8)) 0 (M4 (b + 8) 0 + 1))) b (upd (M4 b) 5 (M4 b 5 + 1)) b 6 - N 7)))) GG (upM (upM M4 (b + 8) (upd (M4 (b + 8)) 0 (M4 (b + 8) 0 + 1))) b (upd (M4 b) 5 (M4 b 5 + 1))) 0 0 := by
      intro M4 hT4 hF4
      have g0 : M4 (b + 8) 0 = payN g (delN P S) m 8 := hT4.2.2.2.2.2.2.1 0 (by omega)
      have gd : M4 b 5 = payN g (delN P S) m 6 := hT4.2.1.1
      have t1 := TrN_count (w := 0) (x := payN g (delN P S) m 8 + 1) hT4 (by omega)
      have t2 := TrN_obj (f := 5) (x := payN g (delN P S) m 6 + 1) t1 (Or.inl rfl)
      rw [upM_ne (show b ≠ b + 8 by omega), ← g0, ← gd] at t2
      have he : upd (upd (payN g (delN P S) m) (8 + 0) (M4 (b + 8) 0 + 1)) (5 + 1) (M4 b 5 + 1) = endN (payN g (delN P S) m) := by
        rw [endN, countN_at (show 6 ≠ 8 + 0 by decide), g0, gd]; rfl
      rw [he] at t2
      have hq := hQ _ t2 ((hF4.trans (FrB.up (by omega))).trans (FrB.up (by omega)))
      have h7 := t2.2.1.2
      rw [← h7] at hq
      exact hq
    have hbc := fun d M3 => c_bitCount (RO := RO) (d := d) (GG := GG) (M := M3) h64
    clear hQ
    rcases hb with ⟨rfl, sb, ext, rfl⟩ | ⟨rfl, sb, ext, rfl⟩ | ⟨rfl, c9, r9, rfl⟩
    all_goals
      refine wp_sound [12] 90 _ _ _ _ _ _ _ ?_
      refine hdl _ _ (fun M3 hT3 hF3 => ?_)
      refine (hbc _ M3).use ?_
      refine hpy M3 hT3 _ _ (fun M4 hT4 hF4 => ?_)
      refine ⟨0, rfl, by omega, ?_⟩
      refine ⟨0, rfl, by omega, ?_⟩
      exact fin M4 hT4 ((hF2.trans hF3).trans hF4)
  have way := up_ind (S := t) (H := fun st => ∀ M2, TrN M2 b (wayN g m S N st) m S t → FrB b M M2 → ∀ v4 v5 v6 : Value, GoP RO (d + 4) 75 [.ref b, .int (N 7), .int (Int32.ofNat B), .int (Int32.ofNat st), v4, v5, v6] [] GG M2 12 0 0 Q) (fun M2 hT2 hF2 v4 v5 v6 => ?_) (fun st hst ih M2 hT2 hF2 v4 v5 v6 => ?_) 0 (by omega)
  · have w0 := way M hT FrB.refl (.retAddr 0) (.retAddr 0) (.retAddr 0)
    rw [← gm] at w0
    rcases hb with ⟨rfl, sb, ext, rfl⟩ | ⟨rfl, sb, ext, rfl⟩ | ⟨rfl, c9, r9, rfl⟩
    all_goals
      refine EvP.wp [12] 60 rfl ?_
      refine (hms _).use ?_
      exact w0
  · have hu := hT2.2.2.2.2.1.2
    have r0 := rest M2 hT2 hF2 v4 v5 v6
    rcases hb with ⟨rfl, sb, ext, rfl⟩ | ⟨rfl, sb, ext, rfl⟩ | ⟨rfl, c9, r9, rfl⟩
    all_goals
      refine wp_sound [12, 135] 60 _ _ _ _ _ _ _ ?_
      refine lt_if rfl hu (by omega) (by omega) (fun h => absurd h (by omega)) (fun _ => ?_)
      exact r0
  · have hu := hT2.2.2.2.2.1.2
    have hIw := inv_way (g := g) hI st
    obtain ⟨kd, n, s1, s2, s3, s4, s5, s6⟩ := hIw.1.2.2.2.2.2.2.2 st hst
    rw [wayN] at ih
    generalize wayN g m S N st = W at *
    have t0 := fun d => c_atT (RO := RO) (d := d) (GG := GG) (c := 0) hb hT2 hst (by omega)
    have t1 := fun d => c_atT (RO := RO) (d := d) (GG := GG) (c := 1) hb hT2 hst (by omega)
    simp only [Nat.add_zero, s1] at t0
    simp only [s2] at t1
    have inner := up_ind (S := m) (H := fun i => ∀ M3, TrN M3 b (legN g st S W i) m S t → FrB b M M3 → GoP RO (d + 4) 75 [.ref b, .int (N 7), .int (Int32.ofNat B), .int (Int32.ofNat st), .int (Int32.ofNat kd), .int (Int32.ofNat n), .int (Int32.ofNat i)] [] GG M3 48 0 0 Q) (fun M3 hT3 hF3 => ?_) (fun i hi ih2 M3 hT3 hF3 => ?_) 0 (by omega)
    · have i0 := inner M2 hT2 hF2
      clear rest
      rcases hb with ⟨rfl, sb, ext, rfl⟩ | ⟨rfl, sb, ext, rfl⟩ | ⟨rfl, c9, r9, rfl⟩
      all_goals
        refine wp_sound [12, 48] 60 _ _ _ _ _ _ _ ?_
        refine lt_if rfl hu (by omega) (by omega) (fun _ => ?_) (fun h => absurd h (by omega))
        refine (t0 _).use ?_
        refine (t1 _).use ?_
        exact i0
    · have hum := hT3.2.2.2.1.2
      have i1 := ih M3 hT3 hF3
      clear rest
      rcases hb with ⟨rfl, sb, ext, rfl⟩ | ⟨rfl, sb, ext, rfl⟩ | ⟨rfl, c9, r9, rfl⟩
      all_goals
        refine wp_sound [12, 48] 60 _ _ _ _ _ _ _ ?_
        refine lt_if rfl hum (by omega) (by omega) (fun h => absurd h (by omega)) (fun _ => ?_)
        refine GoP.eq2 (i1 _ _ _) (by rw [i_inc]) rfl
    · have hum := hT3.2.2.2.1.2
      have hIl := inv_leg (g := g) (st := st) hIw i (by omega)
      have z1 : legN g st S W i (191 + 2 * st) = Int32.ofNat kd := by rw [legN_at hS (by omega) i (by omega)]; exact s1
      have z2 : legN g st S W i (191 + 2 * st + 1) = Int32.ofNat n := by rw [legN_at hS (by omega) i (by omega)]; exact s2
      rw [legN, hg i hi] at ih2
      generalize legN g st S W i = P at *
      have hbt := bits_at B h64 i (by omega)
      have hmo := hIl.1.2.2.2.2.2.2.1 i hi
      obtain ⟨e, ee1, ee2⟩ := hIl.2.2.2
      have g1 : M3 (b + 7) 1 = P 1 := hT3.2.2.2.2.2.1 1 (by omega)
      have hrd : ∀ (d : Nat) (Q : mQ), (∀ M', TrN M' b (roadN P i S (Int32.ofNat n)) m S t → FrB b M3 M' → Q (.inl none) GG M' 0 0) → EvP RO (d + 4) 48 [.ref b, .int (Int32.ofNat i), .int (Int32.ofNat n)] GG M3 Q := fun d Q => c_goRoad (RO := RO) (d := d) (GG := GG) hb hT3 hIl.2.1 hIl.2.2.1 hi hmo s5
      have hfd : n ≤ 9 → ∀ (d : Nat) (Q : mQ), (∀ M', TrN M' b (fordN P i S (Int32.ofNat n)) m S t → FrB b M3 M' → Q (.inl none) GG M' 0 0) → EvP RO (d + 4) 43 [.ref b, .int (Int32.ofNat i), .int (Int32.ofNat n)] GG M3 Q := fun hn d Q => c_crossFord (RO := RO) (d := d) (GG := GG) hb hT3 hIl.2.1 hIl.2.2.1 hi hmo hn
      have hen : e * n ≤ 50 * 99 := Nat.mul_le_mul ee2 s5
      have hev : M3 (b + 7) 1 * Int32.ofNat n / 10 = Int32.ofNat (e * n / 10) := by
        rw [g1, ee1, i_mul, show (10 : Int32) = Int32.ofNat 10 from rfl, i_div (by omega) (by omega)]
      have hes : ∀ (d : Nat) (Q : mQ), (∀ M', TrN M' b (tireN P i (-Int32.ofNat (e * n / 10))) m S t → FrB b M3 M' → Q (.inl none) GG M' 0 0) → EvP RO (d + 2) 45 [.ref b, .int (Int32.ofNat i), .int (Int32.ofNat (e * n / 10))] GG M3 Q := fun d Q => c_easeBy (RO := RO) (d := d) (GG := GG) hb hT3 hi hmo (by omega)
      rw [← hev] at hes
      have hps : B.testBit i = true → ∀ M4 P1, TrN M4 b P1 m S t → FrB b M3 M4 → P1 = passN P st i S → GoP RO (d + 4) 75 [.ref b, .int (N 7), .int (Int32.ofNat B), .int (Int32.ofNat st), .int (Int32.ofNat kd), .int (Int32.ofNat n), .int (Int32.ofNat (i + 1))] [] GG M4 48 0 0 Q := by
        intro hbt M4 P1 h1 h2 h3
        rw [hbt] at ih2
        rw [h3] at h1
        exact ih2 M4 h1 (hF3.trans h2)
      have hno : B.testBit i = false → GoP RO (d + 4) 75 [.ref b, .int (N 7), .int (Int32.ofNat B), .int (Int32.ofNat st), .int (Int32.ofNat kd), .int (Int32.ofNat n), .int (Int32.ofNat (i + 1))] [] GG M3 48 0 0 Q := by
        intro hbt
        rw [hbt] at ih2
        exact ih2 M3 hT3 hF3
      have hpass : passN P st i S = bif decide (Int32.ofNat kd = 0) then roadN P i S (Int32.ofNat n) else bif decide (Int32.ofNat kd = 1) then fordN P i S (Int32.ofNat n) else tireN P i (-(M3 (b + 7) 1 * Int32.ofNat n / 10)) := by
        rw [passN, z1, z2, g1]
      have hk1 : Int32.ofNat kd = 1 → n ≤ 9 := fun h => s6 (i_inj (by omega) (by omega) h)
      clear rest ih ih2 hms t0 t1 hQ
      rcases hb with ⟨rfl, sb, ext, rfl⟩ | ⟨rfl, sb, ext, rfl⟩ | ⟨rfl, c9, r9, rfl⟩
      all_goals
        refine wp_sound [12, 48] 90 _ _ _ _ _ _ _ ?_
        refine lt_if rfl hum (by omega) (by omega) (fun _ => ?_) (fun h => absurd h (by omega))
        refine de_if (fun h1 => ?_) (fun h1 => ?_)
        · rw [hbt] at h1
          have hn := hno (by cases hx : B.testBit i with
            | false => rfl
            | true => rw [hx] at h1; cases h1)
          refine GoP.eq2 hn (by rw [i_inc]) rfl
        · rw [hbt] at h1
          have hp := hps (by cases hx : B.testBit i with
            | true => rfl
            | false => rw [hx] at h1; cases h1)
          refine de_if (fun h2 => ?_) (fun h2 => ?_)
          · rw [h2] at hpass
            refine hrd _ _ (fun M4 x1 x2 => ?_)
            refine GoP.eq2 (hp M4 _ x1 x2 hpass.symm) (by rw [i_inc]) rfl
          · refine de_if (fun h3 => ?_) (fun h3 => ?_)
            · rw [h2, h3] at hpass
              refine hfd (hk1 (of_decide_eq_true h3)) _ _ (fun M4 x1 x2 => ?_)
              refine GoP.eq2 (hp M4 _ x1 x2 hpass.symm) (by rw [i_inc]) rfl
            · rw [h2, h3] at hpass
              refine ⟨1, rfl, by omega, ?_⟩
              refine ⟨by decide, ?_⟩
              refine hes _ _ (fun M4 x1 x2 => ?_)
              refine GoP.eq2 (hp M4 _ x1 x2 hpass.symm) (by rw [i_inc]) rfl
end CLS
