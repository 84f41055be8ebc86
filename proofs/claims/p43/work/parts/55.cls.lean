theorem sacksOk_congr {N N' : Nat → Int32} {m S : Nat} (h : ∀ i, i < S → N' (63 + 8 * i + 3) = N (63 + 8 * i + 3) ∧ N' (63 + 8 * i + 4) = N (63 + 8 * i + 4) ∧ N' (63 + 8 * i + 5) = N (63 + 8 * i + 5)) (hO : sacksOk N m S) : sacksOk N' m S := fun i hi => sackOk_congr (h i hi).1 (h i hi).2.1 (h i hi).2.2 (hO i hi)
theorem weightOk_congr {N N' : Nat → Int32} {S : Nat} (h : ∀ i, i < S → N' (63 + 8 * i + 1) = N (63 + 8 * i + 1)) (hW : weightOk N S) : weightOk N' S := fun i hi => by
  rw [h i hi]
  exact hW i hi
theorem tireN_far {N : Nat → Int32} {i j : Nat} {x : Int32} (hi : i < 6) (h : j < 15 ∨ 62 < j) : tireN N i x j = N j := by
  rw [tireN, upd_ne (by omega)]
theorem sacksOk_tire {N : Nat → Int32} {m S i : Nat} {x : Int32} (hi : i < 6) (hO : sacksOk N m S) : sacksOk (tireN N i x) m S := sacksOk_congr (fun k _ => ⟨tireN_far hi (by omega), tireN_far hi (by omega), tireN_far hi (by omega)⟩) hO
theorem weightOk_tire {N : Nat → Int32} {S i : Nat} {x : Int32} (hi : i < 6) (hW : weightOk N S) : weightOk (tireN N i x) S := weightOk_congr (fun k _ => tireN_far hi (by omega)) hW
theorem sacksOk_shed {m S : Nat} {mm lim : Int32} : ∀ (f : Nat) (N : Nat → Int32), sacksOk N m S → sacksOk (shedN mm lim S f N) m S := by
  intro f
  induction f with
  | zero => intro N h; exact h
  | succ f ih =>
    intro N h
    rw [shedN_s]
    cases decide (lim < loadN N mm S) with
    | false => exact h
    | true => exact ih _ (sacksOk_lost h)
theorem weightOk_shed {S : Nat} {mm lim : Int32} : ∀ (f : Nat) (N : Nat → Int32), weightOk N S → weightOk (shedN mm lim S f N) S := by
  intro f
  induction f with
  | zero => intro N h; exact h
  | succ f ih =>
    intro N h
    rw [shedN_s]
    cases decide (lim < loadN N mm S) with
    | false => exact h
    | true => exact ih _ (weightOk_lost h)
/-- fact columns of sacks that breaking and wetting leave -/
theorem cross_at {N : Nat → Int32} {mm : Int32} {sh wet : Bool} {j : Nat} (h : j ≠ 11) (h2 : j ≠ 12) (h3 : j ≠ 14) (h4 : ∀ k, j ≠ 63 + 8 * k + 2) : ∀ n, crossN N mm sh wet n j = N j := by
  intro n
  induction n with
  | zero => rfl
  | succ n ih =>
    rw [crossN]
    cases isOnB (crossN N mm sh wet n) mm n with
    | false => exact ih
    | true =>
      have hb : (bif sh && decide (crossN N mm sh wet n (63 + 8 * n) = 3) then brk1 (crossN N mm sh wet n) n else crossN N mm sh wet n) j = N j := by
        cases sh && decide (crossN N mm sh wet n (63 + 8 * n) = 3) with
        | false => exact ih
        | true => rw [cond_true, brk1_at h2 (h4 n)]; exact ih
      cases wet with
      | false => exact hb
      | true => rw [cond_true, cond_true, wet1_ne h h3 (h4 n)]; exact hb
section CLS
variable {RO : List mE} {d sb : Nat} {ext : List sh} {M : mM} {Q : mQ} {b m S t : Nat} {N : Nat → Int32} {GG : List sh}
theorem c_goRoad {i n : Nat} (hb : bas GG b) (hT : TrN M b N m S t) (hO : sacksOk N m S) (hW : weightOk N S) (hi : i < m) (hm : muleOk N i) (hn : n ≤ 99) (hQ : ∀ M', TrN M' b (roadN N i S (Int32.ofNat n)) m S t → FrB b M M' → Q (.inl none) GG M' 0 0) : EvP RO (d + 4) 48 [.ref b, .int (Int32.ofNat i), .int (Int32.ofNat n)] GG M Q := by
  have hm6 := hT.1.2.2.2.1
  have hS := hT.1.2.2.2.2.1
  obtain ⟨s, a, e1, e2, e3, e4, e5⟩ := id hm
  obtain ⟨L, l1, l2⟩ := load_val (mm := Int32.ofNat i) hW
  obtain ⟨k1, k2, -, -⟩ := hT.2.2.2.2.2.2.2.2.1 i hi
  have h0 := fun d => c_atM (RO := RO) (d := d) (GG := GG) (c := 0) hb hT hi (by omega)
  have h1 := fun d => c_atM (RO := RO) (d := d) (GG := GG) (c := 1) hb hT hi (by omega)
  simp only [Nat.add_zero, k1] at h0
  simp only [k2] at h1
  have hl := fun d => c_loadOn (RO := RO) (d := d) (GG := GG) (j := i) hb hT hO (by omega)
  have hq9 : Int32.ofNat n * (loadN N (Int32.ofNat i) S * 10 / N (15 + 8 * i) + 1) / 10 = Int32.ofNat (n * (L * 10 / s + 1) / 10) ∧ n * (L * 10 / s + 1) / 10 ≤ 40000 := by
    have d1 : L * 10 / s ≤ L * 10 / 10 := Nat.div_le_div_left e3 (by omega)
    have d2 : L * 10 / s ≤ 3168 := by omega
    have d3 : n * (L * 10 / s + 1) ≤ 99 * 3169 := Nat.mul_le_mul hn (by omega)
    refine ⟨?_, by omega⟩
    rw [l1, e1, show (10 : Int32) = Int32.ofNat 10 from rfl, i_mul, i_div (by omega) (by omega), i_inc, i_mul, i_div (by omega) (by omega)]
  have hmin : (if N (15 + 8 * i + 1) + Int32.ofNat n * (loadN N (Int32.ofNat i) S * 10 / N (15 + 8 * i) + 1) / 10 < 100 then N (15 + 8 * i + 1) + Int32.ofNat n * (loadN N (Int32.ofNat i) S * 10 / N (15 + 8 * i) + 1) / 10 else 100) = clampB (N (15 + 8 * i + 1) + Int32.ofNat n * (loadN N (Int32.ofNat i) S * 10 / N (15 + 8 * i) + 1) / 10) := by
    rw [hq9.1, e2, i_add]
    exact min_eq (by omega)
  have hQ2 := hQ
  rw [roadN] at hQ2
  generalize hE : Int32.ofNat n * (loadN N (Int32.ofNat i) S * 10 / N (15 + 8 * i) + 1) / 10 = E at *
  have p1 := fun d => c_putM (RO := RO) (d := d) (GG := GG) (c := 1) (x := clampB (N (15 + 8 * i + 1) + E)) hb hT hi (by omega)
  have t1 : TrN (upM M (b + 4) (upd (M (b + 4)) (9 * i + 1) (clampB (N (15 + 8 * i + 1) + E)))) b (tireN N i E) m S t := TrN_tire hT hi
  have hbe := fun d => c_bearing (RO := RO) (d := d) (GG := GG) hb t1 hi
  obtain ⟨bb, hb1, hb2⟩ := bear_ok (tireN_ok (i := i) (more := E) hm)
  have hsh : ∀ (d : Nat) (Q : mQ), (∀ M', TrN M' b _ m S t → FrB b _ M' → Q (.inl (some (.int (zb (decide (0 < shedK (Int32.ofNat i) (bearN (tireN N i E) i) S 16 (tireN N i E))))))) GG M' 0 0) → EvP RO (d + 3) 71 [.ref b, .int (Int32.ofNat i), .int (bearN (tireN N i E) i)] GG _ Q := fun d Q => c_shedTo (RO := RO) (d := d) (GG := GG) hb t1 (sacksOk_tire (by omega) hO) (weightOk_tire (by omega) hW) (by omega) (by rw [hb1]; exact i_nonneg (by omega))
  have fin : ∀ M', TrN M' b (shedN (Int32.ofNat i) (bearN (tireN N i E) i) S 16 (tireN N i E)) m S t → FrB b (upM M (b + 4) (upd (M (b + 4)) (9 * i + 1) (clampB (N (15 + 8 * i + 1) + E)))) M' → Q (.inl none) GG M' 0 0 := fun M' x1 x2 => hQ2 M' x1 ((FrB.up (by omega)).trans x2)
  clear hQ hQ2
  rw [← hmin] at p1 hsh fin
  simp only [← hmin] at hbe
  have hs0 : (0 : Int32) < N (15 + 8 * i) := by rw [e1, show (0 : Int32) = Int32.ofNat 0 from rfl, i_lt (by omega) (by omega)]; omega
  have hs1 : ¬ N (15 + 8 * i) = 0 := fun h => by
    rw [e1] at h
    have := i_inj (by omega) (by omega) (h.trans (show (0 : Int32) = Int32.ofNat 0 from rfl))
    omega
  rcases hb with ⟨rfl, sb, ext, rfl⟩ | ⟨rfl, sb, ext, rfl⟩ | ⟨rfl, c9, r9, rfl⟩
  all_goals
    refine EvP.wp [] 60 rfl ?_
    refine (h0 _).use ?_
    refine ⟨fun _ => ?_, fun h => absurd hs0 h⟩
    refine (hl _).use ?_
    refine ⟨hs1, ?_⟩
    refine (h1 _).use ?_
    refine ⟨by decide, ?_⟩
    rw [hE]
    refine (p1 _).use ?_
    refine (hbe _).use ?_
    refine hsh _ _ (fun M' x1 x2 => ?_)
    exact fin M' x1 x2
theorem c_crossFord {i n : Nat} (hb : bas GG b) (hT : TrN M b N m S t) (hO : sacksOk N m S) (hW : weightOk N S) (hi : i < m) (hm : muleOk N i) (hn : n ≤ 9) (hQ : ∀ M', TrN M' b (fordN N i S (Int32.ofNat n)) m S t → FrB b M M' → Q (.inl none) GG M' 0 0) : EvP RO (d + 4) 43 [.ref b, .int (Int32.ofNat i), .int (Int32.ofNat n)] GG M Q := by
  have hm6 := hT.1.2.2.2.1
  have hS := hT.1.2.2.2.2.1
  have hf := fun d => c_fordLimit (RO := RO) (d := d) (GG := GG) (depth := Int32.ofNat n) hb hT hi
  obtain ⟨bb, hb1, hb2⟩ := ford_ok hm hn
  have hsh : ∀ (d : Nat) (Q : mQ), (∀ M', TrN M' b _ m S t → FrB b _ M' → Q (.inl (some (.int (zb (decide (0 < shedK (Int32.ofNat i) (fordL N i (Int32.ofNat n)) S 16 N)))))) GG M' 0 0) → EvP RO (d + 3) 71 [.ref b, .int (Int32.ofNat i), .int (fordL N i (Int32.ofNat n))] GG _ Q := fun d Q => c_shedTo (RO := RO) (d := d) (GG := GG) hb hT hO hW (by omega) (by rw [hb1]; exact i_nonneg (by omega))
  have hO1 := sacksOk_shed (mm := Int32.ofNat i) (lim := fordL N i (Int32.ofNat n)) 16 N hO
  have hQ2 : ∀ M', TrN M' b (crossN (shedN (Int32.ofNat i) (fordL N i (Int32.ofNat n)) S 16 N) (Int32.ofNat i) (decide (0 < shedK (Int32.ofNat i) (fordL N i (Int32.ofNat n)) S 16 N)) (!decide (Int32.ofNat n < 5)) S) m S t → FrB b M M' → Q (.inl none) GG M' 0 0 := by
    intro M' h1 h2
    refine hQ M' ?_ h2
    rw [cross_eq] at h1
    rw [fordN, fordN1]
    have hk : decide (0 < Int32.ofNat (shedK (Int32.ofNat i) (fordL N i (Int32.ofNat n)) S 16 N)) = decide (0 < shedK (Int32.ofNat i) (fordL N i (Int32.ofNat n)) S 16 N) := by
      have hle : ∀ (f : Nat) (N : Nat → Int32), shedK (Int32.ofNat i) (fordL N i (Int32.ofNat n)) S f N ≤ f := by
        intro f N
        generalize fordL N i (Int32.ofNat n) = lim
        induction f generalizing N with
        | zero => exact Nat.le_refl _
        | succ f ih =>
          rw [shedK_s]
          cases decide (lim < loadN N (Int32.ofNat i) S) with
          | false => exact Nat.zero_le _
          | true => exact Nat.succ_le_succ (ih _)
      have h16 := hle 16 N
      refine decide_eq_decide.mpr ?_
      rw [show (0 : Int32) = Int32.ofNat 0 from rfl, i_lt (by omega) (by omega)]
    rw [hk]
    cases hd : decide (Int32.ofNat n < 5) with
    | true => rw [hd] at h1; exact h1
    | false => rw [hd] at h1; exact h1
  generalize hN1 : shedN (Int32.ofNat i) (fordL N i (Int32.ofNat n)) S 16 N = N1 at *
  generalize decide (0 < shedK (Int32.ofNat i) (fordL N i (Int32.ofNat n)) S 16 N) = sh at *
  have loop : ∀ M1, TrN M1 b N1 m S t → FrB b M M1 → GoP RO (d + 3) 43 [.ref b, .int (Int32.ofNat i), .int (Int32.ofNat n), .int (zb sh), .int 0] [] GG M1 15 0 0 Q := by
    intro M1 hT1 hF1
    have key := up_ind (S := S) (H := fun k => ∀ M2, TrN M2 b (crossN N1 (Int32.ofNat i) sh (!decide (Int32.ofNat n < 5)) k) m S t → FrB b M M2 → GoP RO (d + 3) 43 [.ref b, .int (Int32.ofNat i), .int (Int32.ofNat n), .int (zb sh), .int (Int32.ofNat k)] [] GG M2 15 0 0 Q) (fun M2 hT2 hF2 => ?_) (fun k hk ih M2 hT2 hF2 => ?_) 0 (by omega)
    · exact key M1 hT1 hF1
    · have hu := hT2.2.2.1.2
      have hq := hQ2 M2 hT2 hF2
      clear hsh hQ2
      rcases hb with ⟨rfl, sb, ext, rfl⟩ | ⟨rfl, sb, ext, rfl⟩ | ⟨rfl, c9, r9, rfl⟩
      all_goals
        refine wp_sound [15] 60 _ _ _ _ _ _ _ ?_
        refine lt_if rfl hu (by omega) (by omega) (fun h => absurd h (by omega)) (fun _ => ?_)
        exact hq
    · have hu := hT2.2.2.1.2
      have hOc : sacksOk (crossN N1 (Int32.ofNat i) sh (!decide (Int32.ofNat n < 5)) k) m S := sacksOk_congr (fun x _ => ⟨cross_at (by omega) (by omega) (by omega) (by omega) k, cross_at (by omega) (by omega) (by omega) (by omega) k, cross_at (by omega) (by omega) (by omega) (by omega) k⟩) hO1
      rw [crossN] at ih
      generalize crossN N1 (Int32.ofNat i) sh (!decide (Int32.ofNat n < 5)) k = P at *
      have q4 := fun d => c_atS (RO := RO) (d := d) (GG := GG) (c := 4) hb hT2 hk (by omega)
      have q0 := fun d => c_atS (RO := RO) (d := d) (GG := GG) (c := 0) hb hT2 hk (by omega)
      have q2 := fun d => c_atS (RO := RO) (d := d) (GG := GG) (c := 2) hb hT2 hk (by omega)
      have g4 : M2 (b + 8) 4 = P 12 := hT2.2.2.2.2.2.2.1 4 (by omega)
      have t1 := TrN_count (w := 4) (x := P 12 + P (63 + 8 * k + 2)) hT2 (by omega)
      have p2 := fun d => c_putS (RO := RO) (d := d) (GG := GG) (c := 2) (x := 0) hb t1 hk (by omega)
      have t2 := TrN_putS (c := 2) (x := 0) t1 hk (by omega)
      have tail : isOnB P (Int32.ofNat i) k = true → ∀ (M3 : mM) (P1 : Nat → Int32), TrN M3 b P1 m S t → FrB b M M3 → (bif sh && decide (P (63 + 8 * k) = 3) then brk1 P k else P) = P1 → GoP RO (d + 3) 43 [.ref b, .int (Int32.ofNat i), .int (Int32.ofNat n), .int (zb sh), .int (Int32.ofNat k)] [] GG M3 92 0 0 Q := by
        intro hon M3 P1 hT3 hF3 hP1
        rw [hon, cond_true, hP1] at ih
        have hw : ∀ (d : Nat) (Q : mQ), (∀ M', TrN M' b (wet1 P1 k) m S t → FrB b M3 M' → Q (.inl none) GG M' 0 0) → EvP RO (d + 2) 77 [.ref b, .int (Int32.ofNat k)] GG M3 Q := fun d Q => c_wetSack (RO := RO) (d := d) (GG := GG) hb hT3 hk
        clear hsh hQ2 q4 q0 q2 p2 t2 t1
        rcases hb with ⟨rfl, sb, ext, rfl⟩ | ⟨rfl, sb, ext, rfl⟩ | ⟨rfl, c9, r9, rfl⟩
        all_goals
          refine wp_sound [15] 60 _ _ _ _ _ _ _ ?_
          refine de_if (fun h5 => ?_) (fun h5 => ?_)
          · rw [h5] at ih
            refine GoP.eq2 (ih M3 hT3 hF3) (by rw [i_inc]) rfl
          · rw [h5] at ih
            refine hw _ _ (fun M' x1 x2 => ?_)
            refine GoP.eq2 (ih M' x1 (hF3.trans x2)) (by rw [i_inc]) rfl
      have hon_eq := on_eq (j := i) (hOc k hk) (by omega)
      clear hsh hQ2
      rcases hb with ⟨rfl, sb, ext, rfl⟩ | ⟨rfl, sb, ext, rfl⟩ | ⟨rfl, c9, r9, rfl⟩
      all_goals
        refine wp_sound [15, 92] 60 _ _ _ _ _ _ _ ?_
        refine lt_if rfl hu (by omega) (by omega) (fun _ => ?_) (fun h => absurd h (by omega))
        refine (q4 _).use ?_
        refine de_if (fun h1 => ?_) (fun h1 => ?_)
        · rw [hon_eq] at h1
          have tl := tail h1
          refine zb_if (fun h2 => ?_) (fun h2 => ?_)
          · exact tl M2 P hT2 hF2 (by rw [h2]; rfl)
          · refine (q0 _).use ?_
            refine de_if (fun h3 => ?_) (fun h3 => ?_)
            · refine ⟨4, rfl, by omega, ?_⟩
              refine (q2 _).use ?_
              refine ⟨4, rfl, by omega, ?_⟩
              rw [← g4] at p2 t2
              refine (p2 _).use ?_
              refine tl _ _ t2 ((hF2.trans (FrB.up (by omega))).trans (FrB.up (by omega))) ?_
              rw [h2, show decide (P (63 + 8 * k) = 3) = true from h3, g4]; rfl
            · exact tl M2 P hT2 hF2 (by rw [h2, show decide (P (63 + 8 * k) = 3) = false from h3]; rfl)
        · rw [hon_eq] at h1
          rw [h1, cond_false] at ih
          refine GoP.eq2 (ih M2 hT2 hF2) (by rw [i_inc]) rfl
  rcases hb with ⟨rfl, sb, ext, rfl⟩ | ⟨rfl, sb, ext, rfl⟩ | ⟨rfl, c9, r9, rfl⟩
  all_goals
    refine EvP.wp [15] 60 rfl ?_
    refine (hf _).use ?_
    refine hsh _ _ (fun M' x1 x2 => ?_)
    exact loop M' x1 x2
end CLS
