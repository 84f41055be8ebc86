/-! the class's shedding, roads -/
theorem i_neg {a b : Nat} (h : a < b) (hb : b < 1000000) : Int32.ofNat a - Int32.ofNat b < 0 := by
  have h3 : Int32.ofNat a - Int32.ofNat b = - Int32.ofNat (b - a) := by
    rw [← i_sub (by omega), Int32.neg_sub]
  have hp : 0 < b - a := by omega
  have hp2 : b - a < 1000000 := by omega
  rw [h3]
  generalize b - a = e at *
  rw [Int32.lt_iff_toInt_lt, Int32.toInt_neg, i_toInt hp2, show (0 : Int32).toInt = 0 from rfl, Int.bmod_eq_of_le (by omega) (by omega)]
  omega
theorem clamp_nat {a : Nat} (ha : a < 1000000) : clampB (Int32.ofNat a) = Int32.ofNat (if 100 < a then 100 else a) := by
  rw [clampB, decide_eq_false (i_nonneg ha), cond_false]
  by_cases h : 100 < a
  · rw [if_pos h, decide_eq_true (by rw [show (100 : Int32) = Int32.ofNat 100 from rfl, i_lt (by omega) ha]; exact h)]; rfl
  · rw [if_neg h, decide_eq_false (by rw [show (100 : Int32) = Int32.ofNat 100 from rfl, i_lt (by omega) ha]; exact h)]; rfl
theorem ease_eq {a l : Nat} (ha : a ≤ 100) (hl : l < 100000) : (if 0 < Int32.ofNat a - Int32.ofNat l then Int32.ofNat a - Int32.ofNat l else 0) = clampB (Int32.ofNat a + -Int32.ofNat l) := by
  rw [← Int32.sub_eq_add_neg]
  by_cases h : l ≤ a
  · rw [i_sub h, clamp_nat (by omega), show (if 100 < a - l then 100 else a - l) = a - l from if_neg (by omega)]
    by_cases h2 : 0 < a - l
    · rw [if_pos (by rw [show (0 : Int32) = Int32.ofNat 0 from rfl, i_lt (by omega) (by omega)]; exact h2)]
    · rw [if_neg (by rw [show (0 : Int32) = Int32.ofNat 0 from rfl, i_lt (by omega) (by omega)]; exact h2), show a - l = 0 by omega]; rfl
  · have hn := i_neg (a := a) (b := l) (by omega) (by omega)
    rw [if_neg (by rw [i_subpos (by omega) (by omega)]; omega), clampB, decide_eq_true hn]; rfl
theorem min_eq {T : Nat} (hT : T < 1000000) : (if Int32.ofNat T < 100 then Int32.ofNat T else 100) = clampB (Int32.ofNat T) := by
  rw [clamp_nat hT]
  by_cases h : T < 100
  · rw [if_pos (by rw [show (100 : Int32) = Int32.ofNat 100 from rfl, i_lt hT (by omega)]; exact h), if_neg (by omega)]
  · rw [if_neg (by rw [show (100 : Int32) = Int32.ofNat 100 from rfl, i_lt hT (by omega)]; exact h)]
    by_cases h2 : 100 < T
    · rw [if_pos h2]; rfl
    · rw [if_neg h2, show T = 100 by omega]; rfl
theorem load_val {N : Nat → Int32} {mm : Int32} {S : Nat} (h : weightOk N S) : ∃ w : Nat, loadN N mm S = Int32.ofNat w ∧ w ≤ 198 * S := by
  obtain ⟨a, h1, h2⟩ := wOn_val (mm := mm) (sd := 0) h S (Nat.le_refl _)
  obtain ⟨c, h3, h4⟩ := wOn_val (mm := mm) (sd := 1) h S (Nat.le_refl _)
  exact ⟨a + c, by rw [loadN, h1, h3, i_add], by omega⟩
theorem sm_rem {f : Nat → Int32} {k : Nat} : ∀ n, k < n → sm f n - f k = sm (fun i => if i = k then 0 else f i) n := by
  intro n
  induction n with
  | zero => intro h; omega
  | succ n ih =>
    intro hk
    rw [sm, sm]
    by_cases e : n = k
    · rw [if_pos e, ← e, Int32.add_sub_cancel, Int32.add_zero]
      refine sm_congr (fun i hi => ?_)
      rw [if_neg (by omega)]
    · rw [if_neg e, ← ih (by omega), Int32.sub_eq_add_neg, Int32.sub_eq_add_neg, Int32.add_assoc, Int32.add_assoc, Int32.add_comm (f n)]
theorem lostN_w {N : Nat → Int32} {k i c : Nat} (h : c ≠ 3) (h4 : c ≠ 4) (h5 : c ≠ 5) (h6 : c ≠ 6) (hc : c < 8) : lostN N k (63 + 8 * i + c) = N (63 + 8 * i + c) := by
  rw [lostN, leaveN_at (by omega) (by omega) (by omega) (by omega), countN_at (by omega)]
theorem sackOk_congr {N N' : Nat → Int32} {m k : Nat} (h3 : N' (63 + 8 * k + 3) = N (63 + 8 * k + 3)) (h4 : N' (63 + 8 * k + 4) = N (63 + 8 * k + 4)) (h5 : N' (63 + 8 * k + 5) = N (63 + 8 * k + 5)) (h : sackOk N m k) : sackOk N' m k := by
  unfold sackOk
  rw [h3, h4, h5]
  exact h
theorem leaveN_5 {N : Nat → Int32} {k : Nat} {p : Int32} : leaveN N k p (63 + 8 * k + 5) = -1 := by
  rw [leaveN, upd_ne (by omega), upd_at]
theorem sackOk_leave {N : Nat → Int32} {m k i : Nat} {p : Int32} (hp : ¬ p = 1) (h : sackOk N m i) : sackOk (leaveN N k p) m i := by
  by_cases e : i = k
  · subst e
    exact Or.inr ⟨by rw [leaveN_3]; exact hp, leaveN_4, leaveN_5⟩
  · exact sackOk_congr (leaveN_at (by omega) (by omega) (by omega) (by omega)) (leaveN_at (by omega) (by omega) (by omega) (by omega)) (leaveN_at (by omega) (by omega) (by omega) (by omega)) h
theorem sacksOk_lost {N : Nat → Int32} {m S k : Nat} (h : sacksOk N m S) : sacksOk (lostN N k) m S := fun i hi => by
  rw [lostN]
  exact sackOk_leave (by decide) (sackOk_congr (countN_at (by omega)) (countN_at (by omega)) (countN_at (by omega)) (h i hi))
theorem weightOk_lost {N : Nat → Int32} {S k : Nat} (h : weightOk N S) : weightOk (lostN N k) S := fun i hi => by
  rw [lostN_w (by decide) (by decide) (by decide) (by decide) (by decide)]
  exact h i hi
theorem load_lost {N : Nat → Int32} {m S k : Nat} {mm : Int32} (hO : sacksOk N m S) (hk : k < S) (hon : isOnB N mm k = true) : loadN N mm S - N (63 + 8 * k + 1) = loadN (lostN N k) mm S := by
  rw [load_sm hO S (Nat.le_refl _), load_sm (sacksOk_lost hO) S (Nat.le_refl _)]
  have h1 := sm_rem (f := fun k => bif isOnB N mm k then N (63 + 8 * k + 1) else 0) (k := k) S hk
  rw [show (bif isOnB N mm k then N (63 + 8 * k + 1) else 0) = N (63 + 8 * k + 1) by rw [hon]; rfl] at h1
  rw [h1]
  refine sm_congr (fun i hi => ?_)
  rw [lostN_off, lostN_w (by decide) (by decide) (by decide) (by decide) (by decide)]
  by_cases e : i = k
  · rw [if_pos e, decide_eq_true e, Bool.not_true, Bool.and_false]; rfl
  · rw [if_neg e, decide_eq_false e, Bool.not_false, Bool.and_true]
theorem lost_eq {N : Nat → Int32} {k : Nat} : upd (offN (countN N 2 (N (63 + 8 * k + 2))) k 3) (63 + 8 * k + 6) (N 6) = lostN N k := by
  rw [lostN, leaveN, offN, show decide ((3 : Int32) = 0) = false from by decide, cond_false, countN_at (show 6 ≠ 8 + 2 by decide)]
theorem offN_at {N : Nat → Int32} {k j : Nat} {p : Int32} (h : j < 63 ∨ 190 < j) (hk : k < 16) : offN N k p j = N j := by
  rw [offN, upd_ne (by omega), upd_ne (by omega), upd_ne (by omega)]
section CLS
variable {RO : List mE} {d sb : Nat} {ext : List sh} {M : mM} {Q : mQ} {b m S t : Nat} {N : Nat → Int32} {GG : List sh}
theorem c_easeBy {i l : Nat} (hb : bas GG b) (hT : TrN M b N m S t) (hi : i < m) (hm : muleOk N i) (hl : l < 100000) (hQ : ∀ M', TrN M' b (tireN N i (-Int32.ofNat l)) m S t → FrB b M M' → Q (.inl none) GG M' 0 0) : EvP RO (d + 2) 45 [.ref b, .int (Int32.ofNat i), .int (Int32.ofNat l)] GG M Q := by
  obtain ⟨s, a, e1, e2, e3, e4, e5⟩ := hm
  obtain ⟨-, k2, -, -⟩ := hT.2.2.2.2.2.2.2.2.1 i hi
  have h1 := fun d => c_atM (RO := RO) (d := d) (GG := GG) (c := 1) hb hT hi (by omega)
  simp only [k2, e2] at h1
  have p1 := fun d => c_putM (RO := RO) (d := d) (GG := GG) (c := 1) (x := clampB (Int32.ofNat a + -Int32.ofNat l)) hb hT hi (by omega)
  have hq := hQ _ (TrN_tire (x := clampB (Int32.ofNat a + -Int32.ofNat l)) hT hi |> fun h => by rw [tireN, e2]; exact h) (FrB.up (by omega))
  rw [← ease_eq e5 hl] at p1 hq
  rcases hb with ⟨rfl, sb, ext, rfl⟩ | ⟨rfl, sb, ext, rfl⟩ | ⟨rfl, c9, r9, rfl⟩
  all_goals
    refine EvP.wp [] 60 rfl ?_
    refine (h1 _).use ?_
    refine (p1 _).use ?_
    exact hq
theorem c_shedTo {j : Nat} {lim : Int32} (hb : bas GG b) (hT : TrN M b N m S t) (hO : sacksOk N m S) (hW : weightOk N S) (hj : j < 1000) (hl : ¬ lim < 0) (hQ : ∀ M', TrN M' b (shedN (Int32.ofNat j) lim S 16 N) m S t → FrB b M M' → Q (.inl (some (.int (zb (decide (0 < shedK (Int32.ofNat j) lim S 16 N)))))) GG M' 0 0) : EvP RO (d + 3) 71 [.ref b, .int (Int32.ofNat j), .int lim] GG M Q := by
  have hS := hT.1.2.2.2.2.1
  have h0 := fun d => c_loadOn (RO := RO) (d := d) (GG := GG) hb hT hO hj
  have key : ∀ (n : Nat) (N : Nat → Int32) (M1 : mM) (lost : Nat) (sh : Bool) (v : Value), TrN M1 b N m S t → sacksOk N m S → weightOk N S → cntN N (Int32.ofNat j) S ≤ n → n + lost = 16 → (∀ M', TrN M' b (shedN (Int32.ofNat j) lim S n N) m S t → FrB b M1 M' → Q (.inl (some (.int (zb (sh || decide (0 < shedK (Int32.ofNat j) lim S n N)))))) GG M' 0 0) → GoP RO (d + 2) 71 [.ref b, .int (Int32.ofNat j), .int lim, .int (loadN N (Int32.ofNat j) S), .int (zb sh), .int (Int32.ofNat lost), v] [] GG M1 12 0 0 Q := by
    intro n
    induction n with
    | zero =>
      intro N M1 lost sh v hT hO hW hc hn hQ
      have hq := hQ M1 hT FrB.refl
      rw [show (sh || decide (0 < shedK (Int32.ofNat j) lim S 0 N)) = sh by cases sh <;> rfl] at hq
      refine wp_sound [12] 60 _ _ _ _ _ _ _ ?_
      refine lt_if (b := 16) rfl rfl (by omega) (by omega) (fun h => absurd h (by omega)) (fun _ => ?_)
      exact ⟨nar_zb, hq⟩
    | succ n ih =>
      intro N M1 lost sh v hT hO hW hc hn hQ
      cases hd : decide (lim < loadN N (Int32.ofNat j) S) with
      | false =>
        rw [shedN_s, shedK_s, hd] at hQ
        have hq := hQ M1 hT FrB.refl
        rw [show (sh || decide (0 < bif false then _ else 0)) = sh by cases sh <;> rfl] at hq
        refine wp_sound [12] 60 _ _ _ _ _ _ _ ?_
        refine lt_if (b := 16) rfl rfl (by omega) (by omega) (fun _ => ?_) (fun h => absurd h (by omega))
        refine ⟨fun h => absurd h (of_decide_eq_false hd), fun _ => ?_⟩
        exact ⟨nar_zb, hq⟩
      | true =>
        obtain ⟨k, hk, hkS, hon⟩ := poor_some hl (of_decide_eq_true hd)
        rw [shedN_s, shedK_s, hd, hk] at hQ
        have q1 := fun d => c_leastOn (RO := RO) (d := d) (GG := GG) hb hT hO hj
        rw [hk] at q1
        have q2 := fun d => c_atS (RO := RO) (d := d) (GG := GG) (c := 1) hb hT hkS (by omega)
        have q3 := fun d => c_atS (RO := RO) (d := d) (GG := GG) (c := 2) hb hT hkS (by omega)
        have g2 := hT.2.2.2.2.2.2.1 2 (by omega)
        have t1 := TrN_count (w := 2) (x := N 10 + N (63 + 8 * k + 2)) hT (by omega)
        have q4 : ∀ (d : Nat) (Q : mQ), (∀ M', TrN M' b (offN (upd N 10 (N 10 + N (63 + 8 * k + 2))) k 3) m S t → FrB b _ M' → Q (.inl none) GG M' 0 0) → EvP RO (d + 2) 73 [.ref b, .int (Int32.ofNat k), .int 3] GG _ Q := fun d Q => c_takeOff (RO := RO) (d := d) (GG := GG) (p := 3) hb t1 hkS
        have hoff := cntN_lost hon (fun i => lostN_off (N := N) (k := k)) S hkS
        have hlo := load_lost hO hkS hon
        have fin : ∀ M2, TrN M2 b (offN (upd N 10 (N 10 + N (63 + 8 * k + 2))) k 3) m S t → FrB b (upM M1 (b + 8) (upd (M1 (b + 8)) 2 (N 10 + N (63 + 8 * k + 2)))) M2 → (∀ d, EvR RO (d + 1) 38 [.ref (b + 1), .int (Int32.ofNat k), .int (Int32.ofNat 6), .int (M2 b 5)] GG M2 none (upM M2 (b + 2) (upd (M2 (b + 2)) (8 * k + 6) (M2 b 5)))) ∧ GoP RO (d + 2) 71 [.ref b, .int (Int32.ofNat j), .int lim, .int (loadN N (Int32.ofNat j) S - N (63 + 8 * k + 1)), .int 1, .int (Int32.ofNat (lost + 1)), .int (Int32.ofNat k)] [] GG (upM M2 (b + 2) (upd (M2 (b + 2)) (8 * k + 6) (M2 b 5))) 12 0 0 Q := by
          intro M2 t2 f2
          have hday : M2 b 5 = N 6 := by
            rw [t2.2.1.1, offN_at (by omega) (by omega), upd_ne (by decide)]
          have t3 := TrN_putS (c := 6) (x := M2 b 5) t2 hkS (by omega)
          rw [hday, show upd (offN (upd N 10 (N 10 + N (63 + 8 * k + 2))) k 3) (63 + 8 * k + 6) (N 6) = lostN N k from lost_eq, ← hday] at t3
          refine ⟨fun d => c_putS (c := 6) hb t2 hkS (by omega), ?_⟩
          rw [hlo]
          refine ih (lostN N k) _ (lost + 1) true _ t3 (sacksOk_lost hO) (weightOk_lost hW) (by omega) (by omega) (fun M' h1 h2 => ?_)
          have := hQ M' h1 (((FrB.up (by omega)).trans f2).trans ((FrB.up (by omega)).trans h2))
          rw [show (sh || decide (0 < bif true then shedK (Int32.ofNat j) lim S n (lostN N ((some k).getD 0)) + 1 else 0)) = true by
            rw [cond_true, decide_eq_true (Nat.succ_pos _), Bool.or_true]] at this
          rw [Bool.true_or]
          exact this
        clear ih hQ
        rcases hb with ⟨rfl, sb, ext, rfl⟩ | ⟨rfl, sb, ext, rfl⟩ | ⟨rfl, c9, r9, rfl⟩
        all_goals
          refine wp_sound [12] 60 _ _ _ _ _ _ _ ?_
          refine lt_if (b := 16) rfl rfl (by omega) (by omega) (fun _ => ?_) (fun h => absurd h (by omega))
          refine ⟨fun _ => ?_, fun h => absurd (of_decide_eq_true hd) h⟩
          refine (q1 _).use ?_
          refine (q2 _).use ?_
          refine ⟨2, rfl, by omega, ?_⟩
          refine (q3 _).use ?_
          refine ⟨2, rfl, by omega, ?_⟩
          rw [g2] at *
          refine q4 _ _ (fun M2 t2 f2 => ?_)
          obtain ⟨r1, r2⟩ := fin M2 t2 f2
          refine (r1 _).use ?_
          refine GoP.eq2 r2 (by rw [i_inc]; rfl) rfl
  have k16 := key 16 N M 0 false (.retAddr 0) hT hO hW (Nat.le_trans (cntN_le S) hS) (by omega) (fun M' h1 h2 => by rw [Bool.false_or]; exact hQ M' h1 h2)
  rcases hb with ⟨rfl, sb, ext, rfl⟩ | ⟨rfl, sb, ext, rfl⟩ | ⟨rfl, c9, r9, rfl⟩
  all_goals
    refine EvP.wp [12] 60 rfl ?_
    refine (h0 _).use ?_
    exact k16
end CLS
