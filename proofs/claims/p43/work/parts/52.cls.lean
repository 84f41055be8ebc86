/-! the class's reasons and small changes -/
theorem abs_eq {x : Int32} : (if 0 ≤ x then x else 0 - x) = absB x := by
  rw [absB]
  by_cases h : x < 0
  · rw [if_neg (fun h2 => absurd h (Int32.not_lt.mpr h2)), decide_eq_true h, cond_true, Int32.zero_sub]
  · rw [if_pos (Int32.not_lt.mp h), decide_eq_false h, cond_false]
theorem wOn_val {N : Nat → Int32} {mm sd : Int32} {S : Nat} (h : weightOk N S) : ∀ n, n ≤ S → ∃ w : Nat, wOn N mm sd n = Int32.ofNat w ∧ w ≤ 99 * n := by
  intro n
  induction n with
  | zero => intro _; exact ⟨0, rfl, Nat.le_refl _⟩
  | succ n ih =>
    intro hn
    obtain ⟨w, h1, h2⟩ := ih (by omega)
    obtain ⟨v, h3, h4, h5⟩ := h n (by omega)
    show ∃ x : Nat, wOn N mm sd n + (bif isOnB N mm n && decide (N (63 + 8 * n + 5) = sd) then N (63 + 8 * n + 1) else 0) = Int32.ofNat x ∧ x ≤ 99 * (n + 1)
    rw [h1]
    cases isOnB N mm n && decide (N (63 + 8 * n + 5) = sd) with
    | false => exact ⟨w, Int32.add_zero _, by omega⟩
    | true => exact ⟨w + v, by rw [cond_true, h3, i_add], by omega⟩
theorem i_subpos {a b : Nat} (ha : a < 1000000) (hb : b < 1000000) : (0 < Int32.ofNat a - Int32.ofNat b) ↔ b < a := by
  by_cases h : b ≤ a
  · rw [i_sub h, show (0 : Int32) = Int32.ofNat 0 from rfl, i_lt (by omega) (by omega)]
    omega
  · constructor
    · intro h2
      exfalso
      have h3 : Int32.ofNat a - Int32.ofNat b = - Int32.ofNat (b - a) := by
        rw [← i_sub (by omega), Int32.neg_sub]
      have hp : 0 < b - a := by omega
      have hp2 : b - a < 1000000 := by omega
      rw [h3] at h2
      generalize b - a = e at *
      rw [Int32.lt_iff_toInt_lt, Int32.toInt_neg, i_toInt hp2, show (0 : Int32).toInt = 0 from rfl, Int.bmod_eq_of_le (by omega) (by omega)] at h2
      omega
    · intro h2; omega
theorem light_eq {N : Nat → Int32} {mm : Int32} {S : Nat} (hS : S ≤ 16) (h : weightOk N S) : decide (0 < wOn N mm 0 S - wOn N mm 1 S) = decide (wOn N mm 1 S < wOn N mm 0 S) := by
  obtain ⟨a, ha1, ha2⟩ := wOn_val (mm := mm) (sd := 0) h S (Nat.le_refl _)
  obtain ⟨c, hc1, hc2⟩ := wOn_val (mm := mm) (sd := 1) h S (Nat.le_refl _)
  rw [ha1, hc1]
  refine decide_eq_decide.mpr ?_
  rw [i_subpos (by omega) (by omega), i_lt (by omega) (by omega)]
def offN (N : Nat → Int32) (k : Nat) (p : Int32) : Nat → Int32 := upd (upd (upd N (63 + 8 * k + 3) p) (63 + 8 * k + 4) (-1)) (63 + 8 * k + 5) (-1)
section CLS
variable {RO : List mE} {d sb : Nat} {ext : List sh} {M : mM} {Q : mQ} {b m S t : Nat} {N : Nat → Int32} {GG : List sh}
theorem c_isLevel {j : Nat} (hb : bas GG b) (hT : TrN M b N m S t) (hO : sacksOk N m S) (hj : j < 1000) : EvR RO (d + 3) 51 [.ref b, .int (Int32.ofNat j)] GG M (some (.int (zb (!decide (N 0 < tiltN N j S))))) M := by
  have h0 := fun d => c_leftward (RO := RO) (d := d) (GG := GG) hb hT hO hj
  have h7 := hT.2.2.2.2.2.1 0 (by omega)
  rcases hb with ⟨rfl, sb, ext, rfl⟩ | ⟨rfl, sb, ext, rfl⟩ | ⟨rfl, c9, r9, rfl⟩
  all_goals
    refine EvP.wp [] 40 rfl ?_
    refine (h0 _).use ?_
    refine ⟨0, rfl, by omega, ?_⟩
    refine de_if (fun h => ?_) (fun h => ?_)
    · rw [abs_eq, h7] at h
      refine ⟨rfl, ?_, rfl, rfl, rfl, rfl⟩
      rw [show decide (N 0 < tiltN N j S) = true from h]; rfl
    · rw [abs_eq, h7] at h
      refine ⟨rfl, ?_, rfl, rfl, rfl, rfl⟩
      rw [show decide (N 0 < tiltN N j S) = false from h]; rfl
theorem c_lighterSide {j : Nat} (hb : bas GG b) (hT : TrN M b N m S t) (hO : sacksOk N m S) (hW : weightOk N S) (hj : j < 1000) : EvR RO (d + 3) 55 [.ref b, .int (Int32.ofNat j)] GG M (some (.int (lightN N (Int32.ofNat j) S))) M := by
  have hS := hT.1.2.2.2.2.1
  have h0 := fun d => c_leftward (RO := RO) (d := d) (GG := GG) hb hT hO hj
  rw [lightN, ← light_eq hS hW]
  rcases hb with ⟨rfl, sb, ext, rfl⟩ | ⟨rfl, sb, ext, rfl⟩ | ⟨rfl, c9, r9, rfl⟩
  all_goals
    refine EvP.wp [] 40 rfl ?_
    refine (h0 _).use ?_
    refine de_if (fun h => ?_) (fun h => ?_)
    · refine ⟨?_, rfl, rfl, rfl, rfl⟩
      rw [h]; rfl
    · refine ⟨?_, rfl, rfl, rfl, rfl⟩
      rw [h]; rfl
theorem c_firstUnlevel (hb : bas GG b) (hT : TrN M b N m S t) (hO : sacksOk N m S) : EvR RO (d + 3) 46 [.ref b] GG M (some (.int (enc (tiltedI N S m)))) M := by
  have hm := hT.1.2.2.2.1
  have hu := hT.2.2.2.1.2
  have h7 := hT.2.2.2.2.2.1 0 (by omega)
  have h0 := fun d j (hj : j < 1000) => c_leftward (RO := RO) (d := d) (GG := GG) hb hT hO hj
  refine EvR.of (fun Q hQ => ?_)
  rcases hb with ⟨rfl, sb, ext, rfl⟩ | ⟨rfl, sb, ext, rfl⟩ | ⟨rfl, c9, r9, rfl⟩
  all_goals
    refine EvP.wp [2] 40 rfl ?_
    refine up_ind (S := m) (H := fun i => tiltedI N S i = none → GoP RO (d + 2) 46 [.ref _, .int (Int32.ofNat i)] [] _ M 2 0 0 Q) (fun hp => ?_) (fun i hi ih hp => ?_) 0 (by omega) rfl
    · refine wp_sound [2] 60 _ _ _ _ _ _ _ ?_
      refine lt_if rfl hu (by omega) (by omega) (fun h => absurd h (by omega)) (fun _ => ?_)
      rw [hp] at hQ
      exact hQ
    · refine wp_sound [2] 60 _ _ _ _ _ _ _ ?_
      refine lt_if rfl hu (by omega) (by omega) (fun _ => ?_) (fun h => absurd h (by omega))
      refine (h0 _ i (by omega)).use ?_
      refine ⟨0, rfl, by omega, ?_⟩
      have hnext := pick_next hp
      refine de_if (fun h1 => ?_) (fun h1 => ?_)
      · rw [abs_eq, h7] at h1
        rw [show decide (N 0 < tiltN N i S) = true from h1] at hnext
        have h9 := pick_stays hnext m (by omega)
        rw [tiltedI, h9] at hQ
        exact hQ
      · rw [abs_eq, h7] at h1
        rw [show decide (N 0 < tiltN N i S) = false from h1] at hnext
        refine GoP.eq2 (ih hnext) (by rw [i_inc]) rfl
theorem c_reason {k j : Nat} (hb : bas GG b) (hT : TrN M b N m S t) (hO : sacksOk N m S) (hk : k < S) (hj : j < m) : EvR RO (d + 3) 68 [.ref b, .int (Int32.ofNat k), .int (Int32.ofNat j)] GG M (some (.int (prN N k j S))) M := by
  have hm := hT.1.2.2.2.1
  have at3 := fun d => c_atS (RO := RO) (d := d) (GG := GG) (c := 3) hb hT hk (by omega)
  have at1 := fun d => c_atS (RO := RO) (d := d) (GG := GG) (c := 1) hb hT hk (by omega)
  have hl := fun d => c_loadOn (RO := RO) (d := d) (GG := GG) (j := j) hb hT hO (by omega)
  have hbe := fun d => c_bearing (RO := RO) (d := d) (GG := GG) hb hT hj
  rcases hb with ⟨rfl, sb, ext, rfl⟩ | ⟨rfl, sb, ext, rfl⟩ | ⟨rfl, c9, r9, rfl⟩
  all_goals
    refine EvP.wp [] 60 rfl ?_
    refine (at3 _).use ?_
    refine de_if (fun h => ?_) (fun h => ?_)
    · refine (hl _).use ?_
      refine (at1 _).use ?_
      refine (hbe _).use ?_
      refine de_if (fun h2 => ?_) (fun h2 => ?_)
      · refine ⟨?_, rfl, rfl, rfl, rfl⟩
        rw [prN, h, cond_true, h2]; rfl
      · refine ⟨?_, rfl, rfl, rfl, rfl⟩
        rw [prN, h, cond_true, h2]; rfl
    · refine ⟨?_, rfl, rfl, rfl, rfl⟩
      rw [prN, h]; rfl
theorem c_isBetter {k c : Nat} (hb : bas GG b) (hT : TrN M b N m S t) (hk : k < S) (hc : c < S) : EvR RO (d + 2) 50 [.ref b, .int (Int32.ofNat k), .int (Int32.ofNat c)] GG M (some (.int (zb (decide (N (63 + 8 * c + 2) * N (63 + 8 * k + 1) < N (63 + 8 * k + 2) * N (63 + 8 * c + 1)))))) M := by
  have at2 := fun d k (hk : k < S) => c_atS (RO := RO) (d := d) (GG := GG) (c := 2) hb hT hk (by omega)
  have at1 := fun d k (hk : k < S) => c_atS (RO := RO) (d := d) (GG := GG) (c := 1) hb hT hk (by omega)
  rcases hb with ⟨rfl, sb, ext, rfl⟩ | ⟨rfl, sb, ext, rfl⟩ | ⟨rfl, c9, r9, rfl⟩
  all_goals
    refine EvP.wp [] 60 rfl ?_
    refine (at2 _ k hk).use ?_
    refine (at1 _ c hc).use ?_
    refine (at2 _ c hc).use ?_
    refine (at1 _ k hk).use ?_
    refine de_if (fun h => ?_) (fun h => ?_)
    · refine ⟨rfl, ?_, rfl, rfl, rfl, rfl⟩
      rw [h]; rfl
    · refine ⟨rfl, ?_, rfl, rfl, rfl, rfl⟩
      rw [h]; rfl
theorem c_bestFor {j : Nat} (hb : bas GG b) (hT : TrN M b N m S t) (hO : sacksOk N m S) (hj : j < m) : EvR RO (d + 4) 42 [.ref b, .int (Int32.ofNat j)] GG M (some (.int (enc (bestI N j S S)))) M := by
  have hS := hT.1.2.2.2.2.1
  have hu := hT.2.2.1.2
  have hr := fun d k (hk : k < S) => c_reason (RO := RO) (d := d) (GG := GG) hb hT hO hk hj
  have hi2 := fun d k c (hk : k < S) (hc : c < S) => c_isBetter (RO := RO) (d := d) (GG := GG) hb hT hk hc
  refine EvR.of (fun Q hQ => ?_)
  rcases hb with ⟨rfl, sb, ext, rfl⟩ | ⟨rfl, sb, ext, rfl⟩ | ⟨rfl, c9, r9, rfl⟩
  all_goals
    refine EvP.wp [4] 40 rfl ?_
    refine up_ind (S := S) (H := fun k => GoP RO (d + 3) 42 [.ref _, .int (Int32.ofNat j), .int (enc (bestI N j S k)), .int (Int32.ofNat k)] [] _ M 4 0 0 Q) ?_ (fun k hk ih => ?_) 0 (by omega)
    · refine wp_sound [4] 60 _ _ _ _ _ _ _ ?_
      refine lt_if rfl hu (by omega) (by omega) (fun h => absurd h (by omega)) (fun _ => ?_)
      exact hQ
    · refine wp_sound [4] 60 _ _ _ _ _ _ _ ?_
      refine lt_if rfl hu (by omega) (by omega) (fun _ => ?_) (fun h => absurd h (by omega))
      refine (hr _ k hk).use ?_
      refine de_if (fun h1 => ?_) (fun h1 => ?_)
      · cases hp : bestI N j S k with
        | none =>
          refine ⟨fun _ => ?_, fun h => absurd rfl h⟩
          refine GoP.eq2 ih ?_ rfl
          rw [i_inc, show bestI N j S (k + 1) = some k from pick_new hp h1]
          rfl
        | some c =>
          have hc : c < k := (pick_lt hp).1
          refine ⟨fun h => absurd h (i_ne_m1 (by omega)), fun _ => ?_⟩
          refine (hi2 _ k c hk (by omega)).use ?_
          have hstep : bestI N j S (k + 1) = (bif decide (N (63 + 8 * c + 2) * N (63 + 8 * k + 1) < N (63 + 8 * k + 2) * N (63 + 8 * c + 1)) then some k else some c) := pick_old hp h1
          refine zb_if (fun h2 => ?_) (fun h2 => ?_)
          · refine GoP.eq2 ih ?_ rfl
            rw [i_inc, hstep, h2]; rfl
          · refine GoP.eq2 ih ?_ rfl
            rw [i_inc, hstep, h2]; rfl
      · refine GoP.eq2 ih ?_ rfl
        rw [i_inc, show bestI N j S (k + 1) = bestI N j S k from pick_off h1]
theorem c_putOn {k : Nat} {mm sd : Int32} (hb : bas GG b) (hT : TrN M b N m S t) (hk : k < S) (hQ : ∀ M', TrN M' b (packN N k mm sd) m S t → FrB b M M' → Q (.inl none) GG M' 0 0) : EvP RO (d + 2) 66 [.ref b, .int (Int32.ofNat k), .int mm, .int sd] GG M Q := by
  have p1 := fun d => c_putS (RO := RO) (d := d) (GG := GG) (c := 3) (x := 1) hb hT hk (by omega)
  have t1 := TrN_putS (c := 3) (x := 1) hT hk (by omega)
  have p2 := fun d => c_putS (RO := RO) (d := d) (GG := GG) (c := 4) (x := mm) hb t1 hk (by omega)
  have t2 := TrN_putS (c := 4) (x := mm) t1 hk (by omega)
  have p3 := fun d => c_putS (RO := RO) (d := d) (GG := GG) (c := 5) (x := sd) hb t2 hk (by omega)
  have t3 := TrN_putS (c := 5) (x := sd) t2 hk (by omega)
  have hq := hQ _ t3 (((FrB.up (by omega)).trans (FrB.up (by omega))).trans (FrB.up (by omega)))
  rcases hb with ⟨rfl, sb, ext, rfl⟩ | ⟨rfl, sb, ext, rfl⟩ | ⟨rfl, c9, r9, rfl⟩
  all_goals
    refine EvP.wp [] 60 rfl ?_
    refine (p1 _).use ?_
    refine (p2 _).use ?_
    refine (p3 _).use ?_
    exact hq
theorem c_takeOff {k : Nat} {p : Int32} (hb : bas GG b) (hT : TrN M b N m S t) (hk : k < S) (hQ : ∀ M', TrN M' b (offN N k p) m S t → FrB b M M' → Q (.inl none) GG M' 0 0) : EvP RO (d + 2) 73 [.ref b, .int (Int32.ofNat k), .int p] GG M Q := by
  have p1 := fun d => c_putS (RO := RO) (d := d) (GG := GG) (c := 3) (x := p) hb hT hk (by omega)
  have t1 := TrN_putS (c := 3) (x := p) hT hk (by omega)
  have p2 := fun d => c_putS (RO := RO) (d := d) (GG := GG) (c := 4) (x := -1) hb t1 hk (by omega)
  have t2 := TrN_putS (c := 4) (x := -1) t1 hk (by omega)
  have p3 := fun d => c_putS (RO := RO) (d := d) (GG := GG) (c := 5) (x := -1) hb t2 hk (by omega)
  have t3 := TrN_putS (c := 5) (x := -1) t2 hk (by omega)
  have hq := hQ _ t3 (((FrB.up (by omega)).trans (FrB.up (by omega))).trans (FrB.up (by omega)))
  rcases hb with ⟨rfl, sb, ext, rfl⟩ | ⟨rfl, sb, ext, rfl⟩ | ⟨rfl, c9, r9, rfl⟩
  all_goals
    refine EvP.wp [] 60 rfl ?_
    refine (p1 _).use ?_
    refine (p2 _).use ?_
    refine (p3 _).use ?_
    exact hq
end CLS
