/-! the class's other questions; a train begun anew; a stage dropped -/
def letB (N : Nat → Int32) (i : Nat) (v : Int32) : Int32 := bif inB v 0 (Int32.ofNat (lettN N i) - 1) then N (15 + 8 * i + 2 + v.toNatClampNeg) else -1
theorem inB_out {v x : Int32} {n : Nat} (hn : n < 1000000) (hx : x = Int32.ofNat n) (h : v < 0 ∨ ¬ v < Int32.ofNat n) : inB v 0 (x - 1) = false := by
  cases hb : inB v 0 (x - 1) with
  | false => rfl
  | true =>
    obtain ⟨i, h1, h2⟩ := inB_n hn hx hb
    subst h2
    rcases h with h | h
    · exact absurd h (i_nonneg (by omega))
    · exact absurd ((i_lt (by omega) hn).mpr h1) h
theorem nat_lt {v : Int32} {n : Nat} (hn : n < 1000000) (h0 : ¬ v < 0) (h1 : v < Int32.ofNat n) : ∃ i, i < n ∧ v = Int32.ofNat i := by
  refine i_of h0 ?_
  rw [Int32.lt_iff_toInt_lt, i_toInt hn] at h1
  exact h1
theorem clamp_nn {i : Nat} (h : i < 1000000) : (Int32.ofNat i).toNatClampNeg = i := clamp_n (n := 1000000) h (by omega)
theorem sm_sub {f g : Nat → Int32} : ∀ n, sm f n - sm g n = sm (fun i => f i - g i) n := by
  intro n
  rw [Int32.sub_eq_add_neg, sm_neg, sm_add]
  exact sm_congr (fun i _ => (Int32.sub_eq_add_neg _ _).symm)
def gapW (N : Nat → Int32) : Nat → Int32 := sm (fun k => bif decide (1 < N (63 + 8 * k + 3)) then 0 else N (63 + 8 * k + 2))
def gapT (N : Nat → Int32) : Nat → Int32 := sm (fun k => N (63 + 8 * k + 7))
theorem gapS_eq {N : Nat → Int32} : ∀ k, gapS N k = gapT N k - gapW N k := by
  intro k
  induction k with
  | zero => exact (Int32.sub_self 0).symm
  | succ k ih =>
    rw [gapS, ih, gapT, gapW, sm, sm]
    simp only [Int32.sub_eq_add_neg, Int32.neg_add]
    ac_rfl
def placesOk (N : Nat → Int32) (S : Nat) : Prop := ∀ k, k < S → ∃ p, p < 4 ∧ N (63 + 8 * k + 3) = Int32.ofNat p ∧ (p ≤ 1 → N (63 + 8 * k + 6) = -1)
def wgN (N : Nat → Int32) (S : Nat) : Int32 := absB (gapT N S - (N 9 + N 10 + N 11 + N 12 + gapW N S))
theorem wg_eq {N : Nat → Int32} {S : Nat} : gapS N S - N 9 - N 10 - N 11 - N 12 = gapT N S - (N 9 + N 10 + N 11 + N 12 + gapW N S) := by
  rw [gapS_eq]
  simp only [Int32.sub_eq_add_neg, Int32.neg_add]
  ac_rfl
section CLS
variable {RO : List mE} {d sb : Nat} {ext : List sh} {GG : List sh} {M : mM} {Q : mQ} {b m S t : Nat} {N : Nat → Int32}
theorem c_letterOf {i : Nat} {v : Int32} (hb : bas GG b) (hT : TrN M b N m S t) (hi : i < m) : EvR RO (d + 2) 54 [.ref b, .int (Int32.ofNat i), .int v] GG M (some (.int (letB N i v))) M := by
  obtain ⟨-, -, k3, k4⟩ := hT.2.2.2.2.2.2.2.2.1 i hi
  have hle := lettN_le (N := N) (i := i)
  have at2 := fun d => c_atM (RO := RO) (d := d) (GG := GG) (c := 2) hb hT hi (by omega)
  simp only [k3] at at2
  refine EvR.of (fun Q hQ => ?_)
  rw [letB] at hQ
  have hno : (v < 0 ∨ ¬ v < Int32.ofNat (lettN N i)) → Q (.inl (some (.int (-1)))) GG M 0 0 := fun h => by
    rw [inB_out (by omega) rfl h] at hQ
    exact hQ
  have hyes : ¬ v < 0 → v < Int32.ofNat (lettN N i) → (∀ d, EvR RO (d + 1) 31 [.ref (b + 3), .int (Int32.ofNat i), .int (3 + v)] GG M (some (.int (letB N i v))) M) ∧ Q (.inl (some (.int (letB N i v)))) GG M 0 0 := fun h0 h1 => by
    obtain ⟨j, hj, hv⟩ := nat_lt (by omega) h0 h1
    subst hv
    have hin := inB_in (x := Int32.ofNat (lettN N i)) (n := lettN N i) (by omega) rfl hj rfl
    rw [letB]
    refine ⟨fun d => ?_, hQ⟩
    have h9 := c_atM (RO := RO) (d := d) (GG := GG) (c := 3 + j) hb hT hi (by omega)
    have h8 := k4 j (by omega)
    rw [show 9 * i + 3 + j = 9 * i + (3 + j) by omega] at h8
    rw [h8, ← i_add] at h9
    rw [hin, cond_true, clamp_nn (by omega)]
    exact h9
  clear hQ
  rcases hb with ⟨rfl, sb, ext, rfl⟩ | ⟨rfl, sb, ext, rfl⟩ | ⟨rfl, c9, r9, rfl⟩
  all_goals
    refine EvP.wp [] 60 rfl ?_
    refine ⟨fun h => ?_, fun h => ?_⟩
    · exact hno (Or.inl h)
    · refine (at2 _).use ?_
      refine ⟨fun h2 => ?_, fun h2 => ?_⟩
      · obtain ⟨r1, r2⟩ := hyes h h2
        refine (r1 _).use ?_
        exact r2
      · exact hno (Or.inr h2)
theorem c_sacksIn {p : Int32} (hT : TrN M 12 N m S t) : EvR RO (d + 2) 69 [.ref 12, .int p] (gW sb ext) M (some (.int (placeN N p S))) M := by
  have hS := hT.1.2.2.2.2.1
  have hu := hT.2.2.1.2
  have at3 := fun d k (hk : k < S) => c_atS (RO := RO) (d := d) (GG := gW sb ext) (c := 3) bas_12 hT hk (by omega)
  refine EvR.of (fun Q hQ => ?_)
  refine EvP.wp [4] 40 rfl ?_
  refine up_ind (S := S) (H := fun i => GoP RO (d + 1) 69 [.ref 12, .int p, .int (placeN N p i), .int (Int32.ofNat i)] [] (gW sb ext) M 4 0 0 Q) ?_ (fun i hi ih => ?_) 0 (by omega)
  · refine wp_sound [4] 60 _ _ _ _ _ _ _ ?_
    refine lt_if rfl hu (by omega) (by omega) (fun h => absurd h (by omega)) (fun _ => ?_)
    exact hQ
  · refine wp_sound [4] 60 _ _ _ _ _ _ _ ?_
    refine lt_if rfl hu (by omega) (by omega) (fun _ => ?_) (fun h => absurd h (by omega))
    refine (at3 _ i hi).use ?_
    refine de_if (fun h1 => ?_) (fun h1 => ?_)
    · refine GoP.eq2 ih ?_ rfl
      rw [i_inc, placeN, sm, h1]; rfl
    · refine GoP.eq2 ih ?_ rfl
      rw [i_inc, placeN, sm, h1]; rfl
theorem c_miles (hT : TrN M 12 N m S t) : EvR RO (d + 2) 58 [.ref 12] (gW sb ext) M (some (.int (milesN N t))) M := by
  have ht := hT.1.2.2.2.2.2
  have hu := hT.2.2.2.2.1.2
  have at0 := fun d k (hk : k < t) => c_atT (RO := RO) (d := d) (GG := gW sb ext) (c := 0) bas_12 hT hk (by omega)
  have at1 := fun d k (hk : k < t) => c_atT (RO := RO) (d := d) (GG := gW sb ext) (c := 1) bas_12 hT hk (by omega)
  refine EvR.of (fun Q hQ => ?_)
  refine EvP.wp [4] 40 rfl ?_
  refine up_ind (S := t) (H := fun i => GoP RO (d + 1) 58 [.ref 12, .int (milesN N i), .int (Int32.ofNat i)] [] (gW sb ext) M 4 0 0 Q) ?_ (fun i hi ih => ?_) 0 (by omega)
  · refine wp_sound [4] 60 _ _ _ _ _ _ _ ?_
    refine lt_if rfl hu (by omega) (by omega) (fun h => absurd h (by omega)) (fun _ => ?_)
    exact hQ
  · refine wp_sound [4] 60 _ _ _ _ _ _ _ ?_
    refine lt_if rfl hu (by omega) (by omega) (fun _ => ?_) (fun h => absurd h (by omega))
    refine (at0 _ i hi).use ?_
    refine de_if (fun h1 => ?_) (fun h1 => ?_)
    · refine (at1 _ i hi).use ?_
      refine GoP.eq2 ih ?_ rfl
      rw [i_inc, milesN, sm, show decide (N (191 + 2 * i) = 0) = true from h1]; rfl
    · refine GoP.eq2 ih ?_ rfl
      rw [i_inc, milesN, sm, show decide (N (191 + 2 * i) = 0) = false from h1]; rfl
theorem c_tiredTogether (hT : TrN M 12 N m S t) : EvR RO (d + 2) 74 [.ref 12] (gW sb ext) M (some (.int (tiredN N m))) M := by
  have hm := hT.1.2.2.2.1
  have hu := hT.2.2.2.1.2
  have at1 : ∀ d k, k < m → EvR RO (d + 1) 31 [.ref 15, .int (Int32.ofNat k), .int (Int32.ofNat 1)] (gW sb ext) M (some (.int (N (15 + 8 * k + 1)))) M := fun d k hk => by
    obtain ⟨-, k2, -, -⟩ := hT.2.2.2.2.2.2.2.2.1 k hk
    rw [← k2]
    exact c_atM (RO := RO) (d := d) (GG := gW sb ext) (c := 1) bas_12 hT hk (by omega)
  refine EvR.of (fun Q hQ => ?_)
  refine EvP.wp [4] 40 rfl ?_
  refine up_ind (S := m) (H := fun i => GoP RO (d + 1) 74 [.ref 12, .int (tiredN N i), .int (Int32.ofNat i)] [] (gW sb ext) M 4 0 0 Q) ?_ (fun i hi ih => ?_) 0 (by omega)
  · refine wp_sound [4] 60 _ _ _ _ _ _ _ ?_
    refine lt_if rfl hu (by omega) (by omega) (fun h => absurd h (by omega)) (fun _ => ?_)
    exact hQ
  · refine wp_sound [4] 60 _ _ _ _ _ _ _ ?_
    refine lt_if rfl hu (by omega) (by omega) (fun _ => ?_) (fun h => absurd h (by omega))
    refine (at1 _ i hi).use ?_
    refine GoP.eq2 ih ?_ rfl
    rw [i_inc]; rfl
theorem c_weightOn {j : Nat} {sd : Int32} (hT : TrN M 12 N m S t) (hO : sacksOk N m S) (hj : j < 1000) : EvR RO (d + 2) 76 [.ref 12, .int (Int32.ofNat j), .int sd] (gW sb ext) M (some (.int (wOn N (Int32.ofNat j) sd S))) M := by
  have hS := hT.1.2.2.2.2.1
  have hu := hT.2.2.1.2
  have at4 := fun d k (hk : k < S) => c_atS (RO := RO) (d := d) (GG := gW sb ext) (c := 4) bas_12 hT hk (by omega)
  have at5 := fun d k (hk : k < S) => c_atS (RO := RO) (d := d) (GG := gW sb ext) (c := 5) bas_12 hT hk (by omega)
  have at1 := fun d k (hk : k < S) => c_atS (RO := RO) (d := d) (GG := gW sb ext) (c := 1) bas_12 hT hk (by omega)
  refine EvR.of (fun Q hQ => ?_)
  refine EvP.wp [5] 40 rfl ?_
  refine up_ind (S := S) (H := fun i => GoP RO (d + 1) 76 [.ref 12, .int (Int32.ofNat j), .int sd, .int (wOn N (Int32.ofNat j) sd i), .int (Int32.ofNat i)] [] (gW sb ext) M 5 0 0 Q) ?_ (fun i hi ih => ?_) 0 (by omega)
  · refine wp_sound [5] 60 _ _ _ _ _ _ _ ?_
    refine lt_if rfl hu (by omega) (by omega) (fun h => absurd h (by omega)) (fun _ => ?_)
    exact hQ
  · have hstep : ∀ w, (bif isOnB N (Int32.ofNat j) i && decide (N (63 + 8 * i + 5) = sd) then N (63 + 8 * i + 1) else 0) = w → GoP RO (d + 1) 76 [.ref 12, .int (Int32.ofNat j), .int sd, .int (wOn N (Int32.ofNat j) sd i + w), .int (Int32.ofNat i + 1)] [] (gW sb ext) M 5 0 0 Q := fun w hw => by
      subst hw
      rw [i_inc]
      exact ih
    refine wp_sound [5] 60 _ _ _ _ _ _ _ ?_
    refine lt_if rfl hu (by omega) (by omega) (fun _ => ?_) (fun h => absurd h (by omega))
    refine (at4 _ i hi).use ?_
    refine de_if (fun h1 => ?_) (fun h1 => ?_)
    · rw [on_eq (hO i hi) (by omega)] at h1
      refine (at5 _ i hi).use ?_
      refine de_if (fun h2 => ?_) (fun h2 => ?_)
      · refine (at1 _ i hi).use ?_
        refine hstep _ ?_
        rw [h1, h2]; rfl
      · have h9 := hstep 0 (by rw [h1, h2]; rfl)
        rw [Int32.add_zero] at h9
        exact h9
    · rw [on_eq (hO i hi) (by omega)] at h1
      have h9 := hstep 0 (by rw [h1]; rfl)
      rw [Int32.add_zero] at h9
      exact h9
theorem c_worthGap (hT : TrN M 12 N m S t) (hP : placesOk N S) : EvR RO (d + 2) 78 [.ref 12] (gW sb ext) M (some (.int (wgN N S))) M := by
  have hS := hT.1.2.2.2.2.1
  have hu := hT.2.2.1.2
  have at3 := fun d k (hk : k < S) => c_atS (RO := RO) (d := d) (GG := gW sb ext) (c := 3) bas_12 hT hk (by omega)
  have at7 := fun d k (hk : k < S) => c_atS (RO := RO) (d := d) (GG := gW sb ext) (c := 7) bas_12 hT hk (by omega)
  have at2 := fun d k (hk : k < S) => c_atS (RO := RO) (d := d) (GG := gW sb ext) (c := 2) bas_12 hT hk (by omega)
  have g1 : M 20 1 = N 9 := hT.2.2.2.2.2.2.1 1 (by omega)
  have g2 : M 20 2 = N 10 := hT.2.2.2.2.2.2.1 2 (by omega)
  have g3 : M 20 3 = N 11 := hT.2.2.2.2.2.2.1 3 (by omega)
  have g4 : M 20 4 = N 12 := hT.2.2.2.2.2.2.1 4 (by omega)
  refine EvR.of (fun Q hQ => ?_)
  have loop := up_ind (S := S) (H := fun i => ∀ v : Value, GoP RO (d + 1) 78 [.ref 12, .int (N 9 + N 10 + N 11 + N 12 + gapW N i), .int (gapT N i), .int (Int32.ofNat i), v] [] (gW sb ext) M 32 0 0 Q) (fun v => ?_) (fun i hi ih v => ?_) 0 (by omega)
  · have l0 := loop (.retAddr 0)
    rw [show gapW N 0 = 0 from rfl, Int32.add_zero, ← g1, ← g2, ← g3, ← g4] at l0
    refine EvP.wp [32] 40 rfl ?_
    refine ⟨1, rfl, by omega, ?_⟩
    refine ⟨2, rfl, by omega, ?_⟩
    refine ⟨3, rfl, by omega, ?_⟩
    refine ⟨4, rfl, by omega, ?_⟩
    exact l0
  · rw [wgN, ← abs_eq] at hQ
    refine wp_sound [32] 60 _ _ _ _ _ _ _ ?_
    refine lt_if rfl hu (by omega) (by omega) (fun h => absurd h (by omega)) (fun _ => ?_)
    exact hQ
  · obtain ⟨p, hp1, hp2, -⟩ := hP i hi
    have hstep : ∀ w, (bif decide (1 < N (63 + 8 * i + 3)) then 0 else N (63 + 8 * i + 2)) = w → GoP RO (d + 1) 78 [.ref 12, .int (N 9 + N 10 + N 11 + N 12 + gapW N i + w), .int (gapT N i + N (63 + 8 * i + 7)), .int (Int32.ofNat i + 1), .int (N (63 + 8 * i + 3))] [] (gW sb ext) M 32 0 0 Q := fun w hw => by
      subst hw
      rw [i_inc, Int32.add_assoc (N 9 + N 10 + N 11 + N 12)]
      exact ih _
    have h1lt : decide (1 < N (63 + 8 * i + 3)) = decide (1 < p) := by
      rw [hp2]
      refine decide_eq_decide.mpr ?_
      rw [show (1 : Int32) = Int32.ofNat 1 from rfl, i_lt (by omega) (by omega)]
    refine wp_sound [32] 60 _ _ _ _ _ _ _ ?_
    refine lt_if rfl hu (by omega) (by omega) (fun _ => ?_) (fun h => absurd h (by omega))
    refine (at3 _ i hi).use ?_
    refine (at7 _ i hi).use ?_
    refine eq_if (a := p) (b := 0) hp2 rfl (by omega) (by omega) (fun h2 => ?_) (fun h2 => ?_)
    · refine (at2 _ i hi).use ?_
      refine hstep _ ?_
      rw [h1lt, decide_eq_false (by omega)]; rfl
    · refine eq_if (a := p) (b := 1) hp2 rfl (by omega) (by omega) (fun h3 => ?_) (fun h3 => ?_)
      · refine (at2 _ i hi).use ?_
        refine hstep _ ?_
        rw [h1lt, decide_eq_false (by omega)]; rfl
      · refine hstep _ ?_
        rw [h1lt, decide_eq_true (by omega)]; rfl
theorem c_moneyGap (hT : TrN M 12 N m S t) : EvR RO (d + 1) 59 [.ref 12] (gW sb ext) M (some (.int (absB (N 7 - N 9 + N 13)))) M := by
  have g1 : M 20 1 = N 9 := hT.2.2.2.2.2.2.1 1 (by omega)
  have g5 : M 20 5 = N 13 := hT.2.2.2.2.2.2.1 5 (by omega)
  have gm : M 12 6 = N 7 := hT.2.1.2
  refine EvP.wp [] 60 rfl ?_
  refine ⟨1, rfl, by omega, ?_⟩
  refine ⟨5, rfl, by omega, ?_⟩
  refine ⟨?_, rfl, rfl, rfl, rfl⟩
  rw [show N 7 - N 9 + N 13 = M 12 6 - (M 20 1 - M 20 5) by
    rw [g1, g5, gm]
    simp only [Int32.sub_eq_add_neg, Int32.neg_add, Int32.neg_neg]
    ac_rfl, ← abs_eq]
theorem over_eq {a c : Nat} (ha : a < 1000000) (hc : c < 1000000) : (if 0 < Int32.ofNat a - Int32.ofNat c then Int32.ofNat a - Int32.ofNat c else 0) = bif decide (Int32.ofNat c < Int32.ofNat a) then Int32.ofNat a - Int32.ofNat c else 0 := by
  by_cases h : c < a
  · rw [if_pos ((i_subpos ha hc).mpr h), decide_eq_true ((i_lt hc ha).mpr h)]; rfl
  · rw [if_neg (fun h2 => h ((i_subpos ha hc).mp h2)), decide_eq_false (fun h2 => h ((i_lt hc ha).mp h2))]; rfl
theorem c_overload (hT : TrN M 12 N m S t) (hO : sacksOk N m S) (hW : weightOk N S) (hok : ∀ i, i < m → muleOk N i) : EvR RO (d + 3) 63 [.ref 12] (gW sb ext) M (some (.int (overN N S m))) M := by
  have hm := hT.1.2.2.2.1
  have hS := hT.1.2.2.2.2.1
  have hu := hT.2.2.2.1.2
  have hl := fun d k (hk : k < m) => c_loadOn (RO := RO) (d := d) (GG := gW sb ext) (j := k) bas_12 hT hO (by omega)
  have hbe := fun d k (hk : k < m) => c_bearing (RO := RO) (d := d) (GG := gW sb ext) (i := k) bas_12 hT hk
  refine EvR.of (fun Q hQ => ?_)
  refine EvP.wp [4] 40 rfl ?_
  refine up_ind (S := m) (H := fun i => GoP RO (d + 2) 63 [.ref 12, .int (overN N S i), .int (Int32.ofNat i)] [] (gW sb ext) M 4 0 0 Q) ?_ (fun i hi ih => ?_) 0 (by omega)
  · refine wp_sound [4] 60 _ _ _ _ _ _ _ ?_
    refine lt_if rfl hu (by omega) (by omega) (fun h => absurd h (by omega)) (fun _ => ?_)
    exact hQ
  · obtain ⟨a, a1, a2⟩ := load_val (mm := Int32.ofNat i) hW
    obtain ⟨c, b1, b2⟩ := bear_ok (hok i hi)
    refine wp_sound [4] 60 _ _ _ _ _ _ _ ?_
    refine lt_if rfl hu (by omega) (by omega) (fun _ => ?_) (fun h => absurd h (by omega))
    refine (hl _ i hi).use ?_
    refine (hbe _ i hi).use ?_
    refine GoP.eq2 ih ?_ rfl
    have h9 := over_eq (a := a) (c := c) (by omega) (by omega)
    rw [← a1, ← b1] at h9
    rw [i_inc, show overN N S (i + 1) = overN N S i + (bif decide (bearN N i < loadN N (Int32.ofNat i) S) then loadN N (Int32.ofNat i) S - bearN N i else 0) from rfl, ← h9]
end CLS
