/-! sums over the sacks: the class's way and the reference's -/
def sackOk (N : Nat → Int32) (m k : Nat) : Prop := (N (63 + 8 * k + 3) = 1 ∧ (∃ j, j < m ∧ N (63 + 8 * k + 4) = Int32.ofNat j) ∧ (N (63 + 8 * k + 5) = 0 ∨ N (63 + 8 * k + 5) = 1)) ∨ (¬ N (63 + 8 * k + 3) = 1 ∧ N (63 + 8 * k + 4) = -1 ∧ N (63 + 8 * k + 5) = -1)
def sacksOk (N : Nat → Int32) (m S : Nat) : Prop := ∀ k, k < S → sackOk N m k
theorem on_eq {N : Nat → Int32} {m k j : Nat} (h : sackOk N m k) (hj : j < 1000000) : decide (N (63 + 8 * k + 4) = Int32.ofNat j) = isOnB N (Int32.ofNat j) k := by
  rw [isOnB]
  rcases h with ⟨h1, _, _⟩ | ⟨h1, h2, _⟩
  · rw [decide_eq_true h1, Bool.true_and]
  · rw [decide_eq_false h1, Bool.false_and, h2]
    exact decide_eq_false (fun e => i_ne_m1 hj e.symm)
theorem side_of {N : Nat → Int32} {m k : Nat} {mm : Int32} (h : sackOk N m k) (ho : isOnB N mm k = true) : N (63 + 8 * k + 5) = 0 ∨ N (63 + 8 * k + 5) = 1 := by
  rw [isOnB, Bool.and_eq_true] at ho
  rcases h with ⟨_, _, h3⟩ | ⟨h1, _, _⟩
  · exact h3
  · exact absurd (of_decide_eq_true ho.1) h1
theorem sm_add {f g : Nat → Int32} : ∀ n, sm f n + sm g n = sm (fun i => f i + g i) n := by
  intro n
  induction n with
  | zero => rfl
  | succ n ih =>
    rw [sm, sm, sm, ← ih, Int32.add_assoc, Int32.add_assoc]
    congr 1
    rw [← Int32.add_assoc, ← Int32.add_assoc, Int32.add_comm (f n)]
theorem sm_neg {f : Nat → Int32} : ∀ n, - sm f n = sm (fun i => - f i) n := by
  intro n
  induction n with
  | zero => exact (by decide : -(0 : Int32) = 0)
  | succ n ih => rw [sm, sm, ← ih, Int32.neg_add, Int32.sub_eq_add_neg]
theorem load_sm {N : Nat → Int32} {m S : Nat} {mm : Int32} (h : sacksOk N m S) : ∀ n, n ≤ S → loadN N mm n = sm (fun k => bif isOnB N mm k then N (63 + 8 * k + 1) else 0) n := by
  intro n hn
  rw [loadN, wOn, wOn, sm_add]
  refine sm_congr (fun k hk => ?_)
  cases ho : isOnB N mm k with
  | false => rfl
  | true =>
    rcases side_of (h k (by omega)) ho with e | e
    · rw [e]; exact Int32.add_zero _
    · rw [e]; exact Int32.zero_add _
theorem left_sm {N : Nat → Int32} {m S : Nat} {mm : Int32} (h : sacksOk N m S) : ∀ n, n ≤ S → wOn N mm 0 n - wOn N mm 1 n = sm (fun k => bif isOnB N mm k then (bif decide (N (63 + 8 * k + 5) = 0) then N (63 + 8 * k + 1) else - N (63 + 8 * k + 1)) else 0) n := by
  intro n hn
  rw [Int32.sub_eq_add_neg, wOn, wOn, sm_neg, sm_add]
  refine sm_congr (fun k hk => ?_)
  cases ho : isOnB N mm k with
  | false => exact (by decide : (0 : Int32) + -0 = 0)
  | true =>
    rcases side_of (h k (by omega)) ho with e | e
    · rw [e]
      show N (63 + 8 * k + 1) + -0 = N (63 + 8 * k + 1)
      rw [show (-0 : Int32) = 0 from by decide, Int32.add_zero]
    · rw [e]; exact Int32.zero_add _
section CLS
variable {RO : List mE} {d sb : Nat} {ext : List sh} {M : mM} {Q : mQ} {b m S t : Nat} {N : Nat → Int32} {GG : List sh}
theorem c_bearing {i : Nat} (hb : bas GG b) (hT : TrN M b N m S t) (hi : i < m) : EvR RO (d + 2) 39 [.ref b, .int (Int32.ofNat i)] GG M (some (.int (bearN N i))) M := by
  obtain ⟨k1, k2, -, -⟩ := hT.2.2.2.2.2.2.2.2.1 i hi
  have h0 := fun d => c_atM (RO := RO) (d := d) (GG := GG) (c := 0) hb hT hi (by omega)
  have h1 := fun d => c_atM (RO := RO) (d := d) (GG := GG) (c := 1) hb hT hi (by omega)
  simp only [Nat.add_zero, k1] at h0
  simp only [k2] at h1
  rcases hb with ⟨rfl, sb, ext, rfl⟩ | ⟨rfl, sb, ext, rfl⟩ | ⟨rfl, c9, r9, rfl⟩
  all_goals
    refine EvP.wp [] 40 rfl ?_
    refine (h0 _).use ?_
    refine (h1 _).use ?_
    refine ⟨by decide, ?_⟩
    exact ⟨rfl, rfl, rfl, rfl, rfl⟩
theorem c_fordLimit {i : Nat} {depth : Int32} (hb : bas GG b) (hT : TrN M b N m S t) (hi : i < m) : EvR RO (d + 3) 47 [.ref b, .int (Int32.ofNat i), .int depth] GG M (some (.int (fordL N i depth))) M := by
  have h0 := fun d => c_bearing (RO := RO) (d := d) (GG := GG) hb hT hi
  rcases hb with ⟨rfl, sb, ext, rfl⟩ | ⟨rfl, sb, ext, rfl⟩ | ⟨rfl, c9, r9, rfl⟩
  all_goals
    refine EvP.wp [] 40 rfl ?_
    refine (h0 _).use ?_
    refine ⟨by decide, ?_⟩
    exact ⟨rfl, rfl, rfl, rfl, rfl⟩
theorem c_loadOn {j : Nat} (hb : bas GG b) (hT : TrN M b N m S t) (hO : sacksOk N m S) (hj : j < 1000) : EvR RO (d + 2) 56 [.ref b, .int (Int32.ofNat j)] GG M (some (.int (loadN N (Int32.ofNat j) S))) M := by
  have hS := hT.1.2.2.2.2.1
  have hu := hT.2.2.1.2
  rw [load_sm hO S (Nat.le_refl _)]
  have at4 := fun d k (hk : k < S) => c_atS (RO := RO) (d := d) (GG := GG) (c := 4) hb hT hk (by omega)
  have at1 := fun d k (hk : k < S) => c_atS (RO := RO) (d := d) (GG := GG) (c := 1) hb hT hk (by omega)
  refine EvR.of (fun Q hQ => ?_)
  rcases hb with ⟨rfl, sb, ext, rfl⟩ | ⟨rfl, sb, ext, rfl⟩ | ⟨rfl, c9, r9, rfl⟩
  all_goals
    refine EvP.wp [4] 40 rfl ?_
    refine up_ind (S := S) (H := fun i => GoP RO (d + 1) 56 [.ref _, .int (Int32.ofNat j), .int (sm (fun k => bif isOnB N (Int32.ofNat j) k then N (63 + 8 * k + 1) else 0) i), .int (Int32.ofNat i)] [] _ M 4 0 0 Q) ?_ (fun i hi ih => ?_) 0 (by omega)
    · refine wp_sound [4] 60 _ _ _ _ _ _ _ ?_
      refine lt_if rfl hu (by omega) (by omega) (fun h => absurd h (by omega)) (fun _ => ?_)
      exact hQ
    · refine wp_sound [4] 60 _ _ _ _ _ _ _ ?_
      refine lt_if rfl hu (by omega) (by omega) (fun _ => ?_) (fun h => absurd h (by omega))
      refine (at4 _ i hi).use ?_
      refine de_if (fun h1 => ?_) (fun h1 => ?_)
      · rw [on_eq (hO i hi) (by omega)] at h1
        refine (at1 _ i hi).use ?_
        refine GoP.eq2 ih ?_ rfl
        rw [i_inc, sm, h1]; rfl
      · rw [on_eq (hO i hi) (by omega)] at h1
        refine GoP.eq2 ih ?_ rfl
        rw [i_inc, sm, h1]; rfl
theorem c_worthOn {j : Nat} (hb : bas GG b) (hT : TrN M b N m S t) (hO : sacksOk N m S) (hj : j < 1000) : EvR RO (d + 2) 79 [.ref b, .int (Int32.ofNat j)] GG M (some (.int (vOn N (Int32.ofNat j) S))) M := by
  have hS := hT.1.2.2.2.2.1
  have hu := hT.2.2.1.2
  have at4 := fun d k (hk : k < S) => c_atS (RO := RO) (d := d) (GG := GG) (c := 4) hb hT hk (by omega)
  have at2 := fun d k (hk : k < S) => c_atS (RO := RO) (d := d) (GG := GG) (c := 2) hb hT hk (by omega)
  refine EvR.of (fun Q hQ => ?_)
  rcases hb with ⟨rfl, sb, ext, rfl⟩ | ⟨rfl, sb, ext, rfl⟩ | ⟨rfl, c9, r9, rfl⟩
  all_goals
    refine EvP.wp [4] 40 rfl ?_
    refine up_ind (S := S) (H := fun i => GoP RO (d + 1) 79 [.ref _, .int (Int32.ofNat j), .int (vOn N (Int32.ofNat j) i), .int (Int32.ofNat i)] [] _ M 4 0 0 Q) ?_ (fun i hi ih => ?_) 0 (by omega)
    · refine wp_sound [4] 60 _ _ _ _ _ _ _ ?_
      refine lt_if rfl hu (by omega) (by omega) (fun h => absurd h (by omega)) (fun _ => ?_)
      exact hQ
    · refine wp_sound [4] 60 _ _ _ _ _ _ _ ?_
      refine lt_if rfl hu (by omega) (by omega) (fun _ => ?_) (fun h => absurd h (by omega))
      refine (at4 _ i hi).use ?_
      refine de_if (fun h1 => ?_) (fun h1 => ?_)
      · rw [on_eq (hO i hi) (by omega)] at h1
        refine (at2 _ i hi).use ?_
        refine GoP.eq2 ih ?_ rfl
        rw [i_inc, vOn, sm, h1]; rfl
      · rw [on_eq (hO i hi) (by omega)] at h1
        refine GoP.eq2 ih ?_ rfl
        rw [i_inc, vOn, sm, h1]; rfl
theorem c_sacksOn {j : Nat} (hb : bas GG b) (hT : TrN M b N m S t) (hO : sacksOk N m S) (hj : j < 1000) : EvR RO (d + 2) 70 [.ref b, .int (Int32.ofNat j)] GG M (some (.int (sOn N (Int32.ofNat j) S))) M := by
  have hS := hT.1.2.2.2.2.1
  have hu := hT.2.2.1.2
  have at4 := fun d k (hk : k < S) => c_atS (RO := RO) (d := d) (GG := GG) (c := 4) hb hT hk (by omega)
  refine EvR.of (fun Q hQ => ?_)
  rcases hb with ⟨rfl, sb, ext, rfl⟩ | ⟨rfl, sb, ext, rfl⟩ | ⟨rfl, c9, r9, rfl⟩
  all_goals
    refine EvP.wp [4] 40 rfl ?_
    refine up_ind (S := S) (H := fun i => GoP RO (d + 1) 70 [.ref _, .int (Int32.ofNat j), .int (sOn N (Int32.ofNat j) i), .int (Int32.ofNat i)] [] _ M 4 0 0 Q) ?_ (fun i hi ih => ?_) 0 (by omega)
    · refine wp_sound [4] 60 _ _ _ _ _ _ _ ?_
      refine lt_if rfl hu (by omega) (by omega) (fun h => absurd h (by omega)) (fun _ => ?_)
      exact hQ
    · refine wp_sound [4] 60 _ _ _ _ _ _ _ ?_
      refine lt_if rfl hu (by omega) (by omega) (fun _ => ?_) (fun h => absurd h (by omega))
      refine (at4 _ i hi).use ?_
      refine de_if (fun h1 => ?_) (fun h1 => ?_)
      · rw [on_eq (hO i hi) (by omega)] at h1
        refine GoP.eq2 ih ?_ rfl
        rw [i_inc, sOn, sm, h1]; rfl
      · rw [on_eq (hO i hi) (by omega)] at h1
        refine GoP.eq2 ih ?_ rfl
        rw [i_inc, sOn, sm, h1]; rfl
theorem c_leftward {j : Nat} (hb : bas GG b) (hT : TrN M b N m S t) (hO : sacksOk N m S) (hj : j < 1000) : EvR RO (d + 2) 53 [.ref b, .int (Int32.ofNat j)] GG M (some (.int (wOn N (Int32.ofNat j) 0 S - wOn N (Int32.ofNat j) 1 S))) M := by
  have hS := hT.1.2.2.2.2.1
  have hu := hT.2.2.1.2
  rw [left_sm hO S (Nat.le_refl _)]
  have at4 := fun d k (hk : k < S) => c_atS (RO := RO) (d := d) (GG := GG) (c := 4) hb hT hk (by omega)
  have at5 := fun d k (hk : k < S) => c_atS (RO := RO) (d := d) (GG := GG) (c := 5) hb hT hk (by omega)
  have at1 := fun d k (hk : k < S) => c_atS (RO := RO) (d := d) (GG := GG) (c := 1) hb hT hk (by omega)
  refine EvR.of (fun Q hQ => ?_)
  rcases hb with ⟨rfl, sb, ext, rfl⟩ | ⟨rfl, sb, ext, rfl⟩ | ⟨rfl, c9, r9, rfl⟩
  all_goals
    refine EvP.wp [4] 40 rfl ?_
    refine up_ind (S := S) (H := fun i => GoP RO (d + 1) 53 [.ref _, .int (Int32.ofNat j), .int (sm (fun k => bif isOnB N (Int32.ofNat j) k then (bif decide (N (63 + 8 * k + 5) = 0) then N (63 + 8 * k + 1) else - N (63 + 8 * k + 1)) else 0) i), .int (Int32.ofNat i)] [] _ M 4 0 0 Q) ?_ (fun i hi ih => ?_) 0 (by omega)
    · refine wp_sound [4] 60 _ _ _ _ _ _ _ ?_
      refine lt_if rfl hu (by omega) (by omega) (fun h => absurd h (by omega)) (fun _ => ?_)
      exact hQ
    · refine wp_sound [4] 60 _ _ _ _ _ _ _ ?_
      refine lt_if rfl hu (by omega) (by omega) (fun _ => ?_) (fun h => absurd h (by omega))
      refine (at4 _ i hi).use ?_
      refine de_if (fun h1 => ?_) (fun h1 => ?_)
      · rw [on_eq (hO i hi) (by omega)] at h1
        refine (at5 _ i hi).use ?_
        refine de_if (fun h2 => ?_) (fun h2 => ?_)
        · refine (at1 _ i hi).use ?_
          refine GoP.eq2 ih ?_ rfl
          rw [i_inc, sm, h1, h2]; rfl
        · refine (at1 _ i hi).use ?_
          refine GoP.eq2 ih ?_ rfl
          rw [i_inc, sm, h1, h2]; rfl
      · rw [on_eq (hO i hi) (by omega)] at h1
        refine GoP.eq2 ih ?_ rfl
        rw [i_inc, sm, h1, cond_false, Int32.add_zero]
theorem c_leastOn {j : Nat} (hb : bas GG b) (hT : TrN M b N m S t) (hO : sacksOk N m S) (hj : j < 1000) : EvR RO (d + 2) 52 [.ref b, .int (Int32.ofNat j)] GG M (some (.int (enc (poorI N (Int32.ofNat j) S)))) M := by
  have hS := hT.1.2.2.2.2.1
  have hu := hT.2.2.1.2
  have at4 := fun d k (hk : k < S) => c_atS (RO := RO) (d := d) (GG := GG) (c := 4) hb hT hk (by omega)
  have at2 := fun d k (hk : k < S) => c_atS (RO := RO) (d := d) (GG := GG) (c := 2) hb hT hk (by omega)
  refine EvR.of (fun Q hQ => ?_)
  rcases hb with ⟨rfl, sb, ext, rfl⟩ | ⟨rfl, sb, ext, rfl⟩ | ⟨rfl, c9, r9, rfl⟩
  all_goals
    refine EvP.wp [4] 40 rfl ?_
    refine up_ind (S := S) (H := fun i => ∀ v : Value, GoP RO (d + 1) 52 [.ref _, .int (Int32.ofNat j), .int (enc (poorI N (Int32.ofNat j) i)), .int (Int32.ofNat i), v] [] _ M 4 0 0 Q) (fun v => ?_) (fun i hi ih v => ?_) 0 (by omega) _
    · refine wp_sound [4] 60 _ _ _ _ _ _ _ ?_
      refine lt_if rfl hu (by omega) (by omega) (fun h => absurd h (by omega)) (fun _ => ?_)
      exact hQ
    · refine wp_sound [4] 60 _ _ _ _ _ _ _ ?_
      refine lt_if rfl hu (by omega) (by omega) (fun _ => ?_) (fun h => absurd h (by omega))
      refine (at4 _ i hi).use ?_
      refine de_if (fun h1 => ?_) (fun h1 => ?_)
      · rw [on_eq (hO i hi) (by omega)] at h1
        refine ⟨fun h => absurd h (by decide), fun _ => ?_⟩
        cases hp : poorI N (Int32.ofNat j) i with
        | none =>
          refine ⟨fun _ => ?_, fun h => absurd rfl h⟩
          refine GoP.eq2 (ih (.int 1)) ?_ rfl
          rw [i_inc, show poorI N (Int32.ofNat j) (i + 1) = some i from pick_new hp h1]
          rfl
        | some c =>
          have hc : c < i := (pick_lt hp).1
          refine ⟨fun h => absurd h (i_ne_m1 (by omega)), fun _ => ?_⟩
          refine (at2 _ i hi).use ?_
          refine (at2 _ c (by omega)).use ?_
          have hstep : poorI N (Int32.ofNat j) (i + 1) = (bif decide (N (63 + 8 * i + 2) < N (63 + 8 * c + 2)) then some i else some c) := pick_old hp h1
          refine de_if (fun h2 => ?_) (fun h2 => ?_)
          · refine GoP.eq2 (ih (.int 1)) ?_ rfl
            rw [i_inc, hstep, h2]; rfl
          · refine GoP.eq2 (ih (.int 1)) ?_ rfl
            rw [i_inc, hstep, h2]; rfl
      · rw [on_eq (hO i hi) (by omega)] at h1
        refine ⟨fun _ => ?_, fun h => absurd rfl h⟩
        refine GoP.eq2 (ih (.int 0)) ?_ rfl
        rw [i_inc, show poorI N (Int32.ofNat j) (i + 1) = poorI N (Int32.ofNat j) i from pick_off h1]
end CLS
