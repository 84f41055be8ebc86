/-! further questions to the class -/
def u_whyNot (N : Nat → Int32) (S : Nat) (v w : Int32) : Int32 × Int32 := bif inB v 0 (N 4 - 1) && inB w 0 (N 3 - 1) then (0, prN N v.toNatClampNeg w.toNatClampNeg S) else (1, 0)
def u_whyNoTrip (N : Nat → Int32) (m S : Nat) (v : Int32) : Int32 × Int32 := bif inB v 0 1 then (if v = 0 then (0, whyN N m S) else (0, bif decide (whyN N m S = 2) then enc (tiltedI N S m) else -1)) else (1, 0)
def u_bestSack (N : Nat → Int32) (S : Nat) (v : Int32) : Int32 × Int32 := bif inB v 0 (N 3 - 1) then (0, enc (bestI N v.toNatClampNeg S S)) else (1, 0)
def u_lighter (N : Nat → Int32) (S : Nat) (v : Int32) : Int32 × Int32 := bif inB v 0 (N 3 - 1) then (0, lightN N v S) else (1, 0)
def u_freshIn (N : Nat → Int32) (v : Int32) : Int32 × Int32 := bif inB v 0 (N 3 - 1) then (0, freshN N v.toNatClampNeg) else (1, 0)
def u_deepest (N : Nat → Int32) (S : Nat) (v : Int32) : Int32 × Int32 := bif inB v 0 (N 3 - 1) then (0, Int32.ofNat (deepN N v.toNatClampNeg S 9)) else (1, 0)
theorem ease_val {N : Nat → Int32} {m S t : Nat} (h : invN N m S t) : ∃ e, N 1 = Int32.ofNat e ∧ e ≤ 50 := h.2.2.2
theorem inv_mule {N : Nat → Int32} {m S t i : Nat} (h : invN N m S t) (hi : i < m) : muleOk N i := h.1.2.2.2.2.2.2.1 i hi
section QRY
variable {RO : List mE} {d sb : Nat} {ext : List sh} {M : mM} {Q : mQ} {m S t : Nat} {N : Nat → Int32}
theorem q_whyNot {v w : Int32} (hT : TrN M 12 N m S t) (hO : sacksOk N m S) (hQ : qP Q (gW sb ext) M (u_whyNot N S v w)) : EvP RO (d + 7) 128 [.ref 0, .int v, .int w] (gW sb ext) M Q := by
  have hS := hT.1.2.2.2.2.1
  have hm := hT.1.2.2.2.1
  have e4 := hT.1.2.1
  have e3 := hT.1.1
  have hu := hT.2.2.1.2
  have hum := hT.2.2.2.1.2
  rw [u_whyNot] at hQ
  refine EvP.wp [] 60 rfl ?_
  refine EvP.wp [] 60 rfl ?_
  refine ⟨fun h0 => ?_, fun h0 => ?_⟩
  · rw [inB_out (by omega) e4 (Or.inl h0)] at hQ
    exact qP_no hQ (by decide) (by decide)
  refine ⟨fun h1 => ?_, fun h1 => ?_⟩
  rotate_left
  · rw [hu] at h1
    rw [inB_out (by omega) e4 (Or.inr h1)] at hQ
    exact qP_no hQ (by decide) (by decide)
  rw [hu] at h1
  obtain ⟨i, hi, rfl⟩ := nat_lt (by omega) h0 h1
  rw [inB_in (by omega) e4 hi rfl, Bool.true_and, clamp_nn (by omega)] at hQ
  refine EvP.wp [] 60 rfl ?_
  refine ⟨fun h2 => ?_, fun h2 => ?_⟩
  · rw [inB_out (by omega) e3 (Or.inl h2)] at hQ
    exact qP_no hQ (by decide) (by decide)
  refine ⟨fun h3 => ?_, fun h3 => ?_⟩
  rotate_left
  · rw [hum] at h3
    rw [inB_out (by omega) e3 (Or.inr h3)] at hQ
    exact qP_no hQ (by decide) (by decide)
  rw [hum] at h3
  obtain ⟨j, hj, rfl⟩ := nat_lt (by omega) h2 h3
  rw [inB_in (by omega) e3 hj rfl, cond_true, clamp_nn (by omega)] at hQ
  refine (c_reason bas_12 hT hO hi hj).use ?_
  exact qP_yes hQ
theorem q_whyNoTrip {v : Int32} (hT : TrN M 12 N m S t) (hO : sacksOk N m S) (hQ : qP Q (gW sb ext) M (u_whyNoTrip N m S v)) : EvP RO (d + 7) 127 [.ref 0, .int v] (gW sb ext) M Q := by
  have hr := fun d => c_reasonNotToGo (RO := RO) (d := d) (GG := gW sb ext) bas_12 hT hO
  have hf := fun d => c_firstUnlevel (RO := RO) (d := d) (GG := gW sb ext) bas_12 hT hO
  rw [u_whyNoTrip] at hQ
  refine EvP.wp [] 60 rfl ?_
  refine ⟨fun h0 => ?_, fun h0 => ?_⟩
  · rw [show inB v 0 1 = false from inB_off (n := 1) (by omega) (Or.inl h0)] at hQ
    exact qP_no hQ (by decide) (by decide)
  refine ⟨fun h1 => ?_, fun h1 => ?_⟩
  · rw [show inB v 0 1 = false by rw [inB, decide_eq_false (p := ¬ 1 < v) (fun h => h h1), Bool.and_false]] at hQ
    exact qP_no hQ (by decide) (by decide)
  rw [show inB v 0 1 = true by rw [inB, decide_eq_true h0, decide_eq_true h1]; rfl, cond_true] at hQ
  refine (hr _).use ?_
  refine ⟨fun h2 => ?_, fun h2 => ?_⟩
  · rw [if_pos h2] at hQ
    exact qP_yes hQ
  rw [if_neg h2] at hQ
  refine de_if (fun h3 => ?_) (fun h3 => ?_)
  · rw [show decide (whyN N m S = 2) = true from h3] at hQ
    refine (hf _).use ?_
    exact qP_yes hQ
  · rw [show decide (whyN N m S = 2) = false from h3] at hQ
    exact qP_yes hQ
theorem q_bestSack {v : Int32} (hT : TrN M 12 N m S t) (hO : sacksOk N m S) (hQ : qP Q (gW sb ext) M (u_bestSack N S v)) : EvP RO (d + 7) 82 [.ref 0, .int v] (gW sb ext) M Q := by
  have hm := hT.1.2.2.2.1
  have e3 := hT.1.1
  have hu := hT.2.2.2.1.2
  rw [u_bestSack] at hQ
  refine EvP.wp [] 60 rfl ?_
  refine EvP.wp [] 60 rfl ?_
  refine ⟨fun h0 => ?_, fun h0 => ?_⟩
  · rw [inB_out (by omega) e3 (Or.inl h0)] at hQ
    exact qP_no hQ (by decide) (by decide)
  refine ⟨fun h1 => ?_, fun h1 => ?_⟩
  rotate_left
  · rw [hu] at h1
    rw [inB_out (by omega) e3 (Or.inr h1)] at hQ
    exact qP_no hQ (by decide) (by decide)
  rw [hu] at h1
  obtain ⟨i, hi, rfl⟩ := nat_lt (by omega) h0 h1
  rw [inB_in (by omega) e3 hi rfl, cond_true, clamp_nn (by omega)] at hQ
  refine (c_bestFor bas_12 hT hO hi).use ?_
  exact qP_yes hQ
theorem q_lighter {v : Int32} (hT : TrN M 12 N m S t) (hO : sacksOk N m S) (hW : weightOk N S) (hQ : qP Q (gW sb ext) M (u_lighter N S v)) : EvP RO (d + 7) 96 [.ref 0, .int v] (gW sb ext) M Q := by
  have hm := hT.1.2.2.2.1
  have e3 := hT.1.1
  have hu := hT.2.2.2.1.2
  rw [u_lighter] at hQ
  refine EvP.wp [] 60 rfl ?_
  refine EvP.wp [] 60 rfl ?_
  refine ⟨fun h0 => ?_, fun h0 => ?_⟩
  · rw [inB_out (by omega) e3 (Or.inl h0)] at hQ
    exact qP_no hQ (by decide) (by decide)
  refine ⟨fun h1 => ?_, fun h1 => ?_⟩
  rotate_left
  · rw [hu] at h1
    rw [inB_out (by omega) e3 (Or.inr h1)] at hQ
    exact qP_no hQ (by decide) (by decide)
  rw [hu] at h1
  obtain ⟨i, hi, rfl⟩ := nat_lt (by omega) h0 h1
  rw [inB_in (by omega) e3 hi rfl, cond_true] at hQ
  refine (c_lighterSide bas_12 hT hO hW (by omega)).use ?_
  exact qP_yes hQ
theorem q_freshIn {v : Int32} (hT : TrN M 12 N m S t) (hI : invN N m S t) (hQ : qP Q (gW sb ext) M (u_freshIn N v)) : EvP RO (d + 7) 93 [.ref 0, .int v] (gW sb ext) M Q := by
  have hm := hT.1.2.2.2.1
  have e3 := hT.1.1
  have hu := hT.2.2.2.1.2
  obtain ⟨e, ee1, ee2⟩ := ease_val hI
  rw [u_freshIn] at hQ
  refine EvP.wp [] 60 rfl ?_
  refine EvP.wp [] 60 rfl ?_
  refine ⟨fun h0 => ?_, fun h0 => ?_⟩
  · rw [inB_out (by omega) e3 (Or.inl h0)] at hQ
    exact qP_no hQ (by decide) (by decide)
  refine ⟨fun h1 => ?_, fun h1 => ?_⟩
  rotate_left
  · rw [hu] at h1
    rw [inB_out (by omega) e3 (Or.inr h1)] at hQ
    exact qP_no hQ (by decide) (by decide)
  rw [hu] at h1
  obtain ⟨i, hi, rfl⟩ := nat_lt (by omega) h0 h1
  obtain ⟨s, a, a1, a2, a3, a4, a5⟩ := inv_mule hI hi
  rw [inB_in (by omega) e3 hi rfl, cond_true, clamp_nn (by omega), freshN] at hQ
  obtain ⟨-, k1, -, -⟩ := hT.2.2.2.2.2.2.2.2.1 i hi
  have at1 := fun d => c_atM (RO := RO) (d := d) (GG := gW sb ext) (c := 1) bas_12 hT hi (by omega)
  simp only [k1] at at1
  have g1 : M 19 1 = N 1 := hT.2.2.2.2.2.1 1 (by omega)
  refine (at1 _).use ?_
  refine ⟨1, rfl, by omega, ?_⟩
  refine gt_if (a := a) (b := 0) a2 rfl (by omega) (by omega) (fun h2 => ?_) (fun h2 => ?_)
  · rw [show decide (N (15 + 8 * i + 1) = 0) = false from decide_eq_false (fun h => by
      rw [a2] at h
      have := i_inj (by omega) (by omega) (h.trans (show (0 : Int32) = Int32.ofNat 0 from rfl))
      omega), cond_false] at hQ
    refine gt_if (a := e) (b := 0) (g1.trans ee1) rfl (by omega) (by omega) (fun h3 => ?_) (fun h3 => ?_)
    · have hne : ¬ N 1 = 0 := fun h => by
        rw [ee1] at h
        have := i_inj (by omega) (by omega) (h.trans (show (0 : Int32) = Int32.ofNat 0 from rfl))
        omega
      rw [decide_eq_false hne, cond_false, ← g1] at hQ
      refine ⟨by rw [g1]; exact hne, ?_⟩
      exact qP_yes hQ
    · rw [show decide (N 1 = 0) = true from decide_eq_true (by rw [ee1, show e = 0 by omega]; rfl), cond_true] at hQ
      exact qP_yes hQ
  · rw [show decide (N (15 + 8 * i + 1) = 0) = true from decide_eq_true (by rw [a2, show a = 0 by omega]; rfl), cond_true] at hQ
    exact qP_yes hQ
theorem q_deepest {v : Int32} (hT : TrN M 12 N m S t) (hO : sacksOk N m S) (hQ : qP Q (gW sb ext) M (u_deepest N S v)) : EvP RO (d + 7) 85 [.ref 0, .int v] (gW sb ext) M Q := by
  have hm := hT.1.2.2.2.1
  have e3 := hT.1.1
  have hu := hT.2.2.2.1.2
  rw [u_deepest] at hQ
  refine EvP.wp [17] 60 rfl ?_
  refine EvP.wp [] 60 rfl ?_
  refine ⟨fun h0 => ?_, fun h0 => ?_⟩
  · rw [inB_out (by omega) e3 (Or.inl h0)] at hQ
    exact qP_no hQ (by decide) (by decide)
  refine ⟨fun h1 => ?_, fun h1 => ?_⟩
  rotate_left
  · rw [hu] at h1
    rw [inB_out (by omega) e3 (Or.inr h1)] at hQ
    exact qP_no hQ (by decide) (by decide)
  rw [hu] at h1
  obtain ⟨i, hi, rfl⟩ := nat_lt (by omega) h0 h1
  rw [inB_in (by omega) e3 hi rfl, cond_true, clamp_nn (by omega)] at hQ
  have hfl := fun d depth => c_fordLimit (RO := RO) (d := d) (GG := gW sb ext) (depth := depth) bas_12 hT hi
  refine (c_loadOn bas_12 hT hO (by omega)).use ?_
  have key : ∀ n, n ≤ 9 → ∀ Q' : mQ, Q' (.inl (some (.int (Int32.ofNat (deepN N i S n))))) (gW sb ext) M 0 0 → GoP RO (d + 6) 85 [.ref 0, .int (Int32.ofNat i), .int (loadN N (Int32.ofNat i) S), .int (Int32.ofNat n)] [] (gW sb ext) M 17 0 0 Q' := by
    intro n
    induction n with
    | zero =>
      intro _ Q' hQ'
      refine wp_sound [17] 60 _ _ _ _ _ _ _ ?_
      refine lt_if (a := 0) (b := 1) rfl rfl (by omega) (by omega) (fun _ => ?_) (fun h => absurd h (by omega))
      exact hQ'
    | succ n ih =>
      intro hn Q' hQ'
      refine wp_sound [17] 60 _ _ _ _ _ _ _ ?_
      refine lt_if (a := n + 1) (b := 1) rfl rfl (by omega) (by omega) (fun h => absurd h (by omega)) (fun _ => ?_)
      refine (hfl _ _).use ?_
      rw [deepN] at hQ'
      refine de_if (fun h2 => ?_) (fun h2 => ?_)
      · rw [show decide (fordL N i (Int32.ofNat (n + 1)) < loadN N (Int32.ofNat i) S) = true from h2, cond_true] at hQ'
        refine GoP.eq2 (ih (by omega) Q' hQ') ?_ rfl
        rw [i_dec]
      · rw [show decide (fordL N i (Int32.ofNat (n + 1)) < loadN N (Int32.ofNat i) S) = false from h2, cond_false] at hQ'
        exact hQ'
  refine key 9 (by omega) _ ?_
  exact qP_yes hQ
end QRY
