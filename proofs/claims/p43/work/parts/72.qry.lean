/-! what would be: the class's second train; best worth; quotients -/
def trN (G0 N : Nat → Int32) (m S t : Nat) : Nat → Int32 := tripsN (gN G0 N S m) N m S t
def u_fate (N T : Nat → Int32) (v : Int32) : Int32 × Int32 := bif inB v 0 (N 4 - 1) then (if N (63 + 8 * v.toNatClampNeg + 3) = 1 then (0, if T (63 + 8 * v.toNatClampNeg + 3) = 3 then 3 else if T (63 + 8 * v.toNatClampNeg + 2) < N (63 + 8 * v.toNatClampNeg + 2) then 2 else 1) else (0, 0)) else (1, 0)
def u_tiredBy (N T : Nat → Int32) (v : Int32) : Int32 × Int32 := bif inB v 0 (N 3 - 1) then (0, T (15 + 8 * v.toNatClampNeg + 1)) else (1, 0)
def roomN (N : Nat → Int32) (S : Nat) (v : Int32) : Nat := (bearN N v.toNatClampNeg - loadN N v S).toNatClampNeg
def u_bestWorth (N : Nat → Int32) (S : Nat) (v : Int32) : Int32 × Int32 := bif inB v 0 (N 3 - 1) then (0, dpN N (fun _ => 0) (roomN N S v) S (roomN N S v)) else (1, 0)
def widOk (M : mM) (b : Nat) : Prop := M (b + 1) 0 = 8 ∧ M (b + 3) 0 = 9 ∧ M (b + 5) 0 = 2
theorem FrQ.what {M M1 : mM} {N : Nat → Int32} {m S t : Nat} (hw : widOk M 40) (hT : TrN M1 40 N m S t) (hF : FrB 40 (becM M 40 12) M1) : FrQ M M1 := by
  refine ⟨fun q h1 _ => ?_, ?_, ?_, ?_⟩
  · rw [hF q (by omega), becM_far (by omega)]
  · rw [hT.2.2.1.1]; exact hw.1.symm
  · rw [hT.2.2.2.1.1]; exact hw.2.1.symm
  · rw [hT.2.2.2.2.1.1]; exact hw.2.2.symm
theorem dpN_congr {N O O' : Nat → Int32} {r : Nat} (hO : ∀ j, j ≤ r → O' j = O j) : ∀ k j, j ≤ r → dpN N O' r k j = dpN N O r k j := by
  intro k
  induction k with
  | zero => exact hO
  | succ k ih =>
    intro j hj
    rw [dpN, dpN]
    cases decide (N (63 + 8 * k + 3) = 0) && Nat.ble (N (63 + 8 * k + 1)).toNatClampNeg r with
    | false => exact ih j hj
    | true =>
      rw [cond_true, cond_true, dpF, dpF]
      by_cases h : (N (63 + 8 * k + 1)).toNatClampNeg ≤ j ∧ j ≤ r
      · rw [if_pos h, if_pos h, ih j hj, ih _ (by omega)]
      · rw [if_neg h, if_neg h, ih j hj]
theorem zero_lt9 {x : Int32} {c : Nat} (hx : x = Int32.ofNat c) (hc : c < 1000000) : (0 < x ↔ ¬ x = 0) := by
  subst hx
  constructor
  · intro h e
    rw [e] at h
    exact absurd h (by decide)
  · intro h
    rw [show (0 : Int32) = Int32.ofNat 0 from rfl, i_lt (by omega) hc]
    rcases Nat.eq_zero_or_pos c with e | e
    · subst e; exact absurd rfl h
    · exact e
section QRY
variable {RO : List mE} {d sb : Nat} {ext : List sh} {M : mM} {Q : mQ} {m S t : Nat} {N : Nat → Int32}
theorem c_what {G0 : Nat → Int32} (hT : TrN M 12 N m S t) (hI : invN N m S t) (hw : widOk M 40) : ∃ M1 : mM, M1 = becM M 40 12 ∧ (∀ d, EvR RO (d + 2) 40 [.ref 40, .ref 12] (gW sb ext) M none M1) ∧ ∀ (d : Nat) (Q : mQ), (∀ M', TrN M' 40 (trN G0 N m S t) m S t → FrQ M M' → Q (.inl (some (.int (trN G0 N m S t 7 - N 7)))) (gW sb ext) M' 0 0) → EvP RO (d + 5) 75 [.ref 40] (gW sb ext) M1 Q := by
  refine ⟨_, rfl, fun d => c_become (by decide) hT hw.1 hw.2.1 hw.2.2, fun d Q hQ => ?_⟩
  have t1 := TrN_bec (x := 40) hT hw.1 hw.2.1 hw.2.2
  exact c_travel (G0 := G0) bas_40 t1 hI (fun M' h1 h2 => hQ M' h1 (FrQ.what hw h1 h2))
theorem c_tripBrings {G0 : Nat → Int32} (hT : TrN M 12 N m S t) (hI : invN N m S t) (hw : widOk M 40) (hQ : ∀ M', FrQ M M' → Q (.inl (some (.int (trN G0 N m S t 7 - N 7)))) (gW sb ext) M' 0 0) : EvP RO (d + 8) 123 [.ref 0] (gW sb ext) M Q := by
  obtain ⟨M1, -, hb, ht⟩ := c_what (RO := RO) (sb := sb) (ext := ext) (G0 := G0) hT hI hw
  refine EvP.wp [] 60 rfl ?_
  refine (hb _).use ?_
  refine ht _ _ (fun M' h1 h2 => ?_)
  exact hQ M' h2
theorem q_tiredBy {G0 : Nat → Int32} {v : Int32} (hT : TrN M 12 N m S t) (hI : invN N m S t) (hw : widOk M 40) (hQ : qQ Q (gW sb ext) M (u_tiredBy N (trN G0 N m S t) v)) : EvP RO (d + 8) 121 [.ref 0, .int v] (gW sb ext) M Q := by
  have hm := hT.1.2.2.2.1
  have e3 := hT.1.1
  have hu := hT.2.2.2.1.2
  obtain ⟨M1, -, hb, ht⟩ := c_what (RO := RO) (sb := sb) (ext := ext) (G0 := G0) hT hI hw
  rw [u_tiredBy] at hQ
  refine EvP.wp [] 60 rfl ?_
  refine EvP.wp [] 60 rfl ?_
  refine ⟨fun h0 => ?_, fun h0 => ?_⟩
  · rw [inB_out (by omega) e3 (Or.inl h0)] at hQ
    exact qQ_no hQ (by decide) (by decide)
  refine ⟨fun h1 => ?_, fun h1 => ?_⟩
  rotate_left
  · rw [hu] at h1
    rw [inB_out (by omega) e3 (Or.inr h1)] at hQ
    exact qQ_no hQ (by decide) (by decide)
  rw [hu] at h1
  obtain ⟨i, hi, rfl⟩ := nat_lt (by omega) h0 h1
  rw [inB_in (by omega) e3 hi rfl, cond_true, clamp_nn (by omega)] at hQ
  refine (hb _).use ?_
  refine ht _ _ (fun M' h1 h2 => ?_)
  have at1 := fun d => c_atM (RO := RO) (d := d) (GG := gW sb ext) (c := 1) bas_40 h1 hi (by omega)
  obtain ⟨-, k1, -, -⟩ := h1.2.2.2.2.2.2.2.2.1 i hi
  simp only [k1] at at1
  refine (at1 _).use ?_
  exact qQ_yes hQ h2
theorem q_fate {G0 : Nat → Int32} {v : Int32} (hT : TrN M 12 N m S t) (hI : invN N m S t) (hw : widOk M 40) (hQ : qQ Q (gW sb ext) M (u_fate N (trN G0 N m S t) v)) : EvP RO (d + 8) 89 [.ref 0, .int v] (gW sb ext) M Q := by
  have hS := hT.1.2.2.2.2.1
  have e4 := hT.1.2.1
  have hu := hT.2.2.1.2
  obtain ⟨M1, -, hb, ht⟩ := c_what (RO := RO) (sb := sb) (ext := ext) (G0 := G0) hT hI hw
  rw [u_fate] at hQ
  refine EvP.wp [] 60 rfl ?_
  refine EvP.wp [] 60 rfl ?_
  refine ⟨fun h0 => ?_, fun h0 => ?_⟩
  · rw [inB_out (by omega) e4 (Or.inl h0)] at hQ
    exact qQ_no hQ (by decide) (by decide)
  refine ⟨fun h1 => ?_, fun h1 => ?_⟩
  rotate_left
  · rw [hu] at h1
    rw [inB_out (by omega) e4 (Or.inr h1)] at hQ
    exact qQ_no hQ (by decide) (by decide)
  rw [hu] at h1
  obtain ⟨i, hi, rfl⟩ := nat_lt (by omega) h0 h1
  rw [inB_in (by omega) e4 hi rfl, cond_true, clamp_nn (by omega)] at hQ
  refine (c_atS (c := 3) bas_12 hT hi (by omega)).use ?_
  refine ⟨fun h2 => ?_, fun h2 => ?_⟩
  rotate_left
  · rw [if_neg h2] at hQ
    exact qQ_yes hQ FrQ.refl
  rw [if_pos h2] at hQ
  refine (hb _).use ?_
  refine ht _ _ (fun M' x1 x2 => ?_)
  refine (c_atS (c := 3) bas_40 x1 hi (by omega)).use ?_
  refine ⟨fun h3 => ?_, fun h3 => ?_⟩
  · rw [if_pos h3] at hQ
    exact qQ_yes hQ x2
  rw [if_neg h3] at hQ
  have hT' : TrN M' 12 N m S t := by
    have hc : ∀ q, q < 40 → M' q = M q := fun q hq => x2.1 q (by omega) (by omega)
    obtain ⟨a, b, c, d, e, f, g, h, i, j⟩ := hT
    refine ⟨a, by rw [hc 12 (by omega)]; exact b, by rw [hc _ (by omega)]; exact c, by rw [hc _ (by omega)]; exact d, by rw [hc _ (by omega)]; exact e, by rw [hc _ (by omega)]; exact f, by rw [hc _ (by omega)]; exact g, by rw [hc _ (by omega)]; exact h, by rw [hc _ (by omega)]; exact i, by rw [hc _ (by omega)]; exact j⟩
  refine (c_atS (c := 2) bas_40 x1 hi (by omega)).use ?_
  refine (c_atS (c := 2) bas_12 hT' hi (by omega)).use ?_
  refine ⟨fun h4 => ?_, fun h4 => ?_⟩
  · rw [if_pos h4] at hQ
    exact qQ_yes hQ x2
  · rw [if_neg h4] at hQ
    exact qQ_yes hQ x2
theorem c_gap (hT : TrN M 12 N m S t) (hI : invN N m S t) (hP : placesOk N S) : EvR RO (d + 5) 94 [.ref 0] (gW sb ext) M (some (.int (gapN N m S))) M := by
  have h1 := fun d => c_worthGap (RO := RO) (d := d) (sb := sb) (ext := ext) hT hP
  have h2 := fun d => c_moneyGap (RO := RO) (d := d) (sb := sb) (ext := ext) hT
  have h3 := fun d => c_overload (RO := RO) (d := d) (sb := sb) (ext := ext) hT hI.2.1 hI.2.2.1 (fun i hi => inv_mule hI hi)
  refine EvP.wp [] 60 rfl ?_
  refine (h1 _).use ?_
  refine (h2 _).use ?_
  refine (h3 _).use ?_
  refine ⟨?_, rfl, rfl, rfl, rfl⟩
  rw [gapN, wg_eq, wgN]
theorem allL_val (hW : weightOk N S) : ∀ k, ∃ w : Nat, allL N S k = Int32.ofNat w ∧ w ≤ k * (198 * S) := by
  intro k
  induction k with
  | zero => exact ⟨0, rfl, Nat.zero_le _⟩
  | succ k ih =>
    obtain ⟨w, h1, h2⟩ := ih
    obtain ⟨x, h3, h4⟩ := load_val (mm := Int32.ofNat k) hW
    refine ⟨w + x, ?_, by rw [Nat.succ_mul]; omega⟩
    show allL N S k + loadN N (Int32.ofNat k) S = _
    rw [h1, h3, i_add]
theorem c_worthOfLoads (hT : TrN M 12 N m S t) (hI : invN N m S t) : EvR RO (d + 4) 129 [.ref 0] (gW sb ext) M (some (.double (wolN N m S))) M := by
  have hm := hT.1.2.2.2.1
  have hS := hT.1.2.2.2.2.1
  have hu := hT.2.2.2.1.2
  have hl := fun d k (hk : k < m) => c_loadOn (RO := RO) (d := d) (GG := gW sb ext) (j := k) bas_12 hT hI.2.1 (by omega)
  have hw := fun d k (hk : k < m) => c_worthOn (RO := RO) (d := d) (GG := gW sb ext) (j := k) bas_12 hT hI.2.1 (by omega)
  obtain ⟨w, w1, w2⟩ := allL_val (N := N) (S := S) hI.2.2.1 m
  have w3 : m * (198 * S) ≤ 6 * (198 * 16) := Nat.mul_le_mul hm (by omega)
  refine EvR.of (fun Q hQ => ?_)
  refine EvP.wp [6] 40 rfl ?_
  refine up_ind (S := m) (H := fun i => GoP RO (d + 3) 129 [.ref 0, .int (allV N S i), .int (allL N S i), .int (Int32.ofNat i)] [] (gW sb ext) M 6 0 0 Q) ?_ (fun i hi ih => ?_) 0 (by omega)
  · refine wp_sound [6] 60 _ _ _ _ _ _ _ ?_
    refine lt_if rfl hu (by omega) (by omega) (fun h => absurd h (by omega)) (fun _ => ?_)
    rw [wolN] at hQ
    have hz := zero_lt9 w1 (by omega)
    refine ⟨fun h => ?_, fun h => ?_⟩
    · have h0 := hz.mp h
      rw [decide_eq_false h0] at hQ
      refine ⟨ddiv_ok h0, ?_⟩
      exact hQ
    · have h0 : allL N S m = 0 := Classical.byContradiction (fun h9 => h (hz.mpr h9))
      rw [decide_eq_true h0] at hQ
      exact hQ
  · refine wp_sound [6] 60 _ _ _ _ _ _ _ ?_
    refine lt_if rfl hu (by omega) (by omega) (fun _ => ?_) (fun h => absurd h (by omega))
    refine (hw _ i hi).use ?_
    refine (hl _ i hi).use ?_
    refine GoP.eq2 ih ?_ rfl
    rw [i_inc]; rfl
theorem q_filled {i : Nat} (hT : TrN M 12 N m S t) (hI : invN N m S t) (hi : i < m) : EvR RO (d + 7) 92 [.ref 0, .int (Int32.ofNat i)] (gW sb ext) M (some (.float (filN N i S))) M := by
  have hm := hT.1.2.2.2.1
  have e3 := hT.1.1
  have hu := hT.2.2.2.1.2
  obtain ⟨c, b1, b2⟩ := bear_ok (inv_mule hI hi)
  have hz := zero_lt9 b1 (by omega)
  have hl := fun d => c_loadOn (RO := RO) (d := d) (GG := gW sb ext) (j := i) bas_12 hT hI.2.1 (by omega)
  refine EvR.of (fun Q hQ => ?_)
  refine EvP.wp [] 60 rfl ?_
  refine EvP.wp [] 60 rfl ?_
  refine nn_if rfl (by omega) ?_
  refine lt_if rfl hu (by omega) (by omega) (fun _ => ?_) (fun h => absurd h (by omega))
  refine (c_bearing bas_12 hT hi).use ?_
  rw [filN] at hQ
  refine ⟨fun h => ?_, fun h => ?_⟩
  · have h9 := hz.mp h
    rw [decide_eq_false h9, cond_false] at hQ
    refine (hl _).use ?_
    refine ⟨fdiv_ok h9, ?_⟩
    exact hQ
  · have h9 : bearN N i = 0 := Classical.byContradiction (fun h8 => h (hz.mpr h8))
    rw [decide_eq_true h9, cond_true] at hQ
    exact hQ
end QRY
