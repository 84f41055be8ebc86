/-! what calls of the law's wrappers answer: the class's questions -/
def FrQ (M M' : mM) : Prop := (∀ q, (q < 40 ∨ 48 < q) → q ≠ 144 → M' q = M q) ∧ M' 41 0 = M 41 0 ∧ M' 43 0 = M 43 0 ∧ M' 45 0 = M 45 0
theorem FrQ.refl {M : mM} : FrQ M M := ⟨fun _ _ _ => rfl, rfl, rfl, rfl⟩
theorem FrQ.trans {M M' M'' : mM} (h : FrQ M M') (h' : FrQ M' M'') : FrQ M M'' := ⟨fun q h1 h2 => (h'.1 q h1 h2).trans (h.1 q h1 h2), h'.2.1.trans h.2.1, h'.2.2.1.trans h.2.2.1, h'.2.2.2.trans h.2.2.2⟩
/-- a question: it throws, or it answers; the class's second train and its table may change -/
def qQ (Q : mQ) (G : List sh) (M : mM) (u : Int32 × Int32) : Prop := (u.1 ≠ 0 → ∀ x, x < 3 → Q (.inr x) G M 1 6) ∧ (u.1 = 0 → ∀ M', FrQ M M' → Q (.inl (some (.int u.2))) G M' 0 0)
theorem qQ_no {Q : mQ} {G : List sh} {M : mM} {k x : Int32} {z : Nat} (h : qQ Q G M (k, x)) (hk : k ≠ 0) (hz : z < 3) : Q (.inr z) G M 1 6 := h.1 hk z hz
theorem qQ_yes {Q : mQ} {G : List sh} {M M1 : mM} {x : Int32} (h : qQ Q G M (0, x)) (hF : FrQ M M1) : Q (.inl (some (.int x))) G M1 0 0 := h.2 rfl M1 hF
theorem qQ.mk {Q : mQ} {G : List sh} {M : mM} {u : Int32 × Int32} {x : Int32} (e : u = (0, x)) (h : ∀ M', FrQ M M' → Q (.inl (some (.int x))) G M' 0 0) : qQ Q G M u := by
  subst e
  exact ⟨fun h9 => absurd rfl h9, fun _ => h⟩
/-- a question that changes nothing -/
def qP (Q : mQ) (G : List sh) (M : mM) (u : Int32 × Int32) : Prop := (u.1 ≠ 0 → ∀ x, x < 3 → Q (.inr x) G M 1 6) ∧ (u.1 = 0 → Q (.inl (some (.int u.2))) G M 0 0)
theorem qP_no {Q : mQ} {G : List sh} {M : mM} {k x : Int32} {z : Nat} (h : qP Q G M (k, x)) (hk : k ≠ 0) (hz : z < 3) : Q (.inr z) G M 1 6 := h.1 hk z hz
theorem qP_yes {Q : mQ} {G : List sh} {M : mM} {x : Int32} (h : qP Q G M (0, x)) : Q (.inl (some (.int x))) G M 0 0 := h.2 rfl
theorem qP_R {G : List sh} {M : mM} {u : Int32 × Int32} {x : Int32} (e : u = (0, x)) : qP (fun o G2 M2 mc ms => o = .inl (some (.int x)) ∧ G2 = G ∧ M2 = M ∧ mc = 0 ∧ ms = 0) G M u := by
  subst e
  exact ⟨fun h9 => absurd rfl h9, fun _ => ⟨rfl, rfl, rfl, rfl, rfl⟩⟩
theorem inB_off {w : Int32} {n : Nat} (hn : n < 999999) (h : w < 0 ∨ ¬ w < Int32.ofNat (n + 1)) : inB w 0 (Int32.ofNat n) = false := by
  have h9 := inB_out (x := Int32.ofNat (n + 1)) (n := n + 1) (by omega) rfl h
  rw [show Int32.ofNat (n + 1) - 1 = Int32.ofNat n from i_sub (a := n + 1) (b := 1) (by omega)] at h9
  exact h9
theorem inB_on {w : Int32} {n i : Nat} (hn : n < 999999) (hi : i < n + 1) (hw : w = Int32.ofNat i) : inB w 0 (Int32.ofNat n) = true := by
  have h9 := inB_in (x := Int32.ofNat (n + 1)) (n := n + 1) (by omega) rfl hi hw
  rw [show Int32.ofNat (n + 1) - 1 = Int32.ofNat n from i_sub (a := n + 1) (b := 1) (by omega)] at h9
  exact h9
/-! the answers, as functions of the row -/
def u_value (N : Nat → Int32) (S t : Nat) (c v : Int32) : Int32 × Int32 := if v = 0 then (0, N 3) else if v = 1 then (0, N 4) else if v = 2 then (0, placeN N (v - 2) S) else if v = 3 then (0, placeN N (v - 2) S) else if v = 4 then (0, placeN N (v - 2) S) else if v = 5 then (0, placeN N (v - 2) S) else if v = 6 then (0, N 5) else if v = 7 then (0, N 6) else if v = 8 then (0, N 7) else if v = 9 then (0, milesN N t) else if v = 10 then (0, c) else (1, 0)
def u_setting (N : Nat → Int32) (v : Int32) : Int32 × Int32 := bif inB v 0 2 then (0, N v.toNatClampNeg) else (1, 0)
def u_count (N : Nat → Int32) (v : Int32) : Int32 × Int32 := bif inB v 0 6 then (0, N (8 + v.toNatClampNeg)) else (1, 0)
def muleV (N : Nat → Int32) (S : Nat) (v w : Int32) : Int32 := if w = 0 then N (15 + 8 * v.toNatClampNeg) else if w = 1 then N (15 + 8 * v.toNatClampNeg + 1) else if w = 2 then bearN N v.toNatClampNeg else if w = 3 then loadN N v S else if w = 4 then wOn N v 0 S else if w = 5 then wOn N v 1 S else if w = 6 then sOn N v S else if w = 7 then zb (!decide (N 0 < absB (wOn N v 0 S - wOn N v 1 S))) else if w = 8 then vOn N v S else Int32.ofNat (lettN N v.toNatClampNeg)
def u_mule (N : Nat → Int32) (S : Nat) (v w : Int32) : Int32 × Int32 := bif inB v 0 (N 3 - 1) then (bif inB w 0 9 then (0, muleV N S v w) else (2, 0)) else (1, 0)
def u_sack (N : Nat → Int32) (v w : Int32) : Int32 × Int32 := bif inB v 0 (N 4 - 1) then (bif inB w 0 7 then (0, N (63 + 8 * v.toNatClampNeg + w.toNatClampNeg)) else (2, 0)) else (1, 0)
def u_stage (N : Nat → Int32) (v w : Int32) : Int32 × Int32 := bif inB v 0 (N 5 - 1) then (bif inB w 0 1 then (0, N (191 + 2 * v.toNatClampNeg + w.toNatClampNeg)) else (2, 0)) else (1, 0)
section QRY
variable {RO : List mE} {d sb : Nat} {ext : List sh} {M : mM} {Q : mQ} {m S t : Nat} {N : Nat → Int32}
theorem q_value {c v : Int32} (hT : TrN M 12 N m S t) (hc : M 49 2 = c) (hQ : qP Q (gW sb ext) M (u_value N S t c v)) : EvP RO (d + 5) 126 [.ref 0, .int v] (gW sb ext) M Q := by
  have hsi := fun d p => c_sacksIn (RO := RO) (d := d) (sb := sb) (ext := ext) (p := p) hT
  have hmi := fun d => c_miles (RO := RO) (d := d) (sb := sb) (ext := ext) hT
  have e3 : M 15 2 = N 3 := hT.2.2.2.1.2.trans hT.1.1.symm
  have e4 : M 13 2 = N 4 := hT.2.2.1.2.trans hT.1.2.1.symm
  have e5 : M 17 2 = N 5 := hT.2.2.2.2.1.2.trans hT.1.2.2.1.symm
  have e6 : M 12 5 = N 6 := hT.2.1.1
  have e7 : M 12 6 = N 7 := hT.2.1.2
  rw [u_value, ← e3, ← e4, ← e5, ← e6, ← e7, ← hc] at hQ
  refine EvP.wp [] 60 rfl ?_
  refine ⟨fun h0 => ?_, fun h0 => ?_⟩
  · rw [if_pos h0] at hQ
    exact qP_yes hQ
  rw [if_neg h0] at hQ
  refine ⟨fun h1 => ?_, fun h1 => ?_⟩
  · rw [if_pos h1] at hQ
    exact qP_yes hQ
  rw [if_neg h1] at hQ
  refine ⟨fun h2 => ?_, fun h2 => ?_⟩
  · rw [if_pos h2] at hQ
    refine (hsi _ _).use ?_
    exact qP_yes hQ
  rw [if_neg h2] at hQ
  refine ⟨fun h3 => ?_, fun h3 => ?_⟩
  · rw [if_pos h3] at hQ
    refine (hsi _ _).use ?_
    exact qP_yes hQ
  rw [if_neg h3] at hQ
  refine ⟨fun h4 => ?_, fun h4 => ?_⟩
  · rw [if_pos h4] at hQ
    refine (hsi _ _).use ?_
    exact qP_yes hQ
  rw [if_neg h4] at hQ
  refine ⟨fun h5 => ?_, fun h5 => ?_⟩
  · rw [if_pos h5] at hQ
    refine (hsi _ _).use ?_
    exact qP_yes hQ
  rw [if_neg h5] at hQ
  refine ⟨fun h6 => ?_, fun h6 => ?_⟩
  · rw [if_pos h6] at hQ
    exact qP_yes hQ
  rw [if_neg h6] at hQ
  refine ⟨fun h7 => ?_, fun h7 => ?_⟩
  · rw [if_pos h7] at hQ
    exact qP_yes hQ
  rw [if_neg h7] at hQ
  refine ⟨fun h8 => ?_, fun h8 => ?_⟩
  · rw [if_pos h8] at hQ
    exact qP_yes hQ
  rw [if_neg h8] at hQ
  refine ⟨fun h9 => ?_, fun h9 => ?_⟩
  · rw [if_pos h9] at hQ
    refine (hmi _).use ?_
    exact qP_yes hQ
  rw [if_neg h9] at hQ
  refine ⟨fun h10 => ?_, fun h10 => ?_⟩
  · rw [if_pos h10] at hQ
    exact qP_yes hQ
  rw [if_neg h10] at hQ
  exact qP_no hQ (by decide) (by decide)
theorem q_setting {v : Int32} (hT : TrN M 12 N m S t) (hQ : qP Q (gW sb ext) M (u_setting N v)) : EvP RO (d + 5) 117 [.ref 0, .int v] (gW sb ext) M Q := by
  rw [u_setting] at hQ
  refine EvP.wp [] 60 rfl ?_
  refine EvP.wp [] 60 rfl ?_
  refine ⟨fun h0 => ?_, fun h0 => ?_⟩
  · rw [show inB v 0 2 = false from inB_off (n := 2) (by omega) (Or.inl h0)] at hQ
    exact qP_no hQ (by decide) (by decide)
  refine ⟨fun h1 => ?_, fun h1 => ?_⟩
  · obtain ⟨i, hi, rfl⟩ := nat_lt (n := 3) (by omega) h0 h1
    rw [show inB (Int32.ofNat i) 0 2 = true from inB_on (n := 2) (by omega) hi rfl, cond_true, clamp_nn (by omega), ← hT.2.2.2.2.2.1 i hi] at hQ
    refine ⟨i, rfl, by omega, ?_⟩
    exact qP_yes hQ
  · rw [show inB v 0 2 = false from inB_off (n := 2) (by omega) (Or.inr h1)] at hQ
    exact qP_no hQ (by decide) (by decide)
theorem q_count {v : Int32} (hT : TrN M 12 N m S t) (hQ : qP Q (gW sb ext) M (u_count N v)) : EvP RO (d + 5) 84 [.ref 0, .int v] (gW sb ext) M Q := by
  rw [u_count] at hQ
  refine EvP.wp [] 60 rfl ?_
  refine ⟨fun h0 => ?_, fun h0 => ?_⟩
  · rw [show inB v 0 6 = false from inB_off (n := 6) (by omega) (Or.inl h0)] at hQ
    exact qP_no hQ (by decide) (by decide)
  refine ⟨fun h1 => ?_, fun h1 => ?_⟩
  · obtain ⟨i, hi, rfl⟩ := nat_lt (n := 7) (by omega) h0 h1
    rw [show inB (Int32.ofNat i) 0 6 = true from inB_on (n := 6) (by omega) hi rfl, cond_true, clamp_nn (by omega), ← hT.2.2.2.2.2.2.1 i hi] at hQ
    refine ⟨i, rfl, by omega, ?_⟩
    exact qP_yes hQ
  · rw [show inB v 0 6 = false from inB_off (n := 6) (by omega) (Or.inr h1)] at hQ
    exact qP_no hQ (by decide) (by decide)
theorem q_mule {v w : Int32} (hT : TrN M 12 N m S t) (hO : sacksOk N m S) (hQ : qP Q (gW sb ext) M (u_mule N S v w)) : EvP RO (d + 7) 100 [.ref 0, .int v, .int w] (gW sb ext) M Q := by
  have hm := hT.1.2.2.2.1
  have e3 := hT.1.1
  have hu := hT.2.2.2.1.2
  rw [u_mule] at hQ
  refine EvP.wp [] 60 rfl ?_
  refine EvP.wp [] 60 rfl ?_
  refine ⟨fun h0 => ?_, fun h0 => ?_⟩
  · rw [inB_out (by omega) e3 (Or.inl h0)] at hQ
    exact qP_no hQ (by decide) (by decide)
  refine ⟨fun h1 => ?_, fun h1 => ?_⟩
  rotate_left
  · rw [hu] at h1
    rw [inB_out (by omega) e3 (Or.inr h1)] at hQ
    exact qP_no hQ (by decide) (by decide)
  rw [hu] at h1
  obtain ⟨i, hi, rfl⟩ := nat_lt (by omega) h0 h1
  rw [inB_in (by omega) e3 hi rfl, cond_true] at hQ
  refine ⟨fun h2 => ?_, fun h2 => ?_⟩
  · rw [show inB w 0 9 = false from inB_off (n := 9) (by omega) (Or.inl h2)] at hQ
    exact qP_no hQ (by decide) (by decide)
  refine ⟨fun h3 => ?_, fun h3 => ?_⟩
  rotate_left
  · rw [show inB w 0 9 = false from inB_off (n := 9) (by omega) (Or.inr h3)] at hQ
    exact qP_no hQ (by decide) (by decide)
  obtain ⟨j, hj, hw⟩ := nat_lt (n := 10) (by omega) h2 h3
  rw [show inB w 0 9 = true from inB_on (n := 9) (by omega) hj hw, cond_true, muleV, clamp_nn (by omega)] at hQ
  obtain ⟨k0, k1, k2, -⟩ := hT.2.2.2.2.2.2.2.2.1 i hi
  have at0 := fun d => c_atM (RO := RO) (d := d) (GG := gW sb ext) (c := 0) bas_12 hT hi (by omega)
  have at1 := fun d => c_atM (RO := RO) (d := d) (GG := gW sb ext) (c := 1) bas_12 hT hi (by omega)
  have at2 := fun d => c_atM (RO := RO) (d := d) (GG := gW sb ext) (c := 2) bas_12 hT hi (by omega)
  simp only [Nat.add_zero, k0] at at0
  simp only [k1] at at1
  simp only [k2] at at2
  have hbe := fun d => c_bearing (RO := RO) (d := d) (GG := gW sb ext) bas_12 hT hi
  have hlo := fun d => c_loadOn (RO := RO) (d := d) (GG := gW sb ext) (j := i) bas_12 hT hO (by omega)
  have hw0 := fun d sd => c_weightOn (RO := RO) (d := d) (sb := sb) (ext := ext) (j := i) (sd := sd) hT hO (by omega)
  have hso := fun d => c_sacksOn (RO := RO) (d := d) (GG := gW sb ext) (j := i) bas_12 hT hO (by omega)
  have hle := fun d => c_isLevel (RO := RO) (d := d) (GG := gW sb ext) (j := i) bas_12 hT hO (by omega)
  have hwo := fun d => c_worthOn (RO := RO) (d := d) (GG := gW sb ext) (j := i) bas_12 hT hO (by omega)
  refine EvP.wp [] 60 rfl ?_
  refine ⟨fun g0 => ?_, fun g0 => ?_⟩
  · rw [if_pos g0] at hQ
    refine (at0 _).use ?_
    exact qP_yes hQ
  rw [if_neg g0] at hQ
  refine ⟨fun g1 => ?_, fun g1 => ?_⟩
  · rw [if_pos g1] at hQ
    refine (at1 _).use ?_
    exact qP_yes hQ
  rw [if_neg g1] at hQ
  refine ⟨fun g2 => ?_, fun g2 => ?_⟩
  · rw [if_pos g2] at hQ
    refine (hbe _).use ?_
    exact qP_yes hQ
  rw [if_neg g2] at hQ
  refine ⟨fun g3 => ?_, fun g3 => ?_⟩
  · rw [if_pos g3] at hQ
    refine (hlo _).use ?_
    exact qP_yes hQ
  rw [if_neg g3] at hQ
  refine ⟨fun g4 => ?_, fun g4 => ?_⟩
  · rw [if_pos g4] at hQ
    refine (hw0 _ _).use ?_
    exact qP_yes hQ
  rw [if_neg g4] at hQ
  refine ⟨fun g5 => ?_, fun g5 => ?_⟩
  · rw [if_pos g5] at hQ
    refine (hw0 _ _).use ?_
    exact qP_yes hQ
  rw [if_neg g5] at hQ
  refine ⟨fun g6 => ?_, fun g6 => ?_⟩
  · rw [if_pos g6] at hQ
    refine (hso _).use ?_
    exact qP_yes hQ
  rw [if_neg g6] at hQ
  refine ⟨fun g7 => ?_, fun g7 => ?_⟩
  · rw [if_pos g7] at hQ
    refine (hle _).use ?_
    refine zb_if (fun g => ?_) (fun g => ?_)
    · rw [show (!decide (N 0 < absB (wOn N (Int32.ofNat i) 0 S - wOn N (Int32.ofNat i) 1 S))) = false from g] at hQ
      exact qP_yes hQ
    · rw [show (!decide (N 0 < absB (wOn N (Int32.ofNat i) 0 S - wOn N (Int32.ofNat i) 1 S))) = true from g] at hQ
      exact qP_yes hQ
  rw [if_neg g7] at hQ
  refine ⟨fun g8 => ?_, fun g8 => ?_⟩
  · rw [if_pos g8] at hQ
    refine (hwo _).use ?_
    exact qP_yes hQ
  rw [if_neg g8] at hQ
  refine (at2 _).use ?_
  exact qP_yes hQ
theorem q_sack {v w : Int32} (hT : TrN M 12 N m S t) (hQ : qP Q (gW sb ext) M (u_sack N v w)) : EvP RO (d + 5) 114 [.ref 0, .int v, .int w] (gW sb ext) M Q := by
  have hS := hT.1.2.2.2.2.1
  have e4 := hT.1.2.1
  have hu := hT.2.2.1.2
  rw [u_sack] at hQ
  refine EvP.wp [] 60 rfl ?_
  refine EvP.wp [] 60 rfl ?_
  refine ⟨fun h0 => ?_, fun h0 => ?_⟩
  · rw [inB_out (by omega) e4 (Or.inl h0)] at hQ
    exact qP_no hQ (by decide) (by decide)
  refine ⟨fun h1 => ?_, fun h1 => ?_⟩
  rotate_left
  · rw [hu] at h1
    rw [inB_out (by omega) e4 (Or.inr h1)] at hQ
    exact qP_no hQ (by decide) (by decide)
  rw [hu] at h1
  obtain ⟨i, hi, rfl⟩ := nat_lt (by omega) h0 h1
  rw [inB_in (by omega) e4 hi rfl, cond_true, clamp_nn (by omega)] at hQ
  refine ⟨fun h2 => ?_, fun h2 => ?_⟩
  · rw [show inB w 0 7 = false from inB_off (n := 7) (by omega) (Or.inl h2)] at hQ
    exact qP_no hQ (by decide) (by decide)
  refine ⟨fun h3 => ?_, fun h3 => ?_⟩
  · obtain ⟨j, hj, rfl⟩ := nat_lt (n := 8) (by omega) h2 h3
    rw [show inB (Int32.ofNat j) 0 7 = true from inB_on (n := 7) (by omega) hj rfl, cond_true, clamp_nn (by omega)] at hQ
    refine (c_atS bas_12 hT hi hj).use ?_
    exact qP_yes hQ
  · rw [show inB w 0 7 = false from inB_off (n := 7) (by omega) (Or.inr h3)] at hQ
    exact qP_no hQ (by decide) (by decide)
theorem q_stage {v w : Int32} (hT : TrN M 12 N m S t) (hQ : qP Q (gW sb ext) M (u_stage N v w)) : EvP RO (d + 5) 119 [.ref 0, .int v, .int w] (gW sb ext) M Q := by
  have ht := hT.1.2.2.2.2.2
  have e5 := hT.1.2.2.1
  have hu := hT.2.2.2.2.1.2
  rw [u_stage] at hQ
  refine EvP.wp [] 60 rfl ?_
  refine EvP.wp [] 60 rfl ?_
  refine ⟨fun h0 => ?_, fun h0 => ?_⟩
  · rw [inB_out (by omega) e5 (Or.inl h0)] at hQ
    exact qP_no hQ (by decide) (by decide)
  refine ⟨fun h1 => ?_, fun h1 => ?_⟩
  rotate_left
  · rw [hu] at h1
    rw [inB_out (by omega) e5 (Or.inr h1)] at hQ
    exact qP_no hQ (by decide) (by decide)
  rw [hu] at h1
  obtain ⟨i, hi, rfl⟩ := nat_lt (by omega) h0 h1
  rw [inB_in (by omega) e5 hi rfl, cond_true, clamp_nn (by omega)] at hQ
  refine ⟨fun h2 => ?_, fun h2 => ?_⟩
  · rw [show inB w 0 1 = false from inB_off (n := 1) (by omega) (Or.inl h2)] at hQ
    exact qP_no hQ (by decide) (by decide)
  refine ⟨fun h3 => ?_, fun h3 => ?_⟩
  · obtain ⟨j, hj, rfl⟩ := nat_lt (n := 2) (by omega) h2 h3
    rw [show inB (Int32.ofNat j) 0 1 = true from inB_on (n := 1) (by omega) hj rfl, cond_true, clamp_nn (by omega)] at hQ
    refine (c_atT bas_12 hT hi hj).use ?_
    exact qP_yes hQ
  · rw [show inB w 0 1 = false from inB_off (n := 1) (by omega) (Or.inr h3)] at hQ
    exact qP_no hQ (by decide) (by decide)
end QRY
