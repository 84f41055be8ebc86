/-! what was saved, undone, fed -/
section MCH
variable {RO : List mE} {d sb : Nat} {ext : List sh} {M : mM} {Q : mQ} {m S t c z : Nat} {N K : Nat → Int32}
theorem copyF_row {O K : Nat → Int32} {k j : Nat} (hj : j < 207) : copyF O 0 K (k * 207) 207 j = rowAt K k j := by
  rw [copyF, if_pos (by omega), rowAt, Nat.sub_zero]
theorem m_restore {v : Int32} (h149 : M 149 = N) (h152 : M 152 = K) (hz : z < 4) (h9 : M 145 9 = Int32.ofNat z) (hc : c ≤ 10) (hcN : M 145 7 = Int32.ofNat c) (hQ : mCh Q (gW sb ext) M c (u_restore K z v) (copyF N 0 K (v.toNatClampNeg * 207) 207)) : EvP RO (d + 2) 208 [.ref 145, .int v] (gW sb ext) M Q := by
  subst h149
  subst h152
  rw [u_restore] at hQ
  refine e_restore hc hcN (fun e => ?_) (fun k hk hv e => ?_) (fun k hk hv e => ?_)
  · rw [e] at hQ; exact mCh_no hQ (by decide)
  · have hb := bits_at z (by omega) k (by omega)
    rw [h9, hv] at e
    rw [decide_eq_true e] at hb
    rw [hv, show inB (Int32.ofNat k) 0 1 = true from inB_on (n := 1) (by omega) hk rfl, cond_true, clamp_nn (by omega), show z.testBit k = false by
      cases hx : z.testBit k with
      | false => rfl
      | true => rw [hx] at hb; cases hb] at hQ
    exact mCh_no hQ (by decide)
  · have hb := bits_at z (by omega) k (by omega)
    rw [h9, hv] at e
    rw [decide_eq_false e] at hb
    rw [hv, show inB (Int32.ofNat k) 0 1 = true from inB_on (n := 1) (by omega) hk rfl, cond_true, clamp_nn (by omega), show z.testBit k = true by
      cases hx : z.testBit k with
      | true => rfl
      | false => rw [hx] at hb; cases hb] at hQ
    exact mCh_yes hQ rfl (copyF_row (by omega))
theorem TrN_lat {nx : Nat} (hn : nx < 10) (hc : c ≤ 10) (h0 : 0 < c) : hisAt nx c (c - 1) = 51 + 9 * laN nx := by
  unfold hisAt laN
  split <;> omega
theorem w_undo {nx : Nat} (hT : TrN M 12 N m S t) (hH : I_his M nx c) (h0 : c = 0 → Q (.inl (some (.int 1))) (gW sb ext) M 1 6) (h1 : 0 < c → Q (.inl (some (.int 0))) (gW sb ext) (upM (bakM M nx c) 157 (upd (M 157) 0 (Int32.ofNat (c - 1)).toInt64.toInt32)) 0 0) : EvP RO (d + 8) 278 [.ref 0, .ref 157] (gW sb ext) M Q := by
  obtain ⟨a1, a2, a3, a4, a5, a6, a7⟩ := hH
  have hw := TrN_wid hT
  refine EvP.wp [] 60 rfl ?_
  refine EvP.wp [] 60 rfl ?_
  refine gt_if (a := c) (b := 0) a4 rfl (by omega) (by omega) (fun h => ?_) (fun h => ?_)
  · obtain ⟨m', S', t', b1, b2⟩ := a7 (c - 1) (by omega)
    rw [TrN_lat a1 a2 h] at b1
    refine (c_bringBack a1 b1 a2 h a3 a4 hw.1 hw.2.1 hw.2.2).use ?_
    refine ⟨0, rfl, by omega, l_ok, ?_⟩
    exact h1 h
  · exact h0 (by omega)
theorem i_one : ∀ z, z < 4 → ∀ k, k < 2 → Int32.ofNat z ||| ((1 : Int32) <<< (Int32.ofNat k &&& 31)) = Int32.ofNat (z ||| 2 ^ k) := by decide +kernel
theorem i_cnt : ∀ z, z < 4 → (Int32.ofNat z &&& 1) + (Int32.ofNat z >>> ((1 : Int32) &&& 31)) = zb (z.testBit 0) + zb (z.testBit 1) := by decide +kernel
theorem or_bit : ∀ z, z < 4 → ∀ k, k < 2 → (z ||| 2 ^ k) < 4 ∧ (z ||| 2 ^ k).testBit k = true ∧ ∀ j, j < 2 → j ≠ k → (z ||| 2 ^ k).testBit j = z.testBit j := by decide +kernel
def savC (M : mM) (k : Nat) : mM := upM (becM M (22 + 9 * k) 12) 141 (upd (M 141) k (vp_nar .boolean 1))
theorem w_save {v : Int32} (hT : TrN M 12 N m S t) (hZ : I_sav M z) (h0 : inB v 0 1 = false → Q (.inl (some (.int 1))) (gW sb ext) M 1 6) (h1 : ∀ k, k < 2 → v = Int32.ofNat k → Q (.inl (some (.int 0))) (gW sb ext) (upM (savC M k) 157 (upd (M 157) 0 (zb ((z ||| 2 ^ k).testBit 0) + zb ((z ||| 2 ^ k).testBit 1)).toInt64.toInt32)) 0 0) : EvP RO (d + 8) 271 [.ref 0, .int v, .ref 157] (gW sb ext) M Q := by
  obtain ⟨z1, z2, z3, z4, z5⟩ := hZ
  have g0 := (z5 0 (by omega)).1
  have g1 := (z5 1 (by omega)).1
  have cnt : ∀ b0 b1 : Bool, (0 + (if zb b0 = 0 then (0 : Int32) else 1)) + (if zb b1 = 0 then (0 : Int32) else 1) = zb b0 + zb b1 := by decide
  refine EvP.wp [] 60 rfl ?_
  refine EvP.wp [] 60 rfl ?_
  refine EvP.wp [] 60 rfl ?_
  refine ⟨fun e0 => ?_, fun e0 => ?_⟩
  · exact h0 (inB_off (n := 1) (by omega) (Or.inl e0))
  refine ⟨fun e1 => ?_, fun e1 => ?_⟩
  rotate_left
  · exact h0 (inB_off (n := 1) (by omega) (Or.inr e1))
  obtain ⟨k, hk, rfl⟩ := nat_lt (n := 2) (by omega) e0 e1
  have hq := h1 k hk rfl
  obtain ⟨y1, y2, y3⟩ := or_bit z z1 k hk
  rcases (show k = 0 ∨ k = 1 by omega) with rfl | rfl
  · have hb := fun d => c_become (RO := RO) (d := d) (sb := sb) (ext := ext) (x := 22) (y := 12) (by decide) hT z3.1 z3.2.1 z3.2.2
    rw [y2, y3 1 (by omega) (by omega)] at hq
    refine ⟨0, rfl, by omega, ?_⟩
    refine (hb _).use ?_
    refine ⟨0, rfl, by omega, ?_⟩
    refine ⟨fun _ => ?_, fun h => absurd (by decide) h⟩
    refine ⟨0, rfl, by omega, ?_⟩
    refine ⟨fun h => absurd (show vp_nar .boolean 1 = 0 from h) (by decide +kernel), fun _ => ?_⟩
    refine ⟨fun _ => ?_, fun h => absurd (by decide) h⟩
    refine ⟨1, rfl, by omega, ?_⟩
    refine ⟨fun h => ?_, fun h => ?_⟩
    · have hz : z.testBit 1 = false := by
        cases hx : z.testBit 1 with
        | false => rfl
        | true => exact absurd ((g1.symm.trans h).symm.trans (by rw [hx])) (by decide)
      rw [hz] at hq
      refine ⟨fun h => absurd h (by decide), fun _ => ?_⟩
      refine ⟨0, rfl, by omega, l_ok, ?_⟩
      exact hq
    · have hz : z.testBit 1 = true := by
        cases hx : z.testBit 1 with
        | true => rfl
        | false => exact absurd (g1.trans (by rw [hx]; rfl)) h
      rw [hz] at hq
      refine ⟨fun h => absurd h (by decide), fun _ => ?_⟩
      refine ⟨0, rfl, by omega, l_ok, ?_⟩
      exact hq
  · have hb := fun d => c_become (RO := RO) (d := d) (sb := sb) (ext := ext) (x := 31) (y := 12) (by decide) hT z4.1 z4.2.1 z4.2.2
    rw [y2, y3 0 (by omega) (by omega)] at hq
    refine ⟨1, rfl, by omega, ?_⟩
    refine (hb _).use ?_
    refine ⟨1, rfl, by omega, ?_⟩
    refine ⟨fun _ => ?_, fun h => absurd (by decide) h⟩
    refine ⟨0, rfl, by omega, ?_⟩
    refine ⟨fun h => ?_, fun h => ?_⟩
    · have hz : z.testBit 0 = false := by
        cases hx : z.testBit 0 with
        | false => rfl
        | true => exact absurd ((g0.symm.trans h).symm.trans (by rw [hx])) (by decide)
      rw [hz] at hq
      refine ⟨fun _ => ?_, fun h => absurd (by decide) h⟩
      refine ⟨1, rfl, by omega, ?_⟩
      refine ⟨fun h => absurd (show vp_nar .boolean 1 = 0 from h) (by decide +kernel), fun _ => ?_⟩
      refine ⟨fun h => absurd h (by decide), fun _ => ?_⟩
      refine ⟨0, rfl, by omega, l_ok, ?_⟩
      exact hq
    · have hz : z.testBit 0 = true := by
        cases hx : z.testBit 0 with
        | true => rfl
        | false => exact absurd (g0.trans (by rw [hx]; rfl)) h
      rw [hz] at hq
      refine ⟨fun _ => ?_, fun h => absurd (by decide) h⟩
      refine ⟨1, rfl, by omega, ?_⟩
      refine ⟨fun h => absurd (show vp_nar .boolean 1 = 0 from h) (by decide +kernel), fun _ => ?_⟩
      refine ⟨fun h => absurd h (by decide), fun _ => ?_⟩
      refine ⟨0, rfl, by omega, l_ok, ?_⟩
      exact hq
end MCH
