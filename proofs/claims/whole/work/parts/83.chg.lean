/-! changes: new rows, settings, what was saved -/
def u_addSack (S : Nat) (kd w v : Int32) : Int32 × Int32 := bif inB kd 0 3 && (inB w 1 99 && inB v 0 999) then (if S = 16 then (2, 0) else (0, Int32.ofNat S)) else (1, 0)
def mostS (kd : Int32) : Int32 := if kd = 0 then 99 else if kd = 1 then 9 else 24
def u_addStage (t : Nat) (kd n : Int32) : Int32 × Int32 := bif inB kd 0 2 && inB n 1 (mostS kd) then (if t = 8 then (2, 0) else (0, Int32.ofNat t)) else (1, 0)
def u_drop (N : Nat → Int32) (t : Nat) (v : Int32) : Int32 × Int32 := bif inB v 0 (N 5 - 1) then (0, Int32.ofNat (t - 1)) else (1, 0)
def mostT (w : Int32) : Int32 := if w = 0 then 99 else 50
def u_set (N : Nat → Int32) (w v : Int32) : Int32 × Int32 := bif inB w 0 2 && inB v 0 (mostT w) then (0, N w.toNatClampNeg) else (1, 0)
def u_restore (K : Nat → Int32) (z : Nat) (v : Int32) : Int32 × Int32 := bif inB v 0 1 then (bif z.testBit v.toNatClampNeg then (0, rowAt K v.toNatClampNeg 6) else (2, 0)) else (1, 0)
section CHG
variable {RO : List mE} {d sb : Nat} {ext : List sh} {M : mM} {Q : mQ} {m S t nx c : Nat} {N : Nat → Int32}
theorem w_addSack {kd w v : Int32} (hT : TrN M 12 N m S t) (hR : rOk N m S t) (hH : I_his M nx c) (hQ : wCh Q (gW sb ext) M nx c (u_addSack S kd w v) (bringsN N S kd w v) m (S + 1) t) : EvP RO (d + 8) 250 [.ref 0, .int kd, .int w, .int v, .ref 157] (gW sb ext) M Q := by
  have hS := hT.1.2.2.2.2.1
  have hf := fun d => c_isFullS (RO := RO) (d := d) (GG := gW sb ext) (b := 12) bas_12 hT.2.2.1.1 hT.2.2.1.2 hS
  rw [u_addSack] at hQ
  refine EvP.wp [] 60 rfl ?_
  refine EvP.wp [] 60 rfl ?_
  refine ⟨fun h0 => ?_, fun h0 => ?_⟩
  · rw [inB_lo h0] at hQ
    exact wCh_no hQ (by decide)
  refine ⟨fun h1 => ?_, fun h1 => ?_⟩
  · rw [inB_hi h1] at hQ
    exact wCh_no hQ (by decide)
  rw [inB_mid h0 h1, Bool.true_and] at hQ
  refine ⟨fun h2 => ?_, fun h2 => ?_⟩
  · rw [inB_lo h2] at hQ
    exact wCh_no hQ (by decide)
  refine ⟨fun h3 => ?_, fun h3 => ?_⟩
  · rw [inB_hi h3] at hQ
    exact wCh_no hQ (by decide)
  rw [inB_mid h2 h3, Bool.true_and] at hQ
  refine ⟨fun h4 => ?_, fun h4 => ?_⟩
  · rw [inB_lo h4] at hQ
    exact wCh_no hQ (by decide)
  refine ⟨fun h5 => ?_, fun h5 => ?_⟩
  · rw [inB_hi h5] at hQ
    exact wCh_no hQ (by decide)
  rw [inB_mid h4 h5, cond_true] at hQ
  refine (hf _).use ?_
  refine zb_if (fun h => ?_) (fun h => ?_)
  · have h9 := of_decide_eq_false h
    rw [if_neg (by omega)] at hQ
    refine (c_rem hT hH).use ?_
    refine c_newSack bas_12 (his_T hT) (by omega) (fun M' x1 x2 => ?_)
    refine ⟨0, rfl, by omega, l_ok, ?_⟩
    exact wCh_yes hQ x1 (fun q h1 _ => x2 q (by omega)) rfl
  · have h9 := of_decide_eq_true h
    rw [if_pos (by omega)] at hQ
    exact wCh_no hQ (by decide)
theorem w_addStage {kd n : Int32} (hT : TrN M 12 N m S t) (hR : rOk N m S t) (hH : I_his M nx c) (hQ : wCh Q (gW sb ext) M nx c (u_addStage t kd n) (leadsN N t kd n) m S (t + 1)) : EvP RO (d + 8) 251 [.ref 0, .int kd, .int n, .ref 157] (gW sb ext) M Q := by
  have ht := hT.1.2.2.2.2.2
  have hf := fun d => c_isFullT (RO := RO) (d := d) (GG := gW sb ext) (b := 12) bas_12 hT.2.2.2.2.1.1 hT.2.2.2.2.1.2 ht
  have hmo : ∀ d, EvR RO (d + 1) 99 [.int kd] (gW sb ext) M (some (.int (mostS kd))) M := fun d => by
    refine EvR.of (fun Q hQ => ?_)
    rw [mostS] at hQ
    refine EvP.wp [] 60 rfl ?_
    refine ⟨fun h => ?_, fun h => ?_⟩
    · rw [if_pos h] at hQ
      exact hQ
    rw [if_neg h] at hQ
    refine ⟨fun h2 => ?_, fun h2 => ?_⟩
    · rw [if_pos h2] at hQ
      exact hQ
    · rw [if_neg h2] at hQ
      exact hQ
  rw [u_addStage] at hQ
  refine EvP.wp [] 60 rfl ?_
  refine EvP.wp [] 60 rfl ?_
  refine ⟨fun h0 => ?_, fun h0 => ?_⟩
  · rw [inB_lo h0] at hQ
    exact wCh_no hQ (by decide)
  refine ⟨fun h1 => ?_, fun h1 => ?_⟩
  · rw [inB_hi h1] at hQ
    exact wCh_no hQ (by decide)
  rw [inB_mid h0 h1, Bool.true_and] at hQ
  refine ⟨fun h2 => ?_, fun h2 => ?_⟩
  · rw [inB_lo h2] at hQ
    exact wCh_no hQ (by decide)
  refine (hmo _).use ?_
  refine ⟨fun h3 => ?_, fun h3 => ?_⟩
  · rw [inB_hi h3] at hQ
    exact wCh_no hQ (by decide)
  rw [inB_mid h2 h3, cond_true] at hQ
  refine (hf _).use ?_
  refine zb_if (fun h => ?_) (fun h => ?_)
  · have h9 := of_decide_eq_false h
    rw [if_neg (by omega)] at hQ
    refine (c_rem hT hH).use ?_
    refine c_newStage bas_12 (his_T hT) (by omega) (fun M' x1 x2 => ?_)
    refine ⟨0, rfl, by omega, l_ok, ?_⟩
    exact wCh_yes hQ x1 (fun q h1 _ => x2 q (by omega)) rfl
  · have h9 := of_decide_eq_true h
    rw [if_pos (by omega)] at hQ
    exact wCh_no hQ (by decide)
theorem w_dropStage {v : Int32} (hT : TrN M 12 N m S t) (hR : rOk N m S t) (hH : I_his M nx c) (hQ : wCh Q (gW sb ext) M nx c (u_drop N t v) (dropF (upd N 5 (Int32.ofNat (t - 1))) (191 + 2 * v.toNatClampNeg) (191 + 2 * (t - 1))) m S (t - 1)) : EvP RO (d + 8) 256 [.ref 0, .int v, .ref 157] (gW sb ext) M Q := by
  have ht := hT.1.2.2.2.2.2
  have e5 := hT.1.2.2.1
  have hu := hT.2.2.2.2.1.2
  rw [u_drop] at hQ
  refine EvP.wp [] 60 rfl ?_
  refine EvP.wp [] 60 rfl ?_
  refine EvP.wp [] 60 rfl ?_
  refine ⟨fun h0 => ?_, fun h0 => ?_⟩
  · rw [inB_out (by omega) e5 (Or.inl h0)] at hQ
    exact wCh_no hQ (by decide)
  refine ⟨fun h1 => ?_, fun h1 => ?_⟩
  rotate_left
  · rw [hu] at h1
    rw [inB_out (by omega) e5 (Or.inr h1)] at hQ
    exact wCh_no hQ (by decide)
  rw [hu] at h1
  obtain ⟨k, hk, rfl⟩ := nat_lt (by omega) h0 h1
  rw [inB_in (by omega) e5 hk rfl, cond_true, clamp_nn (by omega)] at hQ
  refine (c_rem hT hH).use ?_
  refine r_dropRow (his_T hT) hk (fun M' x1 x2 => ?_)
  refine ⟨0, rfl, by omega, l_ok, ?_⟩
  exact wCh_yes hQ x1 (fun q h1 _ => x2 q (by omega)) x1.2.2.2.2.1.2
theorem w_set {w v : Int32} (hT : TrN M 12 N m S t) (hR : rOk N m S t) (hH : I_his M nx c) (hQ : wCh Q (gW sb ext) M nx c (u_set N w v) (upd N w.toNatClampNeg v) m S t) : EvP RO (d + 8) 272 [.ref 0, .int w, .int v, .ref 157] (gW sb ext) M Q := by
  have hmo : ∀ d, EvR RO (d + 1) 98 [.int w] (gW sb ext) M (some (.int (mostT w))) M := fun d => by
    refine EvR.of (fun Q hQ => ?_)
    rw [mostT] at hQ
    refine EvP.wp [] 60 rfl ?_
    refine ⟨fun h => ?_, fun h => ?_⟩
    · rw [if_pos h] at hQ
      exact hQ
    · rw [if_neg h] at hQ
      exact hQ
  rw [u_set] at hQ
  refine EvP.wp [] 60 rfl ?_
  refine EvP.wp [] 60 rfl ?_
  refine EvP.wp [] 60 rfl ?_
  refine ⟨fun h0 => ?_, fun h0 => ?_⟩
  · rw [show inB w 0 2 = false from inB_off (n := 2) (by omega) (Or.inl h0)] at hQ
    exact wCh_no hQ (by decide)
  refine ⟨fun h1 => ?_, fun h1 => ?_⟩
  rotate_left
  · rw [show inB w 0 2 = false from inB_off (n := 2) (by omega) (Or.inr h1)] at hQ
    exact wCh_no hQ (by decide)
  obtain ⟨k, hk, rfl⟩ := nat_lt (n := 3) (by omega) h0 h1
  rw [show inB (Int32.ofNat k) 0 2 = true from inB_on (n := 2) (by omega) hk rfl, Bool.true_and, clamp_nn (by omega)] at hQ
  refine ⟨fun h2 => ?_, fun h2 => ?_⟩
  · rw [inB_lo h2] at hQ
    exact wCh_no hQ (by decide)
  refine (hmo _).use ?_
  refine ⟨fun h3 => ?_, fun h3 => ?_⟩
  · rw [inB_hi h3] at hQ
    exact wCh_no hQ (by decide)
  rw [inB_mid h2 h3, cond_true] at hQ
  have t1 := TrN_set (x := v) (his_T (nx := nx) (c := c) hT) hk
  refine (c_rem hT hH).use ?_
  refine ⟨k, rfl, by omega, ?_⟩
  refine ⟨k, rfl, by omega, ?_⟩
  refine ⟨0, rfl, by omega, l_ok, ?_⟩
  refine wCh_yes hQ t1 (fun q h1 _ => upM_ne (by omega)) ?_
  exact (his_T (nx := nx) (c := c) hT).2.2.2.2.2.1 k hk
theorem his_sav {M : mM} {nx c b m S t : Nat} {N : Nat → Int32} (hb : b + 8 < 49) (hT : TrN M b N m S t) : TrN (hisM M nx c) b N m S t := TrN_fr hT (fun q h1 h2 => his_lo (by omega))
theorem w_restore {z : Nat} {v : Int32} (hT : TrN M 12 N m S t) (hH : I_his M nx c) (hZ : I_sav M z) (hQ : (u_restore (M 152) z v).1 = 0 → ∀ M' m' S' t', TrN M' 12 (rowAt (M 152) v.toNatClampNeg) m' S' t' → rOk (rowAt (M 152) v.toNatClampNeg) m' S' t' → FrH M nx c M' → M' 157 0 = (u_restore (M 152) z v).2 → Q (.inl (some (.int 0))) (gW sb ext) M' 0 0) (hN : (u_restore (M 152) z v).1 ≠ 0 → Q (.inl (some (.int (u_restore (M 152) z v).1))) (gW sb ext) M 1 6) : EvP RO (d + 8) 269 [.ref 0, .int v, .ref 157] (gW sb ext) M Q := by
  obtain ⟨z1, z2, z3, z4, z5⟩ := hZ
  refine EvP.wp [] 60 rfl ?_
  refine EvP.wp [] 60 rfl ?_
  refine EvP.wp [] 60 rfl ?_
  refine ⟨fun h0 => ?_, fun h0 => ?_⟩
  · rw [u_restore, show inB v 0 1 = false from inB_off (n := 1) (by omega) (Or.inl h0)] at hN
    exact hN (by show (1 : Int32) ≠ 0; decide)
  refine ⟨fun h1 => ?_, fun h1 => ?_⟩
  rotate_left
  · rw [u_restore, show inB v 0 1 = false from inB_off (n := 1) (by omega) (Or.inr h1)] at hN
    exact hN (by show (1 : Int32) ≠ 0; decide)
  obtain ⟨k, hk, rfl⟩ := nat_lt (n := 2) (by omega) h0 h1
  obtain ⟨g1, g2⟩ := z5 k hk
  rw [u_restore, show inB (Int32.ofNat k) 0 1 = true from inB_on (n := 1) (by omega) hk rfl, cond_true, clamp_nn (by omega)] at hQ hN
  have no : z.testBit k = false → Q (.inl (some (.int 2))) (gW sb ext) M 1 6 := fun h => by
    rw [h] at hN
    exact hN (by show (2 : Int32) ≠ 0; decide)
  have yes : z.testBit k = true → (∀ d, EvR RO (d + 2) 40 [.ref 12, .ref (22 + 9 * k)] (gW sb ext) (hisM M nx c) none (becM (hisM M nx c) 12 (22 + 9 * k))) ∧ Q (.inl (some (.int 0))) (gW sb ext) (upM (becM (hisM M nx c) 12 (22 + 9 * k)) 157 (upd (becM (hisM M nx c) 12 (22 + 9 * k) 157) 0 (becM (hisM M nx c) 12 (22 + 9 * k) 12 5).toInt64.toInt32)) 0 0 := fun h => by
    obtain ⟨m', S', t', a, b⟩ := g2 h
    have a' := his_sav (nx := nx) (c := c) (by omega) a
    have hw := TrN_wid (his_T (nx := nx) (c := c) hT)
    have t1 := TrN_bec (x := 12) a' hw.1 hw.2.1 hw.2.2
    rw [h, cond_true] at hQ
    refine ⟨fun d => ?_, ?_⟩
    · rcases (show k = 0 ∨ k = 1 by omega) with rfl | rfl
      · exact c_become (by decide) a' hw.1 hw.2.1 hw.2.2
      · exact c_become (by decide) a' hw.1 hw.2.1 hw.2.2
    · refine hQ rfl _ m' S' t' (TrN_fr t1 (fun q h1 h2 => upM_ne (by omega))) b (fun q h1 h2 => by rw [upM_ne h2, becM_far (by omega)]) ?_
      rw [upM_at, upd_at, l_i]
      exact t1.2.1.1
  clear hQ hN
  rcases (show k = 0 ∨ k = 1 by omega) with rfl | rfl
  · refine ⟨0, rfl, by omega, ?_⟩
    refine ⟨0, rfl, by omega, ?_⟩
    refine ⟨fun h2 => ?_, fun h2 => ?_⟩
    · rw [g1] at h2
      exact no (by cases hz : z.testBit 0 with
        | false => rfl
        | true => rw [hz] at h2; exact absurd h2 (by decide))
    · rw [g1] at h2
      obtain ⟨r1, r2⟩ := yes (by cases hz : z.testBit 0 with
        | true => rfl
        | false => rw [hz] at h2; exact absurd rfl h2)
      refine (c_rem hT hH).use ?_
      refine (r1 _).use ?_
      refine ⟨0, rfl, by omega, l_ok, ?_⟩
      exact r2
  · refine ⟨1, rfl, by omega, ?_⟩
    refine ⟨1, rfl, by omega, ?_⟩
    refine ⟨fun h2 => ?_, fun h2 => ?_⟩
    · rw [g1] at h2
      exact no (by cases hz : z.testBit 1 with
        | false => rfl
        | true => rw [hz] at h2; exact absurd h2 (by decide))
    · rw [g1] at h2
      obtain ⟨r1, r2⟩ := yes (by cases hz : z.testBit 1 with
        | true => rfl
        | false => rw [hz] at h2; exact absurd rfl h2)
      refine (c_rem hT hH).use ?_
      refine (r1 _).use ?_
      refine ⟨0, rfl, by omega, l_ok, ?_⟩
      exact r2
end CHG
