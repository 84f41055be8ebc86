/-! changes: new rows, settings, what was saved -/
def u_addSack (S : Nat) (kd w v : Int32) : Int32 × Int32 := bif inB kd 0 3 && (inB w 1 99 && inB v 0 999) then (if S = 16 then (2, 0) else (0, Int32.ofNat S)) else (1, 0)
def mostS (kd : Int32) : Int32 := if kd = 0 then 99 else if kd = 1 then 9 else 24
def u_addStage (t : Nat) (kd n : Int32) : Int32 × Int32 := bif inB kd 0 2 && inB n 1 (mostS kd) then (if t = 8 then (2, 0) else (0, Int32.ofNat t)) else (1, 0)
def u_drop (N : Nat → Int32) (t : Nat) (v : Int32) : Int32 × Int32 := bif inB v 0 (N 5 - 1) then (0, Int32.ofNat (t - 1)) else (1, 0)
def mostT (w : Int32) : Int32 := if w = 0 then 99 else 50
def u_set (N : Nat → Int32) (w v : Int32) : Int32 × Int32 := bif inB w 0 2 && inB v 0 (mostT w) then (0, N w.toNatClampNeg) else (1, 0)
section CHG
variable {RO : List mE} {d sb : Nat} {ext : List sh} {M : mM} {Q : mQ} {m S t nx c : Nat} {N : Nat → Int32}
theorem q_addSack {kd w v : Int32} (hT : TrN M 12 N m S t) (hR : rOk N m S t) (hH : I_his M nx c) (hQ : qCh Q (gW sb ext) M nx c eAI (u_addSack S kd w v) (bringsN N S kd w v) m (S + 1) t) : EvP RO (d + 7) 80 [.ref 0, .int kd, .int w, .int v] (gW sb ext) M Q := by
  have hS := hT.1.2.2.2.2.1
  have hf := fun d => c_isFullS (RO := RO) (d := d) (GG := gW sb ext) (b := 12) bas_12 hT.2.2.1.1 hT.2.2.1.2 hS
  rw [u_addSack] at hQ
  refine EvP.wp [] 60 rfl ?_
  refine ⟨fun h0 => ?_, fun h0 => ?_⟩
  · rw [inB_lo h0] at hQ
    exact qCh_no hQ (by decide) (by decide)
  refine ⟨fun h1 => ?_, fun h1 => ?_⟩
  · rw [inB_hi h1] at hQ
    exact qCh_no hQ (by decide) (by decide)
  rw [inB_mid h0 h1, Bool.true_and] at hQ
  refine ⟨fun h2 => ?_, fun h2 => ?_⟩
  · rw [inB_lo h2] at hQ
    exact qCh_no hQ (by decide) (by decide)
  refine ⟨fun h3 => ?_, fun h3 => ?_⟩
  · rw [inB_hi h3] at hQ
    exact qCh_no hQ (by decide) (by decide)
  rw [inB_mid h2 h3, Bool.true_and] at hQ
  refine ⟨fun h4 => ?_, fun h4 => ?_⟩
  · rw [inB_lo h4] at hQ
    exact qCh_no hQ (by decide) (by decide)
  refine ⟨fun h5 => ?_, fun h5 => ?_⟩
  · rw [inB_hi h5] at hQ
    exact qCh_no hQ (by decide) (by decide)
  rw [inB_mid h4 h5, cond_true] at hQ
  refine (hf _).use ?_
  refine zb_if (fun h => ?_) (fun h => ?_)
  · have h9 := of_decide_eq_false h
    rw [if_neg (by omega)] at hQ
    refine (c_rem hT hH).use ?_
    refine c_newSack bas_12 (his_T hT) (by omega) (fun M' x1 x2 => ?_)
    exact qCh_yes hQ x1 (fun q h1 => x2 q (by omega)) rfl
  · have h9 := of_decide_eq_true h
    rw [if_pos (by omega)] at hQ
    exact qCh_no hQ (by decide) (by decide)
theorem q_addStage {kd n : Int32} (hT : TrN M 12 N m S t) (hR : rOk N m S t) (hH : I_his M nx c) (hQ : qCh Q (gW sb ext) M nx c eAI (u_addStage t kd n) (leadsN N t kd n) m S (t + 1)) : EvP RO (d + 7) 81 [.ref 0, .int kd, .int n] (gW sb ext) M Q := by
  have ht := hT.1.2.2.2.2.2
  have hf := fun d => c_isFullT (RO := RO) (d := d) (GG := gW sb ext) (b := 12) bas_12 hT.2.2.2.2.1.1 hT.2.2.2.2.1.2 ht
  have hmo : ∀ d, EvR RO (d + 1) 99 [.int kd] (gW sb ext) M (some (.int (mostS kd))) M := fun d => by
    refine EvR.of (fun Q hQ => ?_)
    rw [mostS] at hQ
    refine EvP.wp [] 60 rfl ?_
    refine ⟨fun h => ?_, fun h => ?_⟩
    · rw [if_pos h] at hQ
      exact hQ
    rw [if_neg h] at hQ
    refine ⟨fun h2 => ?_, fun h2 => ?_⟩
    · rw [if_pos h2] at hQ
      exact hQ
    · rw [if_neg h2] at hQ
      exact hQ
  rw [u_addStage] at hQ
  refine EvP.wp [] 60 rfl ?_
  refine ⟨fun h0 => ?_, fun h0 => ?_⟩
  · rw [inB_lo h0] at hQ
    exact qCh_no hQ (by decide) (by decide)
  refine ⟨fun h1 => ?_, fun h1 => ?_⟩
  · rw [inB_hi h1] at hQ
    exact qCh_no hQ (by decide) (by decide)
  rw [inB_mid h0 h1, Bool.true_and] at hQ
  refine ⟨fun h2 => ?_, fun h2 => ?_⟩
  · rw [inB_lo h2] at hQ
    exact qCh_no hQ (by decide) (by decide)
  refine (hmo _).use ?_
  refine ⟨fun h3 => ?_, fun h3 => ?_⟩
  · rw [inB_hi h3] at hQ
    exact qCh_no hQ (by decide) (by decide)
  rw [inB_mid h2 h3, cond_true] at hQ
  refine (hf _).use ?_
  refine zb_if (fun h => ?_) (fun h => ?_)
  · have h9 := of_decide_eq_false h
    rw [if_neg (by omega)] at hQ
    refine (c_rem hT hH).use ?_
    refine c_newStage bas_12 (his_T hT) (by omega) (fun M' x1 x2 => ?_)
    exact qCh_yes hQ x1 (fun q h1 => x2 q (by omega)) rfl
  · have h9 := of_decide_eq_true h
    rw [if_pos (by omega)] at hQ
    exact qCh_no hQ (by decide) (by decide)
theorem q_dropStage {v : Int32} (hT : TrN M 12 N m S t) (hR : rOk N m S t) (hH : I_his M nx c) (hQ : qCh Q (gW sb ext) M nx c eN (u_drop N t v) (dropF (upd N 5 (Int32.ofNat (t - 1))) (191 + 2 * v.toNatClampNeg) (191 + 2 * (t - 1))) m S (t - 1)) : EvP RO (d + 7) 86 [.ref 0, .int v] (gW sb ext) M Q := by
  have ht := hT.1.2.2.2.2.2
  have e5 := hT.1.2.2.1
  have hu := hT.2.2.2.2.1.2
  rw [u_drop] at hQ
  refine EvP.wp [] 60 rfl ?_
  refine EvP.wp [] 60 rfl ?_
  refine ⟨fun h0 => ?_, fun h0 => ?_⟩
  · rw [inB_out (by omega) e5 (Or.inl h0)] at hQ
    exact qCh_no hQ (by decide) (by decide)
  refine ⟨fun h1 => ?_, fun h1 => ?_⟩
  rotate_left
  · rw [hu] at h1
    rw [inB_out (by omega) e5 (Or.inr h1)] at hQ
    exact qCh_no hQ (by decide) (by decide)
  rw [hu] at h1
  obtain ⟨k, hk, rfl⟩ := nat_lt (by omega) h0 h1
  rw [inB_in (by omega) e5 hk rfl, cond_true, clamp_nn (by omega)] at hQ
  refine (c_rem hT hH).use ?_
  refine r_dropRow (his_T hT) hk (fun M' x1 x2 => ?_)
  exact qCh_yes hQ x1 (fun q h1 => x2 q (by omega)) x1.2.2.2.2.1.2
theorem q_set {w v : Int32} (hT : TrN M 12 N m S t) (hR : rOk N m S t) (hH : I_his M nx c) (hQ : qCh Q (gW sb ext) M nx c eA (u_set N w v) (upd N w.toNatClampNeg v) m S t) : EvP RO (d + 7) 116 [.ref 0, .int w, .int v] (gW sb ext) M Q := by
  have hmo : ∀ d, EvR RO (d + 1) 98 [.int w] (gW sb ext) M (some (.int (mostT w))) M := fun d => by
    refine EvR.of (fun Q hQ => ?_)
    rw [mostT] at hQ
    refine EvP.wp [] 60 rfl ?_
    refine ⟨fun h => ?_, fun h => ?_⟩
    · rw [if_pos h] at hQ
      exact hQ
    · rw [if_neg h] at hQ
      exact hQ
  rw [u_set] at hQ
  refine EvP.wp [] 60 rfl ?_
  refine EvP.wp [] 60 rfl ?_
  refine ⟨fun h0 => ?_, fun h0 => ?_⟩
  · rw [show inB w 0 2 = false from inB_off (n := 2) (by omega) (Or.inl h0)] at hQ
    exact qCh_no hQ (by decide) (by decide)
  refine ⟨fun h1 => ?_, fun h1 => ?_⟩
  rotate_left
  · rw [show inB w 0 2 = false from inB_off (n := 2) (by omega) (Or.inr h1)] at hQ
    exact qCh_no hQ (by decide) (by decide)
  obtain ⟨k, hk, rfl⟩ := nat_lt (n := 3) (by omega) h0 h1
  rw [show inB (Int32.ofNat k) 0 2 = true from inB_on (n := 2) (by omega) hk rfl, Bool.true_and, clamp_nn (by omega)] at hQ
  refine ⟨fun h2 => ?_, fun h2 => ?_⟩
  · rw [inB_lo h2] at hQ
    exact qCh_no hQ (by decide) (by decide)
  refine (hmo _).use ?_
  refine ⟨fun h3 => ?_, fun h3 => ?_⟩
  · rw [inB_hi h3] at hQ
    exact qCh_no hQ (by decide) (by decide)
  rw [inB_mid h2 h3, cond_true] at hQ
  have t1 := TrN_set (x := v) (his_T (nx := nx) (c := c) hT) hk
  refine (c_rem hT hH).use ?_
  refine ⟨k, rfl, by omega, ?_⟩
  refine ⟨k, rfl, by omega, ?_⟩
  refine qCh_yes hQ t1 (fun q h1 => upM_ne (by omega)) ?_
  exact (his_T (nx := nx) (c := c) hT).2.2.2.2.2.1 k hk
theorem his_sav {M : mM} {nx c b m S t : Nat} {N : Nat → Int32} (hb : b + 8 < 49) (hT : TrN M b N m S t) : TrN (hisM M nx c) b N m S t := TrN_fr hT (fun q h1 h2 => his_lo (by omega))
/-- what was saved comes back; before it the train is remembered -/
theorem q_restore {k m0 S0 t0 : Nat} {N0 : Nat → Int32} (hT : TrN M 12 N m S t) (hH : I_his M nx c) (hk : k < 2) (hs : M 141 k = 1) (hK : TrN M (22 + 9 * k) N0 m0 S0 t0) (hQ : ∀ M', TrN M' 12 N0 m0 S0 t0 → FrH M nx c M' → Q (.inl (some (.int (N0 6)))) (gW sb ext) M' 0 0) : EvP RO (d + 7) 113 [.ref 0, .int (Int32.ofNat k)] (gW sb ext) M Q := by
  have a' := his_sav (nx := nx) (c := c) (by omega) hK
  have hw := TrN_wid (his_T (nx := nx) (c := c) hT)
  have t1 := TrN_bec (x := 12) a' hw.1 hw.2.1 hw.2.2
  have r1 : ∀ d, EvR RO (d + 2) 40 [.ref 12, .ref (22 + 9 * k)] (gW sb ext) (hisM M nx c) none (becM (hisM M nx c) 12 (22 + 9 * k)) := fun d => by
    rcases (show k = 0 ∨ k = 1 by omega) with rfl | rfl
    · exact c_become (by decide) a' hw.1 hw.2.1 hw.2.2
    · exact c_become (by decide) a' hw.1 hw.2.1 hw.2.2
  have r2 := hQ _ t1 (fun q h1 => by rw [becM_far (by omega)])
  rw [← t1.2.1.1] at r2
  refine EvP.wp [] 60 rfl ?_
  refine EvP.wp [] 60 rfl ?_
  refine nn_if rfl (by omega) ?_
  refine lt_if (b := 2) rfl rfl (by omega) (by omega) (fun _ => ?_) (fun h => absurd h (by omega))
  rcases (show k = 0 ∨ k = 1 by omega) with rfl | rfl
  · refine ⟨0, rfl, by omega, ?_⟩
    refine ⟨0, rfl, by omega, ?_⟩
    refine ⟨fun h2 => ?_, fun h2 => ?_⟩
    · rw [hs] at h2; exact absurd h2 (by decide)
    refine (c_rem hT hH).use ?_
    refine (r1 _).use ?_
    exact r2
  · refine ⟨1, rfl, by omega, ?_⟩
    refine ⟨1, rfl, by omega, ?_⟩
    refine ⟨fun h2 => ?_, fun h2 => ?_⟩
    · rw [hs] at h2; exact absurd h2 (by decide)
    refine (c_rem hT hH).use ?_
    refine (r1 _).use ?_
    exact r2
end CHG
