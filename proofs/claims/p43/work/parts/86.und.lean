/-! undo and save, by themselves -/
section UND
variable {RO : List mE} {d sb : Nat} {ext : List sh} {M : mM} {Q : mQ} {m S t nx c : Nat} {N : Nat → Int32}
theorem q_undo {m0 S0 t0 : Nat} {N0 : Nat → Int32} (hT : TrN M 12 N m S t) (hH : I_his M nx c) (h0 : 0 < c) (hK : TrN M (51 + 9 * laN nx) N0 m0 S0 t0) : EvR RO (d + 7) 124 [.ref 0] (gW sb ext) M (some (.int (Int32.ofNat (c - 1)))) (bakM M nx c) := by
  obtain ⟨a1, a2, a3, a4, a5⟩ := hH
  have hw := TrN_wid hT
  refine EvP.wp [] 60 rfl ?_
  refine gt_if (a := c) (b := 0) a4 rfl (by omega) (by omega) (fun h => ?_) (fun h => absurd h0 (by omega))
  refine (c_bringBack a1 hK a2 h a3 a4 hw.1 hw.2.1 hw.2.2).use ?_
  exact ⟨rfl, rfl, rfl, rfl, rfl⟩
def savC (M : mM) (k : Nat) : mM := upM (becM M (22 + 9 * k) 12) 141 (upd (M 141) k (vp_nar .boolean 1))
theorem q_save {k : Nat} (hT : TrN M 12 N m S t) (hk : k < 2) (hw : widOk M (22 + 9 * k)) (g0 : M 141 0 = 0) (g1 : M 141 1 = 0) : EvR RO (d + 7) 115 [.ref 0, .int (Int32.ofNat k)] (gW sb ext) M (some (.int 1)) (savC M k) := by
  rcases (show k = 0 ∨ k = 1 by omega) with rfl | rfl
  · have hb := fun d => c_become (RO := RO) (d := d) (sb := sb) (ext := ext) (x := 22) (y := 12) (by decide) hT hw.1 hw.2.1 hw.2.2
    refine EvP.wp [] 60 rfl ?_
    refine EvP.wp [] 60 rfl ?_
    refine ⟨fun h => absurd h (by decide), fun _ => ?_⟩
    refine ⟨fun _ => ?_, fun h => absurd (by decide) h⟩
    refine ⟨0, rfl, by omega, ?_⟩
    refine (hb _).use ?_
    refine ⟨0, rfl, by omega, ?_⟩
    refine ⟨fun _ => ?_, fun h => absurd (by decide) h⟩
    refine ⟨0, rfl, by omega, ?_⟩
    refine ⟨fun h => absurd (show vp_nar .boolean 1 = 0 from h) (by decide +kernel), fun _ => ?_⟩
    refine ⟨fun _ => ?_, fun h => absurd (by decide) h⟩
    refine ⟨1, rfl, by omega, ?_⟩
    refine ⟨fun h => ?_, fun h => absurd g1 h⟩
    refine ⟨fun h => absurd h (by decide), fun _ => ?_⟩
    exact ⟨rfl, rfl, rfl, rfl, rfl⟩
  · have hb := fun d => c_become (RO := RO) (d := d) (sb := sb) (ext := ext) (x := 31) (y := 12) (by decide) hT hw.1 hw.2.1 hw.2.2
    refine EvP.wp [] 60 rfl ?_
    refine EvP.wp [] 60 rfl ?_
    refine ⟨fun h => absurd h (by decide), fun _ => ?_⟩
    refine ⟨fun _ => ?_, fun h => absurd (by decide) h⟩
    refine ⟨1, rfl, by omega, ?_⟩
    refine (hb _).use ?_
    refine ⟨1, rfl, by omega, ?_⟩
    refine ⟨fun _ => ?_, fun h => absurd (by decide) h⟩
    refine ⟨0, rfl, by omega, ?_⟩
    refine ⟨fun h => ?_, fun h => absurd g0 h⟩
    refine ⟨fun _ => ?_, fun h => absurd (by decide) h⟩
    refine ⟨1, rfl, by omega, ?_⟩
    refine ⟨fun h => absurd (show vp_nar .boolean 1 = 0 from h) (by decide +kernel), fun _ => ?_⟩
    refine ⟨fun h => absurd h (by decide), fun _ => ?_⟩
    exact ⟨rfl, rfl, rfl, rfl, rfl⟩
end UND
