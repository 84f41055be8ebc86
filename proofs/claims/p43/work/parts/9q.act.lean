/-! an act, drawn -/
section ACTC
variable {RO : List mE} {d : Nat} {X : List sh} {M : mM} {Q : mQ} {m S t nx c D : Nat} {N : Nat → Int32}
theorem act_sw {i k : Nat} {p : Int32} (hT : TrN M 12 N m S t) (hR : rOk N m S t) (hv : vOk N S) (hw : widOk M 40) (hH : I_his M nx c) (hD : N 6 = Int32.ofNat D) (hD9 : D ≤ 9900) (hi : i < m) (hA : AQ Q (gW 143 (.inl (1, 1) :: X)) M N m S t D) (hk : S = 0 ∧ k = 0 ∧ p = -1 ∨ 0 < S ∧ k < S ∧ p = N (63 + 8 * k + 3)) {j : Nat} (hj : j < 10) : GoP RO (d + 9) 353 [.ref 0, .ref 145, .int (Int32.ofNat m), .int (Int32.ofNat S), .int (Int32.ofNat t), .int (Int32.ofNat i), .int (Int32.ofNat k), .int p, .retAddr 0, .retAddr 0, .retAddr 0, .retAddr 0, .retAddr 0, .retAddr 0, .retAddr 0, .retAddr 0, .retAddr 0, .retAddr 0, .retAddr 0, .retAddr 0, .retAddr 0, .retAddr 0, .retAddr 0, .retAddr 0, .retAddr 0, .retAddr 0, .retAddr 0, .retAddr 0, .retAddr 0] [.int (Int32.ofNat j)] (gW 143 (.inl (1, 1) :: X)) M 68 0 0 Q := by
  rcases (show j = 0 ∨ j = 1 ∨ j = 2 ∨ j = 3 ∨ j = 4 ∨ j = 5 ∨ j = 6 ∨ j = 7 ∨ j = 8 ∨ j = 9 by omega) with rfl | rfl | rfl | rfl | rfl | rfl | rfl | rfl | rfl | rfl
  · refine wp_sound [883, 120, 253, 312, 384, 504, 722, 802] 5 _ _ _ _ _ _ _ ?_
    refine ⟨fun _ => ?_, fun h => absurd (by decide) h⟩
    exact act_1 hT hR hv hw hH hD hD9 hi hA hk
  · refine wp_sound [883, 120, 253, 312, 384, 504, 722, 802] 5 _ _ _ _ _ _ _ ?_
    refine ⟨fun h => absurd h (by decide), fun _ => ?_⟩
    refine ⟨fun _ => ?_, fun h => absurd (by decide) h⟩
    exact act_1 hT hR hv hw hH hD hD9 hi hA hk
  · refine wp_sound [883, 120, 253, 312, 384, 504, 722, 802] 5 _ _ _ _ _ _ _ ?_
    refine ⟨fun h => absurd h (by decide), fun _ => ?_⟩
    refine ⟨fun h => absurd h (by decide), fun _ => ?_⟩
    refine ⟨fun _ => ?_, fun h => absurd (by decide) h⟩
    exact act_2 hT hR hv hw hH hD hD9 hi hA hk
  · refine wp_sound [883, 120, 253, 312, 384, 504, 722, 802] 5 _ _ _ _ _ _ _ ?_
    refine ⟨fun h => absurd h (by decide), fun _ => ?_⟩
    refine ⟨fun h => absurd h (by decide), fun _ => ?_⟩
    refine ⟨fun h => absurd h (by decide), fun _ => ?_⟩
    refine ⟨fun _ => ?_, fun h => absurd (by decide) h⟩
    exact act_3 hT hR hv hw hH hD hD9 hi hA hk
  · refine wp_sound [883, 120, 253, 312, 384, 504, 722, 802] 5 _ _ _ _ _ _ _ ?_
    refine ⟨fun h => absurd h (by decide), fun _ => ?_⟩
    refine ⟨fun h => absurd h (by decide), fun _ => ?_⟩
    refine ⟨fun h => absurd h (by decide), fun _ => ?_⟩
    refine ⟨fun h => absurd h (by decide), fun _ => ?_⟩
    refine ⟨fun _ => ?_, fun h => absurd (by decide) h⟩
    exact act_4 hT hR hv hw hH hD hD9 hi hA hk
  · refine wp_sound [883, 120, 253, 312, 384, 504, 722, 802] 5 _ _ _ _ _ _ _ ?_
    refine ⟨fun h => absurd h (by decide), fun _ => ?_⟩
    refine ⟨fun h => absurd h (by decide), fun _ => ?_⟩
    refine ⟨fun h => absurd h (by decide), fun _ => ?_⟩
    refine ⟨fun h => absurd h (by decide), fun _ => ?_⟩
    refine ⟨fun h => absurd h (by decide), fun _ => ?_⟩
    refine ⟨fun _ => ?_, fun h => absurd (by decide) h⟩
    exact act_5 hT hR hv hw hH hD hD9 hi hA hk
  · refine wp_sound [883, 120, 253, 312, 384, 504, 722, 802] 5 _ _ _ _ _ _ _ ?_
    refine ⟨fun h => absurd h (by decide), fun _ => ?_⟩
    refine ⟨fun h => absurd h (by decide), fun _ => ?_⟩
    refine ⟨fun h => absurd h (by decide), fun _ => ?_⟩
    refine ⟨fun h => absurd h (by decide), fun _ => ?_⟩
    refine ⟨fun h => absurd h (by decide), fun _ => ?_⟩
    refine ⟨fun h => absurd h (by decide), fun _ => ?_⟩
    refine ⟨fun _ => ?_, fun h => absurd (by decide) h⟩
    exact act_5 hT hR hv hw hH hD hD9 hi hA hk
  · refine wp_sound [883, 120, 253, 312, 384, 504, 722, 802] 5 _ _ _ _ _ _ _ ?_
    refine ⟨fun h => absurd h (by decide), fun _ => ?_⟩
    refine ⟨fun h => absurd h (by decide), fun _ => ?_⟩
    refine ⟨fun h => absurd h (by decide), fun _ => ?_⟩
    refine ⟨fun h => absurd h (by decide), fun _ => ?_⟩
    refine ⟨fun h => absurd h (by decide), fun _ => ?_⟩
    refine ⟨fun h => absurd h (by decide), fun _ => ?_⟩
    refine ⟨fun h => absurd h (by decide), fun _ => ?_⟩
    refine ⟨fun _ => ?_, fun h => absurd (by decide) h⟩
    exact act_7 hT hR hv hw hH hD hD9 hi hA hk
  · refine wp_sound [883, 120, 253, 312, 384, 504, 722, 802] 5 _ _ _ _ _ _ _ ?_
    refine ⟨fun h => absurd h (by decide), fun _ => ?_⟩
    refine ⟨fun h => absurd h (by decide), fun _ => ?_⟩
    refine ⟨fun h => absurd h (by decide), fun _ => ?_⟩
    refine ⟨fun h => absurd h (by decide), fun _ => ?_⟩
    refine ⟨fun h => absurd h (by decide), fun _ => ?_⟩
    refine ⟨fun h => absurd h (by decide), fun _ => ?_⟩
    refine ⟨fun h => absurd h (by decide), fun _ => ?_⟩
    refine ⟨fun h => absurd h (by decide), fun _ => ?_⟩
    refine ⟨fun _ => ?_, fun h => absurd (by decide) h⟩
    exact act_8 hT hR hv hw hH hD hD9 hi hA hk
  · refine wp_sound [883, 120, 253, 312, 384, 504, 722, 802] 5 _ _ _ _ _ _ _ ?_
    refine ⟨fun h => absurd h (by decide), fun _ => ?_⟩
    refine ⟨fun h => absurd h (by decide), fun _ => ?_⟩
    refine ⟨fun h => absurd h (by decide), fun _ => ?_⟩
    refine ⟨fun h => absurd h (by decide), fun _ => ?_⟩
    refine ⟨fun h => absurd h (by decide), fun _ => ?_⟩
    refine ⟨fun h => absurd h (by decide), fun _ => ?_⟩
    refine ⟨fun h => absurd h (by decide), fun _ => ?_⟩
    refine ⟨fun h => absurd h (by decide), fun _ => ?_⟩
    refine ⟨fun h => absurd h (by decide), fun _ => ?_⟩
    exact act_9 hT hR hv hw hH hD hD9 hi hA hk
theorem c_act (hT : TrN M 12 N m S t) (hR : rOk N m S t) (hv : vOk N S) (hw : widOk M 40) (hH : I_his M nx c) (hD : N 6 = Int32.ofNat D) (hD9 : D ≤ 9900) (hm1 : 0 < m) (hA : AQ Q (gW 143 (.inl (1, 1) :: X)) M N m S t D) : EvP RO (d + 10) 353 [.ref 0, .ref 145] (gW 143 (.inl (1, 1) :: X)) M Q := by
  have hm := hR.1.1.2.2.2.1
  have hS := hR.1.1.2.2.2.2.1
  have hmz := ne_zero hm1 (by omega)
  refine EvP.wp [68] 90 rfl ?_
  refine (a_v0 hT).use ?_
  refine (a_v1 hT).use ?_
  refine (a_v6 hT).use ?_
  refine c_next (fun n1 M1 hn1 g1 => ?_)
  refine ⟨hmz, ?_⟩
  rw [rem_sub (n := n1) (k := m) (by omega) hm1 (by omega)]
  have f1 := FrL.nx g1
  have hi := Nat.mod_lt n1 hm1
  rcases Nat.eq_zero_or_pos S with h0 | h0
  · subst h0
    refine ⟨fun _ => ?_, fun h => absurd (by decide) h⟩
    refine ⟨fun _ => ?_, fun h => absurd (by decide) h⟩
    refine c_next (fun n2 M2 hn2 g2 => ?_)
    refine ⟨by decide, ?_⟩
    rw [show Int32.ofNat n2 - Int32.ofNat n2 / 10 * 10 = Int32.ofNat (n2 % 10) from rem_sub (k := 10) (by omega) (by omega) (by omega)]
    have f2 := f1.trans (FrL.nx g2)
    exact act_sw (k := 0) (f2.Tr hT) hR hv (f2.wid hw) (f2.his hH) hD hD9 hi (hA.L f2) (Or.inl ⟨rfl, rfl, rfl⟩) (Nat.mod_lt n2 (by omega))
  · have w0 : ¬ Int32.ofNat S = 0 := ne_zero h0 (by omega)
    refine ⟨fun h => absurd h w0, fun _ => ?_⟩
    refine c_next (fun n3 M3 hn3 g3 => ?_)
    refine ⟨w0, ?_⟩
    rw [rem_sub (n := n3) (k := S) (by omega) h0 (by omega)]
    have f3 := f1.trans (FrL.nx g3)
    have hk := Nat.mod_lt n3 h0
    refine ⟨fun h => absurd h w0, fun _ => ?_⟩
    refine (a_sack (w := 3) (f3.Tr hT) hR hk (by omega)).use ?_
    refine c_next (fun n2 M2 hn2 g2 => ?_)
    refine ⟨by decide, ?_⟩
    rw [show Int32.ofNat n2 - Int32.ofNat n2 / 10 * 10 = Int32.ofNat (n2 % 10) from rem_sub (k := 10) (by omega) (by omega) (by omega)]
    have f2 := f3.trans (FrL.nx g2)
    exact act_sw (f2.Tr hT) hR hv (f2.wid hw) (f2.his hH) hD hD9 hi (hA.L f2) (Or.inr ⟨h0, hk, rfl⟩) (Nat.mod_lt n2 (by omega))
end ACTC
