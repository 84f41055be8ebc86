/-! the class's lines: a sack packed -/
section LIN
variable {hs f : Nat → Int32} {d len n : Nat} {c9 : sh} {r9 : List sh} {M : mM} {Q : mQ} {B : Nat → Nat} {N : Nat → Int32} {m S t : Nat}
theorem tok1_le {e : Nat} {lr : Bool} (he : e ≤ n) (h : tokK B n e lr = 1) : skp B n e < tokE B n e ∧ tokE B n e ≤ n := by
  obtain ⟨h1, h2, h3⟩ := tok_1 he h
  refine ⟨?_, (tokE_le he).2⟩
  by_cases hk : kd (B (skp B n e)) = 1
  · rw [h2]; exact run_gt h1 hk
  · by_cases hk2 : kd (B (skp B n e)) = 2
    · rw [(tokK_2 (lr := lr) (by omega : skp B n e ≠ n) hk2).1] at h
      split at h
      · cases h
      · split at h <;> cases h
    · rw [(tokK_3 (lr := lr) (by omega : skp B n e ≠ n) hk hk2).1] at h
      exact absurd h hk
theorem c_ppack {e x0 : Nat} (hO3 : sacksOk N m S) (hL : LSt M n B N m S t e x0) (hQ : LQ Q (gX c9 r9) M n (pPack B n e N m S t)) : EvP (RO9 hs len f) (d + 8) 19 [.ref 1] (gX c9 r9) M Q := by
  have hG : pw (gX c9 r9) := pw_X
  obtain ⟨hP, hO, hT, hC, h5⟩ := hL
  obtain ⟨hok, her⟩ := hQ
  have hm := hT.1.2.2.2.1
  have hS := hT.1.2.2.2.2.1
  have hsub : M 4 2 - 1 = Int32.ofNat S - 1 := by rw [hT.2.2.1.2]
  have num : ∀ (d : Nat) (Q' : mQ), EvP (RO9 hs len f) (d + 4) 18 [.ref 1, .int 0, .int (Int32.ofNat S - 1)] (gX c9 r9) M Q' → EvP (RO9 hs len f) (d + 4) 18 [.ref 1, .int 0, .int (M 4 2 - 1)] (gX c9 r9) M Q' := fun d Q' h => by
    rw [hsub]; exact h
  refine EvP.wp [] 60 rfl ?_
  refine num _ _ ?_
  refine c_num hG hP hC hO.1 (fun v e1 M1 p1 f1 c1 => ?_) (fun k x M1 v p1 hE => ?_)
  rotate_left
  · have hno := hE.no
    refine (c_nameX hG hno).use ?_
    refine ⟨fun h => absurd h hno, fun _ => ?_⟩
    refine ⟨fun _ => ?_, fun h => absurd rfl h⟩
    refine (c_noteX hG hno).use ?_
    refine (c_sideX hG hno).use ?_
    refine ⟨fun h => absurd h hno, fun _ => ?_⟩
    exact her k x _ (by simp only [pPack, p1]) (hE.L FrT.refl hT)
  obtain ⟨v1, v2, -, -⟩ := pNum_in p1
  obtain ⟨i, hi, rfl⟩ := inB_n (n := S) (by omega) rfl (show inB v 0 (Int32.ofNat S - 1) = true by simp [inB, v1, v2])
  have hcl : (Int32.ofNat i).toNatClampNeg = i := clamp_nn (by omega)
  refine c_name hG (f1.P hP) c1 (f1.ok hO).1 (fun M2 p2 f2 c2 g5 g4 tk => ?_) (fun k x M2 p2 hE => ?_)
  rotate_left
  · have hno := hE.no
    refine ⟨fun h => absurd h hno, fun _ => ?_⟩
    refine ⟨fun _ => ?_, fun h => absurd rfl h⟩
    refine (c_noteX hG hno).use ?_
    refine (c_sideX hG hno).use ?_
    refine ⟨fun h => absurd h hno, fun _ => ?_⟩
    exact her k x _ (by simp only [pPack, p1, p2]) (hE.L f1 hT)
  have f12 := f1.trans f2
  have hle := tok1_le c1.2.1 tk
  have hq := fun d => c_muleOfName (RO := RO9 hs len f) (d := d) hG (f12.P hP) (f12.Tr hT) g5 g4 (by omega) hle.2
  refine ⟨fun _ => ?_, fun h => absurd (f12.ok hO).1 h⟩
  by_cases hix : mulIx B (skp B n e1) (tokE B n e1) N m < m
  · have hmv : mulV B (skp B n e1) (tokE B n e1) N m = Int32.ofNat (mulIx B (skp B n e1) (tokE B n e1) N m) := if_pos hix
    simp only [hmv] at hq
    refine (hq _).use ?_
    refine ⟨fun h => absurd h (i_ne_m1 (by omega)), fun _ => ?_⟩
    refine (c_reason bas_X (f12.Tr hT) hO3 hi hix).use ?_
    refine ⟨fun h0 => ?_, fun h0 => ?_⟩
    · refine c_side hG (f12.P hP) c2 (f12.ok hO).1 (fun sd e3 M3 p3 f3 c3 => ?_) (fun k x M3 v p3 hE => ?_)
      rotate_left
      · have hno := hE.no
        refine ⟨fun h => absurd h hno, fun _ => ?_⟩
        exact her k x _ (by simp only [pPack, p1, p2, if_pos hix, hcl, if_pos h0, p3]) (hE.L f12 hT)
      have f13 := f12.trans f3
      refine ⟨fun _ => ?_, fun h => absurd (f13.ok hO).1 h⟩
      refine c_putOn bas_X (f13.Tr hT) hi (fun M4 t4 f4 => ?_)
      exact hok _ _ _ _ _ M4 (by simp only [pPack, p1, p2, if_pos hix, hcl, if_pos h0, p3]) ⟨f13.X.Pr.trans f4.Pr, OkC_fr (f13.ok hO) (f4 1 (by omega)), t4, CR_fr c3 (f4 1 (by omega))⟩
    · have hE := er_note (M := M) (M1 := M2) (k := 6) f12 g5 (by omega) (by omega)
      refine (c_note (x := Int32.ofNat 6) hG (f12.ok hO).1).use ?_
      have hno := hE.no
      refine (c_sideX hG hno).use ?_
      refine ⟨fun h => absurd h hno, fun _ => ?_⟩
      exact her 6 _ _ (by simp only [pPack, p1, p2, if_pos hix, hcl, if_neg h0]) (hE.L FrT.refl hT)
  · have hmv : mulV B (skp B n e1) (tokE B n e1) N m = -1 := if_neg hix
    simp only [hmv] at hq
    refine (hq _).use ?_
    refine ⟨fun _ => ?_, fun h => absurd rfl h⟩
    have hE := er_note (M := M) (M1 := M2) (k := 3) f12 g5 (by omega) (by omega)
    refine (c_note (x := Int32.ofNat 3) hG (f12.ok hO).1).use ?_
    have hno := hE.no
    refine (c_sideX hG hno).use ?_
    refine ⟨fun h => absurd h hno, fun _ => ?_⟩
    exact her 3 _ _ (by simp only [pPack, p1, p2, if_neg hix]) (hE.L FrT.refl hT)
end LIN
