/-! the reference's lines: packing, a mule -/
section MLIN
variable {RO : List mE} {d n sb : Nat} {ext : List sh} {M : mM} {Q : mQ} {B : Nat → Nat} {N : Nat → Int32} {m S t : Nat}
theorem pName_tok {e s p : Nat} {lr : Bool} (h : pName B n e lr = .inr (s, p)) : s = skp B n e ∧ p = tokE B n e ∧ tokK B n e lr = 1 ∧ tokE B n e - skp B n e ≤ 6 := by
  unfold pName at h
  split at h
  · rename_i hk
    injection h with h
    injection h with h1 h2
    exact ⟨h1.symm, h2.symm, hk⟩
  · cases h
theorem e_ppack {e : Nat} (hL : LM M n B N m S t e) (hQ : LQM Q (gW sb ext) M n B (pPack B n (tokE B n e) N m S t)) : EvP RO (d + 8) 199 [.ref 145] (gW sb ext) M Q := by
  obtain ⟨hP, hK, he, hT, hk, h0, rfl, hR⟩ := hL
  obtain ⟨hok, her⟩ := hQ
  have hm := hR.1.1.2.2.2.1
  have hS := hR.1.1.2.2.2.2.1
  have e3 := hR.1.1.1
  have e4 := hR.1.1.2.1
  have hte := tokE_le (B := B) he
  refine EvP.wp [] 60 rfl ?_
  refine e_nextT hP he hT (fun M1 f1 t1 => ?_)
  rw [hk] at t1
  have t1 : MT M1 B n (tokE B n e) true := t1
  have x1 : M1 149 = M 149 := f1.1 149 (by decide)
  have num : ∀ (d : Nat) (Q' : mQ), EvP RO (d + 4) 221 [.ref 145, .int 0, .int (Int32.ofNat S - 1)] (gW sb ext) M1 Q' → EvP RO (d + 4) 221 [.ref 145, .int 0, .int (M1 149 4 - 1)] (gW sb ext) M1 Q' := fun d Q' h => by
    rw [x1, e4]; exact h
  refine ⟨4, rfl, by omega, ?_⟩
  refine num _ _ ?_
  refine e_num (f1.P hP) hte.2 t1 (f1.ok h0) (fun v e1 M2 p2 f2 t2 => ?_) (fun k x M2 p2 hE => ?_)
  rotate_left
  · have hno := hE.no
    refine ⟨fun h => absurd h hno, fun _ => ?_⟩
    refine ⟨fun h => absurd h hno, fun _ => ?_⟩
    refine ⟨fun h => absurd h hno, fun _ => ?_⟩
    refine ⟨fun h => absurd h hno, fun _ => ?_⟩
    refine (e_goesX hno).use ?_
    refine (e_oneX (q0 := 13) (cnt := 2) (by omega) hno).use ?_
    refine ⟨fun h => absurd h hno, fun _ => ?_⟩
    exact her k x _ (by simp only [pPack, p2]) (hE.V f1.Y.V)
  obtain ⟨v1, v2, -, -⟩ := pNum_in p2
  obtain ⟨i, hi, rfl⟩ := inB_n (n := S) (by omega) rfl (show inB v 0 (Int32.ofNat S - 1) = true by simp [inB, v1, v2])
  have hcl : (Int32.ofNat i).toNatClampNeg = i := clamp_nn (by omega)
  have g2 := pNum_gt hte.2 p2
  have f12 := f1.trans f2
  have hO2 := f12.ok h0
  have x2 : M2 149 = M 149 := f12.1 149 (by decide)
  refine ⟨fun _ => ?_, fun h => absurd hO2 h⟩
  refine (e_isName (f12.P hP) g2.2 t2).use ?_
  refine zb_if (fun hn => ?_) (fun hn => ?_)
  · have hn := of_decide_eq_false hn
    have hE := er_errs (M := M2) (k := 1) t2.1 (by omega) (by omega)
    refine (e_errs (x := Int32.ofNat 1) hO2).use ?_
    have hno := hE.no
    refine ⟨fun h => absurd h hno, fun _ => ?_⟩
    refine ⟨fun h => absurd h hno, fun _ => ?_⟩
    refine ⟨fun h => absurd h hno, fun _ => ?_⟩
    refine (e_goesX hno).use ?_
    refine (e_oneX (q0 := 13) (cnt := 2) (by omega) hno).use ?_
    refine ⟨fun h => absurd h hno, fun _ => ?_⟩
    exact her 1 _ _ (by simp only [pPack, p2, pName, if_neg hn]) (hE.V f12.Y.V)
  have hn := of_decide_eq_true hn
  have hle := tok1_le g2.2 hn.1
  have hlet := (tok_1 g2.2 hn.1).2.2
  have p3 : pName B n e1 true = .inr (skp B n e1, tokE B n e1) := by rw [pName, if_pos hn]
  have hq := fun d => e_muleHere (RO := RO) (d := d) (sb := sb) (ext := ext) (M := M2) (m := m) (s := skp B n e1) (p := tokE B n e1) (f12.P hP) (by rw [x2]; exact e3) hm (by rw [x2]; exact hR.2.2.2.2) t2.1 t2.2.1 (by omega) hle.2 hn.2 (fun j a b => kd1 (hlet j a b))
  rw [x2] at hq
  refine ⟨fun _ => ?_, fun h => absurd hO2 h⟩
  by_cases hix : mulIx B (skp B n e1) (tokE B n e1) (M 149) m < m
  · have hmv : mulV B (skp B n e1) (tokE B n e1) (M 149) m = Int32.ofNat (mulIx B (skp B n e1) (tokE B n e1) (M 149) m) := if_pos hix
    simp only [hmv] at hq
    refine (hq _).use ?_
    refine ⟨fun _ => ?_, fun h => absurd hO2 h⟩
    refine ⟨fun h => absurd h (i_ne_m1 (by omega)), fun _ => ?_⟩
    refine ⟨fun _ => ?_, fun h => absurd hO2 h⟩
    have hpr := fun d => e_packReason (RO := RO) (d := d) (sb := sb) (ext := ext) (M := M2) (k := i) (i := mulIx B (skp B n e1) (tokE B n e1) (M 149) m) hS (by rw [x2]; exact e4) (by omega) (by omega)
    rw [x2] at hpr
    refine (hpr _).use ?_
    refine ⟨fun hp => ?_, fun hp => ?_⟩
    · refine e_goes (f12.P hP) g2.2 t2 hO2 (fun M3 f3 t3 => ?_)
      rw [hn.1] at t3
      have t3 : MT M3 B n (tokE B n e1) true := t3
      have f13 := f12.trans f3
      refine e_one (q0 := 13) (cnt := 2) (by omega) (f13.P hP) (f13.Y.K hK) hle.2 t3 (f13.ok h0) (fun sd e4' M4 p4 f4 t4 => ?_) (fun k x M4 p4 hE => ?_)
      rotate_left
      · have hno := hE.no
        refine ⟨fun h => absurd h hno, fun _ => ?_⟩
        exact her k x _ (by simp only [pPack, p2, p3, if_pos hix, hcl, if_pos hp, p4]) (hE.V f13.Y.V)
      have f14 := f13.trans f4
      have x4 : M4 149 = M 149 := f14.1 149 (by decide)
      refine ⟨fun _ => ?_, fun h => absurd (f14.ok h0) h⟩
      refine (e_packs (k := i) (by omega)).use ?_
      have hr : pPack B n (tokE B n e) (M 149) m S t = .inr (packN (M 149) i (Int32.ofNat (mulIx B (skp B n e1) (tokE B n e1) (M 149) m)) (Int32.ofNat sd), m, S, t, e4') := by simp only [pPack, p2, p3, if_pos hix, hcl, if_pos hp, p4]
      exact hok _ _ _ _ _ _ hr f14.Y.V.st (by rw [upM_ne (by decide)]; exact f14.ok h0) (by rw [upM_at, x4]) (MT_fr t4 (upM_ne (by decide)))
    · have hE := er_errs (M := M2) (k := 6) t2.1 (by omega) (by omega)
      refine (e_errs (x := Int32.ofNat 6) hO2).use ?_
      have hno := hE.no
      refine (e_goesX hno).use ?_
      refine (e_oneX (q0 := 13) (cnt := 2) (by omega) hno).use ?_
      refine ⟨fun h => absurd h hno, fun _ => ?_⟩
      exact her 6 _ _ (by simp only [pPack, p2, p3, if_pos hix, hcl, if_neg hp]) (hE.V f12.Y.V)
  · have hmv : mulV B (skp B n e1) (tokE B n e1) (M 149) m = -1 := if_neg hix
    simp only [hmv] at hq
    refine (hq _).use ?_
    refine ⟨fun _ => ?_, fun h => absurd hO2 h⟩
    refine ⟨fun _ => ?_, fun h => absurd rfl h⟩
    have hE := er_errs (M := M2) (k := 3) t2.1 (by omega) (by omega)
    refine (e_errs (x := Int32.ofNat 3) hO2).use ?_
    have hno := hE.no
    refine ⟨fun h => absurd h hno, fun _ => ?_⟩
    refine (e_goesX hno).use ?_
    refine (e_oneX (q0 := 13) (cnt := 2) (by omega) hno).use ?_
    refine ⟨fun h => absurd h hno, fun _ => ?_⟩
    exact her 3 _ _ (by simp only [pPack, p2, p3, if_neg hix]) (hE.V f12.Y.V)
end MLIN
