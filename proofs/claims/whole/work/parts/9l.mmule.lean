/-! the reference's lines: a mule -/
section MLIN
variable {RO : List mE} {d n sb : Nat} {ext : List sh} {M : mM} {Q : mQ} {B : Nat → Nat} {N : Nat → Int32} {m S t : Nat}
theorem e_pmule {e : Nat} (hL : LM M n B N m S t e) (hQ : LQM Q (gW sb ext) M n B (pMule B n (skp B n e) (tokE B n e) N m S t)) : EvP RO (d + 8) 198 [.ref 145] (gW sb ext) M Q := by
  obtain ⟨hP, hK, he, hT, hk, h0, rfl, hR⟩ := hL
  obtain ⟨hok, her⟩ := hQ
  have hn7 := hP.1
  have hm := hR.1.1.2.2.2.1
  have e3 := hR.1.1.1
  have hte := tokE_le (B := B) he
  refine EvP.wp [118] 60 rfl ?_
  refine ⟨3, rfl, by omega, ?_⟩
  refine eq_if (b := 6) e3 rfl (by omega) (by omega) (fun hm6 => ?_) (fun hm6 => ?_)
  · have hE := er_errs (M := M) (k := 5) hT.1 (by omega) (by omega)
    refine (e_errs (x := Int32.ofNat 5) h0).use ?_
    exact her 5 _ _ (by rw [pMule, if_pos hm6]) (hE.V FrV.refl)
  refine e_nextT hP he hT (fun M2 f12 t2 => ?_)
  rw [hk] at t2
  have t2 : MT M2 B n (tokE B n e) true := t2
  have hO2 := f12.ok h0
  have x2 : M2 149 = M 149 := f12.1 149 (by decide)
  refine (e_isName (f12.P hP) hte.2 t2).use ?_
  refine zb_if (fun hn => ?_) (fun hn => ?_)
  · have hn := of_decide_eq_false hn
    have hE := er_errs (M := M2) (k := 1) t2.1 (by omega) (by omega)
    refine (e_errs (x := Int32.ofNat 1) hO2).use ?_
    exact her 1 _ _ (by simp only [pMule, if_neg hm6, pName, if_neg hn]) (hE.V f12.Y.V)
  have hn := of_decide_eq_true hn
  have hle := tok1_le hte.2 hn.1
  have hlet := (tok_1 hte.2 hn.1).2.2
  have p3 : pName B n (tokE B n e) true = .inr (skp B n (tokE B n e), tokE B n (tokE B n e)) := by rw [pName, if_pos hn]
  have hq := fun d => e_muleHere (RO := RO) (d := d) (sb := sb) (ext := ext) (M := M2) (m := m) (s := skp B n (tokE B n e)) (p := tokE B n (tokE B n e)) (f12.P hP) (by rw [x2]; exact e3) hm (by rw [x2]; exact hR.2.2.2.2) t2.1 t2.2.1 (by omega) hle.2 hn.2 (fun j a b => kd1 (hlet j a b))
  rw [x2] at hq
  by_cases hix : mulIx B (skp B n (tokE B n e)) (tokE B n (tokE B n e)) (M 149) m < m
  · have hmv : mulV B (skp B n (tokE B n e)) (tokE B n (tokE B n e)) (M 149) m = Int32.ofNat (mulIx B (skp B n (tokE B n e)) (tokE B n (tokE B n e)) (M 149) m) := if_pos hix
    simp only [hmv] at hq
    refine (hq _).use ?_
    refine ⟨fun h => absurd h (i_ne_m1 (by omega)), fun _ => ?_⟩
    have hE := er_errs (M := M2) (k := 4) t2.1 (by omega) (by omega)
    refine (e_errs (x := Int32.ofNat 4) hO2).use ?_
    exact her 4 _ _ (by simp only [pMule, if_neg hm6, p3, if_pos hix]) (hE.V f12.Y.V)
  have hmv : mulV B (skp B n (tokE B n e)) (tokE B n (tokE B n e)) (M 149) m = -1 := if_neg hix
  simp only [hmv] at hq
  refine (hq _).use ?_
  refine ⟨fun _ => ?_, fun h => absurd rfl h⟩
  have hlen : M2 145 21 - M2 145 20 = Int32.ofNat (tokE B n (tokE B n e) - skp B n (tokE B n e)) := by rw [t2.2.1, t2.1, i_sub (by omega)]
  refine e_nextT (f12.P hP) hte.2 t2 (fun M3 f3 t3 => ?_)
  rw [hn.1] at t3
  have t3 : MT M3 B n (tokE B n (tokE B n e)) true := t3
  have f13 := f12.trans f3
  refine e_num (f13.P hP) hle.2 t3 (f13.ok h0) (fun v e4 M4 p4 f4 t4 => ?_) (fun k x M4 p4 hE => ?_)
  rotate_left
  · have hno := hE.no
    refine ⟨fun h => absurd h hno, fun _ => ?_⟩
    exact her k x _ (by simp only [pMule, if_neg hm6, p3, if_neg hix, p4]) (hE.V f13.Y.V)
  have f14 := f13.trans f4
  have x4 : M4 149 = M 149 := f14.1 149 (by decide)
  have hP4 := f14.P hP
  have hr : pMule B n (skp B n e) (tokE B n e) (M 149) m S t = .inr (newMuleN B (skp B n (tokE B n e)) (tokE B n (tokE B n e)) (M 149) m v, m + 1, S, t, e4) := by simp only [pMule, if_neg hm6, p3, if_neg hix, p4]
  have fin := fun M' => hok _ _ _ _ _ M' hr
  clear hok her hq hmv
  refine ⟨fun _ => ?_, fun h => absurd (f14.ok h0) h⟩
  have h3 : M4 149 3 = Int32.ofNat m := by rw [x4]; exact e3
  have hmm : ∀ d, EvR RO (d + 1) 183 [.int (M4 149 3)] (gW sb ext) M4 (some (.int (Int32.ofNat (15 + 8 * m)))) M4 := fun d => by
    rw [h3]; exact e_m
  refine ⟨3, rfl, by omega, ?_⟩
  refine (hmm _).use ?_
  refine ⟨15 + 8 * m, i_add _ 0, by omega, ?_⟩
  refine ⟨15 + 8 * m + 1, i_add _ 1, by omega, ?_⟩
  -- the six letters
  have loop := up_ind (S := 6) (H := fun k => ∀ F : Nat → Int32, (∀ j, F j = if 15 + 8 * m + 2 ≤ j ∧ j < 15 + 8 * m + 2 + k then (if j - (15 + 8 * m + 2) < tokE B n (tokE B n e) - skp B n (tokE B n e) then Int32.ofNat (B (skp B n (tokE B n e) + (j - (15 + 8 * m + 2)))) else 0) else if j = 15 + 8 * m then v else if j = 15 + 8 * m + 1 then 0 else M 149 j) → GoP RO (d + 7) 198 [.ref 145, .int (M2 145 20), .int (M2 145 21 - M2 145 20), .int v, .int (Int32.ofNat (15 + 8 * m)), .int (Int32.ofNat k)] [] (gW sb ext) (upM M4 149 F) 118 0 0 Q) (fun F hF => ?_) (fun k hk6 ih F hF => ?_) 0 (by omega)
  · refine GoP.eq2 (loop (upd (upd (M4 149) (15 + 8 * m) v) (15 + 8 * m + 1) 0) (fun j => ?_)) rfl ?_
    · rw [if_neg (by omega)]
      by_cases q1 : j = 15 + 8 * m + 1
      · rw [q1, upd_at, if_neg (by omega), if_pos rfl]
      · rw [upd_ne q1]
        by_cases q0 : j = 15 + 8 * m
        · rw [q0, upd_at, if_pos rfl]
        · rw [upd_ne q0, if_neg q0, if_neg q1, x4]
    · simp only [upM_at, upM_upM]
  · refine wp_sound [118] 60 _ _ _ _ _ _ _ ?_
    refine lt_if (b := 6) rfl rfl (by omega) (by omega) (fun h => absurd h (by omega)) (fun _ => ?_)
    refine ⟨3, rfl, by omega, ?_⟩
    refine ⟨3, rfl, by omega, ?_⟩
    have hF3 : F 3 = Int32.ofNat m := by rw [hF, if_neg (by omega), if_neg (by omega), if_neg (by omega)]; exact e3
    have hfun : upd F 3 (F 3 + 1) = newMuleN B (skp B n (tokE B n e)) (tokE B n (tokE B n e)) (M 149) m v := by
      funext j
      rw [newMuleN]
      by_cases q3 : j = 3
      · rw [q3, upd_at, hF3, i_inc, if_neg (by omega), if_neg (by omega), if_neg (by omega), if_pos rfl]
      · rw [upd_ne q3, hF]
        by_cases q0 : j = 15 + 8 * m
        · rw [if_neg (by omega), if_pos q0, if_pos q0]
        · by_cases q1 : j = 15 + 8 * m + 1
          · rw [if_neg (by omega), if_neg q0, if_pos q1, if_neg q0, if_pos q1]
          · by_cases q2 : 15 + 8 * m + 2 ≤ j ∧ j < 15 + 8 * m + 8
            · rw [if_pos (by omega), if_neg q0, if_neg q1, if_pos q2]
            · rw [if_neg (by omega), if_neg q0, if_neg q1, if_neg q0, if_neg q1, if_neg q2, if_neg q3]
    have h9 := fin (upM M4 149 (upd F 3 (F 3 + 1))) f14.Y.V.st (by rw [upM_ne (by decide)]; exact f14.ok h0) (by rw [upM_at, hfun]) (MT_fr t4 (upM_ne (by decide)))
    refine Q_of h9 rfl ?_
    simp only [upM_at, upM_upM]
  · have put : ∀ x : Int32, x = (if k < tokE B n (tokE B n e) - skp B n (tokE B n e) then Int32.ofNat (B (skp B n (tokE B n e) + k)) else 0) → GoP RO (d + 7) 198 [.ref 145, .int (M2 145 20), .int (M2 145 21 - M2 145 20), .int v, .int (Int32.ofNat (15 + 8 * m)), .int (Int32.ofNat k + 1)] [] (gW sb ext) (upM (upM M4 149 F) 149 (upd (upM M4 149 F 149) (15 + 8 * m + 2 + k) x)) 118 0 0 Q := fun x hx => by
      refine GoP.eq2 (ih (upd F (15 + 8 * m + 2 + k) x) (fun j => ?_)) (by rw [i_inc]) (by simp only [upM_at, upM_upM])
      by_cases q : j = 15 + 8 * m + 2 + k
      · rw [q, upd_at, if_pos (by omega), show 15 + 8 * m + 2 + k - (15 + 8 * m + 2) = k by omega]
        exact hx
      · rw [upd_ne q, hF]
        by_cases q2 : 15 + 8 * m + 2 ≤ j ∧ j < 15 + 8 * m + 2 + k
        · rw [if_pos q2, if_pos (by omega : 15 + 8 * m + 2 ≤ j ∧ j < 15 + 8 * m + 2 + (k + 1))]
        · rw [if_neg q2, if_neg (by omega : ¬ (15 + 8 * m + 2 ≤ j ∧ j < 15 + 8 * m + 2 + (k + 1)))]
    have hidx : Int32.ofNat (15 + 8 * m) + 2 + Int32.ofNat k = Int32.ofNat (15 + 8 * m + 2 + k) := by rw [show (2 : Int32) = Int32.ofNat 2 from rfl, i_add, i_add]
    refine wp_sound [118] 60 _ _ _ _ _ _ _ ?_
    refine lt_if (b := 6) rfl rfl (by omega) (by omega) (fun _ => ?_) (fun h => absurd h (by omega))
    refine lt_if rfl hlen (by omega) (by omega) (fun h => ?_) (fun h => ?_)
    · have hb := hP4.2.2 (skp B n (tokE B n e) + k) (by omega)
      have hl := kd1 (hlet (skp B n (tokE B n e) + k) (by omega) (by omega))
      refine ⟨skp B n (tokE B n e) + k, by rw [t2.1, i_add], by omega, ?_⟩
      refine ⟨15 + 8 * m + 2 + k, hidx, by omega, ?_⟩
      exact put _ (by rw [upM_ne (by decide), hb.1, sgB, if_pos (by omega), if_pos h])
    · refine ⟨15 + 8 * m + 2 + k, hidx, by omega, ?_⟩
      exact put 0 (by rw [if_neg (by omega)])
end MLIN
