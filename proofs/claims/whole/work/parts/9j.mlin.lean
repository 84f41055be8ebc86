/-! the reference's lines: sack, stage, rest, trip -/
def FrV (M M' : mM) : Prop := (∀ q, q ≠ 145 → q ≠ 149 → q ≠ 153 → M' q = M q) ∧ ∀ j, j < 19 → M' 145 j = M 145 j
theorem FrV.refl {M : mM} : FrV M M := ⟨fun _ _ _ _ => rfl, fun _ _ => rfl⟩
theorem FrV.trans {M M' M'' : mM} (h : FrV M M') (h' : FrV M' M'') : FrV M M'' := ⟨fun q a b c => (h'.1 q a b c).trans (h.1 q a b c), fun j a => (h'.2 j a).trans (h.2 j a)⟩
theorem FrY.V {M M' : mM} (h : FrY M M') : FrV M M' := ⟨fun q a _ _ => h.1 q a, h.2⟩
theorem FrV.st {M M' : mM} {F : Nat → Int32} (h : FrV M M') : FrV M (upM M' 149 F) := ⟨fun q a b c => by rw [upM_ne b]; exact h.1 q a b c, fun j a => by rw [upM_ne (by decide)]; exact h.2 j a⟩
theorem FrV.P {M M' : mM} {n : Nat} {B : Nat → Nat} (h : FrV M M') (hP : PM M n B) : PM M' n B := ⟨hP.1, by rw [h.2 18 (by omega)]; exact hP.2.1, fun j hj => by rw [h.1 155 (by decide) (by decide) (by decide)]; exact hP.2.2 j hj⟩
theorem FrV.K {M M' : mM} (h : FrV M M') (hK : I_key M) : I_key M' := key_fr hK (h.1 146 (by decide) (by decide) (by decide)) (h.1 147 (by decide) (by decide) (by decide)) (h.1 148 (by decide) (by decide) (by decide))
theorem MT_fr {M M' : mM} {B : Nat → Nat} {n e : Nat} {lr : Bool} (h : MT M B n e lr) (h1 : M' 145 = M 145) : MT M' B n e lr := by
  unfold MT
  rw [h1]
  exact h
def ErV (M M' : mM) (k x : Nat) : Prop := FrV M M' ∧ M' 145 23 = Int32.ofNat k ∧ M' 145 24 = Int32.ofNat x ∧ 0 < k ∧ k < 7
theorem ErM.V {M M1 M2 : mM} {k x : Nat} (h : ErM M1 M2 k x) (hF : FrV M M1) : ErV M M2 k x := ⟨hF.trans h.1.V, h.2⟩
/-- a line's word stands ahead -/
def LM (M : mM) (n : Nat) (B : Nat → Nat) (N : Nat → Int32) (m S t e : Nat) : Prop := PM M n B ∧ I_key M ∧ e ≤ n ∧ MT M B n e false ∧ tokK B n e false = 1 ∧ M 145 23 = 0 ∧ M 149 = N ∧ rOk N m S t
def LQM (Q : mQ) (GG : List sh) (M : mM) (n : Nat) (B : Nat → Nat) (r : PR) : Prop := (∀ N' m' S' t' e' M', r = .inr (N', m', S', t', e') → FrV M M' → M' 145 23 = 0 → M' 149 = N' → MT M' B n e' true → Q (.inl none) GG M' 0 0) ∧ ∀ k x M', r = .inl (k, x) → ErV M M' k x → Q (.inl none) GG M' 0 0
section MLIN
variable {RO : List mE} {d n sb : Nat} {ext : List sh} {M : mM} {Q : mQ} {B : Nat → Nat} {N : Nat → Int32} {m S t : Nat}
theorem e_psack {e : Nat} (hL : LM M n B N m S t e) (hQ : LQM Q (gW sb ext) M n B (pSack B n (skp B n e) (tokE B n e) N m S t)) : EvP RO (d + 8) 201 [.ref 145] (gW sb ext) M Q := by
  obtain ⟨hP, hK, he, hT, hk, h0, rfl, hR⟩ := hL
  obtain ⟨hok, her⟩ := hQ
  have hS := hR.1.1.2.2.2.2.1
  have e4 := hR.1.1.2.1
  have hte := tokE_le (B := B) he
  refine EvP.wp [] 60 rfl ?_
  refine ⟨4, rfl, by omega, ?_⟩
  refine eq_if (b := 16) e4 rfl (by omega) (by omega) (fun hS16 => ?_) (fun hS16 => ?_)
  · have hE := er_errs (M := M) (k := 5) hT.1 (by omega) (by omega)
    refine (e_errs (x := Int32.ofNat 5) h0).use ?_
    exact her 5 _ _ (by rw [pSack, if_pos hS16]) (hE.V FrV.refl)
  refine e_nextT hP he hT (fun M1 f1 t1 => ?_)
  rw [hk] at t1
  have t1 : MT M1 B n (tokE B n e) true := t1
  refine e_one (q0 := 9) (cnt := 4) (by omega) (f1.P hP) (f1.Y.K hK) hte.2 t1 (f1.ok h0) (fun kd e1 M2 p2 f2 t2 => ?_) (fun k x M2 p2 hE => ?_)
  rotate_left
  · have hno := hE.no
    refine (e_numX hno).use ?_
    refine (e_numX hno).use ?_
    refine ⟨fun h => absurd h hno, fun _ => ?_⟩
    exact her k x _ (by simp only [pSack, if_neg hS16, p2]) (hE.V f1.Y.V)
  have f12 := f1.trans f2
  have g2 := pWord_in hte.2 p2
  refine e_num (f12.P hP) g2.2.2 t2 (f12.ok h0) (fun w e2 M3 p3 f3 t3 => ?_) (fun k x M3 p3 hE => ?_)
  rotate_left
  · have hno := hE.no
    refine (e_numX hno).use ?_
    refine ⟨fun h => absurd h hno, fun _ => ?_⟩
    exact her k x _ (by simp only [pSack, if_neg hS16, p2, p3]) (hE.V f12.Y.V)
  have f13 := f12.trans f3
  have g3 := pNum_gt g2.2.2 p3
  refine e_num (f13.P hP) g3.2 t3 (f13.ok h0) (fun v e3 M4 p4 f4 t4 => ?_) (fun k x M4 p4 hE => ?_)
  rotate_left
  · have hno := hE.no
    refine ⟨fun h => absurd h hno, fun _ => ?_⟩
    exact her k x _ (by simp only [pSack, if_neg hS16, p2, p3, p4]) (hE.V f13.Y.V)
  have f14 := f13.trans f4
  have e149 : M4 149 = M 149 := f14.1 149 (by decide)
  refine ⟨fun _ => ?_, fun h => absurd (f14.ok h0) h⟩
  refine (e_brings (k := S) (by omega) (by rw [e149]; exact e4)).use ?_
  have hr : pSack B n (skp B n e) (tokE B n e) (M 149) m S t = .inr (bringsN (M 149) S (Int32.ofNat kd) w v, m, S + 1, t, e3) := by simp only [pSack, if_neg hS16, p2, p3, p4]
  exact hok _ _ _ _ _ _ hr f14.Y.V.st (by rw [upM_ne (by decide)]; exact f14.ok h0) (by rw [upM_at, e149]) (MT_fr t4 (upM_ne (by decide)))
theorem e_pstage {e k : Nat} (hk3 : k < 3) (hL : LM M n B N m S t e) (hQ : LQM Q (gW sb ext) M n B (pStage B n (skp B n e) (tokE B n e) k N m S t)) : EvP RO (d + 8) 202 [.ref 145, .int (Int32.ofNat k)] (gW sb ext) M Q := by
  obtain ⟨hP, hK, he, hT, hk, h0, rfl, hR⟩ := hL
  obtain ⟨hok, her⟩ := hQ
  have ht := hR.1.1.2.2.2.2.2.1
  have e5 := hR.1.1.2.2.1
  have hte := tokE_le (B := B) he
  refine EvP.wp [] 60 rfl ?_
  refine ⟨5, rfl, by omega, ?_⟩
  refine eq_if (b := 8) e5 rfl (by omega) (by omega) (fun ht8 => ?_) (fun ht8 => ?_)
  · have hE := er_errs (M := M) (k := 5) hT.1 (by omega) (by omega)
    refine (e_errs (x := Int32.ofNat 5) h0).use ?_
    exact her 5 _ _ (by rw [pStage, if_pos ht8]) (hE.V FrV.refl)
  refine e_nextT hP he hT (fun M1 f1 t1 => ?_)
  rw [hk] at t1
  have t1 : MT M1 B n (tokE B n e) true := t1
  have hK1 := f1.Y.K hK
  have hmost : M1 147 k = mostL k := by
    obtain ⟨-, -, k0, k1, k2⟩ := hK1
    rcases (show k = 0 ∨ k = 1 ∨ k = 2 by omega) with rfl | rfl | rfl
    · exact k0
    · exact k1
    · exact k2
  refine ⟨k, rfl, by omega, ?_⟩
  rw [hmost]
  refine e_num (f1.P hP) hte.2 t1 (f1.ok h0) (fun v e2 M2 p2 f2 t2 => ?_) (fun k' x M2 p2 hE => ?_)
  rotate_left
  · have hno := hE.no
    refine ⟨fun h => absurd h hno, fun _ => ?_⟩
    exact her k' x _ (by simp only [pStage, if_neg ht8, p2]) (hE.V f1.Y.V)
  have f12 := f1.trans f2
  have e149 : M2 149 = M 149 := f12.1 149 (by decide)
  refine ⟨fun _ => ?_, fun h => absurd (f12.ok h0) h⟩
  refine (e_leads (k := t) (by omega) (by rw [e149]; exact e5)).use ?_
  have hr : pStage B n (skp B n e) (tokE B n e) k (M 149) m S t = .inr (leadsN (M 149) t (Int32.ofNat k) v, m, S, t + 1, e2) := by simp only [pStage, if_neg ht8, p2]
  exact hok _ _ _ _ _ _ hr f12.Y.V.st (by rw [upM_ne (by decide)]; exact f12.ok h0) (by rw [upM_at, e149]) (MT_fr t2 (upM_ne (by decide)))
theorem e_prest {e : Nat} (hL : LM M n B N m S t e) (hQ : LQM Q (gW sb ext) M n B (pRest B n (tokE B n e) N m S t)) : EvP RO (d + 8) 200 [.ref 145] (gW sb ext) M Q := by
  obtain ⟨hP, hK, he, hT, hk, h0, rfl, hR⟩ := hL
  obtain ⟨hok, her⟩ := hQ
  have hm := hR.1.1.2.2.2.1
  have e3 := hR.1.1.1
  have hte := tokE_le (B := B) he
  refine EvP.wp [30] 60 rfl ?_
  refine e_nextT hP he hT (fun M1 f1 t1 => ?_)
  rw [hk] at t1
  have t1 : MT M1 B n (tokE B n e) true := t1
  have e149 : M1 149 = M 149 := f1.1 149 (by decide)
  have num : ∀ v1, GoP RO (d + 7) 200 [.ref 145, .int v1, .retAddr 0] [.int (restMost (M 149)), .int 1, .ref 145] (gW sb ext) M1 30 0 0 Q := by
    intro v1
    refine wp_sound [] 60 _ _ _ _ _ _ _ ?_
    refine e_num (f1.P hP) hte.2 t1 (f1.ok h0) (fun v e2 M2 p2 f2 t2 => ?_) (fun k' x M2 p2 hE => ?_)
    rotate_left
    · have hno := hE.no
      have x149 : M2 149 = M1 149 := hE.1.1 149 (by decide)
      refine ⟨fun h => absurd h hno, fun _ => ?_⟩
      refine (e_rests (m := m) (D := 0) hm (by omega) (by rw [x149, e149]; exact e3)).use ?_
      exact her k' x _ (by simp only [pRest, p2]) ⟨(f1.Y.V.trans hE.1.V).st, by rw [upM_ne (by decide)]; exact hE.2.1, by rw [upM_ne (by decide)]; exact hE.2.2.1, hE.2.2.2⟩
    have f12 := f1.trans f2
    have x149 : M2 149 = M 149 := f12.1 149 (by decide)
    obtain ⟨v1', v2', -, -⟩ := pNum_in p2
    have hv : ∃ D, v = Int32.ofNat D ∧ D ≤ 99 := by
      have q0 : ¬ v < 0 := fun h => v1' (Int32.lt_trans h (by decide))
      have q9 : v < Int32.ofNat 100 := by
        rw [restMost] at v2'
        split at v2'
        · rename_i h
          rw [Int32.lt_iff_toInt_lt] at v2' h ⊢
          have : (99 : Int32).toInt = 99 := by decide
          have : (Int32.ofNat 100).toInt = 100 := by decide
          omega
        · rw [Int32.lt_iff_toInt_lt] at v2' ⊢
          have : (99 : Int32).toInt = 99 := by decide
          have : (Int32.ofNat 100).toInt = 100 := by decide
          omega
      obtain ⟨D, h1, h2⟩ := nat_lt (by omega) q0 q9
      exact ⟨D, h2, by omega⟩
    obtain ⟨D, rfl, hD⟩ := hv
    have hcl : (Int32.ofNat D).toNatClampNeg = D := clamp_nn (by omega)
    refine ⟨fun _ => ?_, fun h => absurd (f12.ok h0) h⟩
    refine (e_rests (m := m) (D := D) hm hD (by rw [x149]; exact e3)).use ?_
    have hr : pRest B n (tokE B n e) (M 149) m S t = .inr (restN m (M 149) D, m, S, t, e2) := by simp only [pRest, p2, hcl]
    exact hok _ _ _ _ _ _ hr f12.Y.V.st (by rw [upM_ne (by decide)]; exact f12.ok h0) (by rw [upM_at, x149]) (MT_fr t2 (upM_ne (by decide)))
  refine ⟨6, rfl, by omega, ?_⟩
  refine ⟨fun h => ?_, fun h => ?_⟩
  · have h9 := num (9999 - M1 149 6)
    rw [e149] at h
    rw [restMost, if_pos h, ← e149] at h9
    exact h9
  · have h9 := num (9999 - M1 149 6)
    rw [e149] at h
    rw [restMost, if_neg h] at h9
    exact h9
theorem e_ptrip {e : Nat} (hL : LM M n B N m S t e) (hQ : LQM Q (gW sb ext) M n B (pTrip (skp B n e) (tokE B n e) N m S t)) : EvP RO (d + 9) 204 [.ref 145] (gW sb ext) M Q := by
  obtain ⟨hP, hK, he, hT, hk, h0, rfl, hR⟩ := hL
  obtain ⟨hok, her⟩ := hQ
  have hm := hR.1.1.2.2.2.1
  have hS := hR.1.1.2.2.2.2.1
  have hE := er_errs (M := M) (k := 6) hT.1 (by omega) (by omega)
  refine EvP.wp [] 60 rfl ?_
  refine (e_tripReason hS hm hR.1.1.2.1 hR.1.1.1).use ?_
  refine ⟨fun hw => ?_, fun hw => ?_⟩
  rotate_left
  · refine (e_errs (x := Int32.ofNat 6) h0).use ?_
    exact her 6 _ _ (by rw [pTrip, if_neg (fun h => hw h.1)]) (hE.V FrV.refl)
  refine ⟨6, rfl, by omega, ?_⟩
  refine ⟨fun h9 => ?_, fun h9 => ?_⟩
  · refine (e_errs (x := Int32.ofNat 6) h0).use ?_
    exact her 6 _ _ (by rw [pTrip, if_neg (fun h => h.2 h9)]) (hE.V FrV.refl)
  refine (e_trips hR.1.1).use ?_
  have fv : FrV M (upM (upM M 153 (gN (M 153) (M 149) S m)) 149 (tripsN (gN (M 153) (M 149) S m) (M 149) m S t)) := ⟨fun q a b c => by rw [upM_ne b, upM_ne c], fun j _ => by rw [upM_ne (by decide), upM_ne (by decide)]⟩
  have x145 : (upM (upM M 153 (gN (M 153) (M 149) S m)) 149 (tripsN (gN (M 153) (M 149) S m) (M 149) m S t)) 145 = M 145 := by rw [upM_ne (by decide), upM_ne (by decide)]
  have x149 : (upM (upM M 153 (gN (M 153) (M 149) S m)) 149 (tripsN (gN (M 153) (M 149) S m) (M 149) m S t)) 149 = tripsN (gN (fun _ => 0) (M 149) S m) (M 149) m S t := by rw [upM_at, trips_G]
  generalize upM (upM M 153 (gN (M 153) (M 149) S m)) 149 (tripsN (gN (M 153) (M 149) S m) (M 149) m S t) = M1 at *
  refine e_nextT (fv.P hP) he (MT_fr hT x145) (fun M2 f2 t2 => ?_)
  rw [hk] at t2
  exact hok _ _ _ _ _ M2 (by rw [pTrip, if_pos ⟨hw, h9⟩]) (fv.trans f2.Y.V) (f2.ok (by rw [x145]; exact h0)) ((f2.1 149 (by decide)).trans x149) t2
end MLIN
