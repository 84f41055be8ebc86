/-! the reference reads a text -/
def FrU (M M' : mM) : Prop := (∀ q, q ≠ 145 → q ≠ 149 → q ≠ 153 → M' q = M q) ∧ ∀ j, j < 18 → M' 145 j = M 145 j
theorem FrU.V {M M' M'' : mM} (h : FrU M M') (h' : FrV M' M'') : FrU M M'' := ⟨fun q a b c => (h'.1 q a b c).trans (h.1 q a b c), fun j a => (h'.2 j (by omega)).trans (h.2 j a)⟩
theorem FrU.K {M M' : mM} (h : FrU M M') (hK : I_key M) : I_key M' := key_fr hK (h.1 146 (by decide) (by decide) (by decide)) (h.1 147 (by decide) (by decide) (by decide)) (h.1 148 (by decide) (by decide) (by decide))
def ErU (M M' : mM) (k x : Nat) : Prop := FrU M M' ∧ M' 145 23 = Int32.ofNat k ∧ M' 145 24 = Int32.ofNat x ∧ 0 < k ∧ k < 7
theorem ErU.no {M M' : mM} {k x : Nat} (h : ErU M M' k x) : M' 145 23 ≠ 0 := by
  obtain ⟨-, h1, -, h2, h3⟩ := h
  rw [h1]
  intro h9
  have := i_inj (by omega) (by omega) (h9.trans (show (0 : Int32) = Int32.ofNat 0 from rfl))
  omega
theorem ErU.st {M M' : mM} {k x : Nat} {F : Nat → Int32} (h : ErU M M' k x) : ErU M (upM M' 149 F) k x := by
  obtain ⟨h1, h3, h4, h5⟩ := h
  exact ⟨h1.V FrV.refl.st, by rw [upM_ne (by decide)]; exact h3, by rw [upM_ne (by decide)]; exact h4, h5⟩
section MTEXT
variable {RO : List mE} {d n sb : Nat} {ext : List sh} {M : mM} {Q : mQ} {B : Nat → Nat} {Z : Nat → Int32}
theorem e_lines (hK0 : I_key M) (R : PR) (v2 : Value) (hok : ∀ N m S t e M', R = .inr (N, m, S, t, e) → FrU M M' → M' 145 23 = 0 → M' 149 = N → Q (.inl none) (gW sb ext) M' 0 0) (her : ∀ k x M', R = .inl (k, x) → ErU M M' k x → Q (.inl none) (gW sb ext) M' 0 0) : ∀ f M1 N m S t e, n < e + f → e ≤ n → FrU M M1 → PM M1 n B → M1 145 23 = 0 → M1 149 = N → rOk N m S t → MT M1 B n e true → pLines B n f (N, m, S, t, e) = R → GoP RO (d + 11) 203 [.ref 145, .int (Int32.ofNat n), v2] [] (gW sb ext) M1 96 0 0 Q := by
  have out : ∀ M1 k x, R = .inl (k, x) → ErU M M1 k x → GoP RO (d + 11) 203 [.ref 145, .int (Int32.ofNat n), v2] [] (gW sb ext) M1 96 0 0 Q := by
    intro M1 k x hR hE
    refine wp_sound [96] 60 _ _ _ _ _ _ _ ?_
    refine ⟨fun h => absurd h hE.no, fun _ => ?_⟩
    exact her k x M1 hR hE
  intro f
  induction f with
  | zero => intro M1 N m S t e h1 h2; omega
  | succ f ih =>
    intro M1 N m S t e h1 h2 fu p1 h0 hN hR t1 hl
    have hlt := tokK_lt (B := B) (n := n) (e := e) (lr := true)
    have hte := tokE_le (B := B) h2
    refine wp_sound [96] 60 _ _ _ _ _ _ _ ?_
    refine ⟨fun _ => ?_, fun h => absurd h0 h⟩
    refine eq_if (b := 0) t1.2.2.1 rfl (by omega) (by omega) (fun k0 => ?_) (fun k0 => ?_)
    · refine hok N m S t (tokE B n e) M1 ?_ fu h0 hN
      rw [← hl, pLines, show pEnd B n e true = .inr (false, tokE B n e) by rw [pEnd, if_pos k0]]
    refine eq_if (b := 3) t1.2.2.1 rfl (by omega) (by omega) (fun k3 => ?_) (fun k3 => ?_)
    · have hA : pAfter B n f N m S t (tokE B n e) = R := (pLines_t (by rw [pEnd, if_neg k0, if_pos k3])).symm.trans hl
      have hg := tok_gt h2 (Or.inr (Or.inr k3))
      refine e_nextT p1 h2 t1 (fun M2 f2 t2 => ?_)
      rw [k3] at t2
      have t2 : MT M2 B n (tokE B n e) false := t2
      refine e_pline (N := N) (m := m) (S := S) (t := t) (e := tokE B n e) ⟨f2.P p1, f2.Y.K (fu.K hK0), hg.2, t2, f2.ok h0, (f2.1 149 (by decide)).trans hN, hR⟩ ⟨fun N' m' S' t' e' M3 hp f3 q0 q1 q2 => ?_, fun k x M3 hp hE => ?_⟩
      · obtain ⟨r1, r2, r3⟩ := ok_line hR hg.2 hp
        have f23 := f2.Y.V.trans f3
        exact ih M3 N' m' S' t' e' (by omega) r3 (fu.V f23) (f23.P p1) q0 q1 r1 q2 (by rw [← hA, pAfter, hp])
      · refine out M3 k x (by rw [← hA, pAfter, hp]) ⟨fu.V (f2.Y.V.trans hE.1), hE.2⟩
    · have hE := er_errs (M := M1) (k := 1) t1.1 (by omega) (by omega)
      refine (e_errs (x := Int32.ofNat 1) h0).use ?_
      refine out _ 1 (skp B n e) ?_ ⟨fu.V hE.1.V, hE.2⟩
      rw [← hl, pLines, show pEnd B n e true = .inl (1, skp B n e) by rw [pEnd, if_neg k0, if_neg k3]]
theorem e_text (hZ : Z = zF (M 149) 0 207) (hn : n ≤ 700) (hB : ∀ j, j < n → M 155 j = sgB (B j) ∧ B j < 256) (hK : I_key M) (hok : ∀ N m S t e M', pText Z B n = .inr (N, m, S, t, e) → FrU M M' → M' 145 23 = 0 → M' 149 = N → Q (.inl none) (gW sb ext) M' 0 0) (her : ∀ k x M', pText Z B n = .inl (k, x) → ErU M M' k x → Q (.inl none) (gW sb ext) M' 0 0) : EvP RO (d + 12) 203 [.ref 145, .int (Int32.ofNat n)] (gW sb ext) M Q := by
  have hZ0 : ∀ j, j < 207 → Z j = 0 := fun j hj => by rw [hZ, zF, if_pos (by omega)]
  have lines := fun v2 => e_lines (RO := RO) (d := d) (n := n) (sb := sb) (ext := ext) (B := B) hK (pText Z B n) v2 hok her
  have badH : ∀ k x, pText Z B n = .inl (k, x) → ∀ i, i ≤ 3 → ∀ M1 : mM, ErU M M1 k x → GoP RO (d + 11) 203 [.ref 145, .int (Int32.ofNat n), .int (Int32.ofNat i)] [] (gW sb ext) M1 68 0 0 Q := fun k x hd => by
    refine up_ind (S := 3) (H := fun i => ∀ M1 : mM, ErU M M1 k x → GoP RO (d + 11) 203 [.ref 145, .int (Int32.ofNat n), .int (Int32.ofNat i)] [] (gW sb ext) M1 68 0 0 Q) (fun M1 hE => ?_) (fun i hi ih M1 hE => ?_)
    · refine wp_sound [68] 60 _ _ _ _ _ _ _ ?_
      refine ⟨fun h => absurd h (by decide), fun _ => ?_⟩
      refine ⟨fun h => absurd h hE.no, fun _ => ?_⟩
      exact her k x M1 hd hE
    · refine wp_sound [68] 60 _ _ _ _ _ _ _ ?_
      refine lt_if (b := 3) rfl rfl (by omega) (by omega) (fun _ => ?_) (fun h => absurd h (by omega))
      refine ⟨i, rfl, by omega, ?_⟩
      refine (e_numX hE.no).use ?_
      refine ⟨i, rfl, by omega, ?_⟩
      exact GoP.eq2 (ih _ hE.st) (by rw [i_inc]) rfl
  have last : ∀ N e M1, pHead Z B n = .inr (N, 0, 0, 0, e) → FrU M M1 → PM M1 n B → M1 145 23 = 0 → M1 149 = N → MT M1 B n e true → GoP RO (d + 11) 203 [.ref 145, .int (Int32.ofNat n), .int (Int32.ofNat 3)] [] (gW sb ext) M1 68 0 0 Q := by
    intro N e M1 hp f1 p1 h0 hN t1
    obtain ⟨r1, -, -, -, g1, g2⟩ := ok_head hZ0 hp
    refine wp_sound [68, 96] 60 _ _ _ _ _ _ _ ?_
    refine ⟨fun h => absurd h (by decide), fun _ => ?_⟩
    exact lines _ 701 M1 N 0 0 0 e (by omega) g2 f1 p1 h0 hN r1 t1 (by rw [pText, hp])
  have one : ∀ i, i < 3 → ∀ N e M1, e ≤ n → FrU M M1 → PM M1 n B → M1 145 23 = 0 → M1 149 = N → MT M1 B n e true → (∀ k x, pNum B n e true 0 (mstS i) = .inl (k, x) → pText Z B n = .inl (k, x)) → (∀ v e' M2, pNum B n e true 0 (mstS i) = .inr (v, e') → e' ≤ n → FrU M M2 → PM M2 n B → M2 145 23 = 0 → M2 149 = upd N i v → MT M2 B n e' true → GoP RO (d + 11) 203 [.ref 145, .int (Int32.ofNat n), .int (Int32.ofNat (i + 1))] [] (gW sb ext) M2 68 0 0 Q) → GoP RO (d + 11) 203 [.ref 145, .int (Int32.ofNat n), .int (Int32.ofNat i)] [] (gW sb ext) M1 68 0 0 Q := by
    intro i hi N e M1 he f1 p1 h0 hN t1 her' hk
    have hmost : M1 146 i = mstS i := by
      rw [f1.1 146 (by decide) (by decide) (by decide)]
      obtain ⟨-, ⟨k0, k1, k2⟩, -⟩ := hK
      rcases (show i = 0 ∨ i = 1 ∨ i = 2 by omega) with rfl | rfl | rfl
      · exact k0
      · exact k1
      · exact k2
    refine wp_sound [68] 60 _ _ _ _ _ _ _ ?_
    refine lt_if (b := 3) rfl rfl (by omega) (by omega) (fun _ => ?_) (fun h => absurd h (by omega))
    refine ⟨i, rfl, by omega, ?_⟩
    rw [hmost]
    refine e_num p1 he t1 h0 (fun v e' M2 q1 f2 t2 => ?_) (fun k x M2 q1 hE => ?_)
    · refine ⟨i, rfl, by omega, ?_⟩
      have hv : FrV M1 (upM M2 149 (upd (M2 149) i v)) := f2.Y.V.st
      exact GoP.eq2 (hk v e' (upM M2 149 (upd (M2 149) i v)) q1 (pNum_gt he q1).2 (f1.V hv) (hv.P p1) (by rw [upM_ne (by decide)]; exact f2.ok h0) (by rw [upM_at, f2.1 149 (by decide), hN]) (MT_fr t2 (upM_ne (by decide)))) (by rw [i_inc]) rfl
    · refine ⟨i, rfl, by omega, ?_⟩
      exact GoP.eq2 (badH k x (her' k x q1) (i + 1) (by omega) (upM M2 149 (upd (M2 149) i 0)) (ErU.st ⟨f1.V hE.1.V, hE.2⟩)) (by rw [i_inc]) rfl
  have p42 : ∀ M1, FrU M M1 → PM M1 n B → M1 145 23 = 0 → M1 145 19 = 0 → M1 145 21 = 0 → M1 149 = Z → ∀ v2, GoP RO (d + 11) 203 [.ref 145, .int (Int32.ofNat n), v2] [] (gW sb ext) M1 42 0 0 Q := by
    intro M1 f1 p1 h0 h19 h21 hN v2
    refine wp_sound [68] 60 _ _ _ _ _ _ _ ?_
    refine e_next (k := 0) (e := 0) p1 (Nat.zero_le _) (by omega) h21 h19 (fun M2 f2 t2 => ?_)
    have t2 : MT M2 B n 0 false := t2
    have hkey := fun d => e_key (RO := RO) (d := d) (sb := sb) (ext := ext) (q := 0) (by omega) (f2.P p1) (f2.Y.K (f1.K hK)) (Nat.zero_le n) t2
    refine (hkey _).use ?_
    refine zb_if (fun b0 => ?_) (fun b0 => ?_)
    · have hE := er_errs (M := M2) (k := 1) t2.1 (by omega) (by omega)
      refine (e_errs (x := Int32.ofNat 1) (f2.ok h0)).use ?_
      refine GoP.eq2 (badH 1 (skp B n 0) ?_ 0 (by omega) _ ⟨f1.V (f2.Y.V.trans hE.1.V), hE.2⟩) rfl rfl
      rw [pText, show pHead Z B n = .inl (1, skp B n 0) by
        rw [pHead, if_neg]
        rintro ⟨x, y⟩
        rw [x, y] at b0
        cases b0]
    · rw [Bool.and_eq_true] at b0
      have hcond : tokK B n 0 false = 1 ∧ isW B (skp B n 0) (tokE B n 0) 0 = true := ⟨Nat.eq_of_beq_eq_true b0.1, b0.2⟩
      refine e_nextT (f2.P p1) (Nat.zero_le n) t2 (fun M3 f3 t3 => ?_)
      rw [hcond.1] at t3
      have t3 : MT M3 B n (tokE B n 0) true := t3
      have f23 := f2.trans f3
      have hte := tokE_le (B := B) (Nat.zero_le n)
      refine GoP.eq2 (one 0 (by omega) Z (tokE B n 0) M3 hte.2 (f1.V f23.Y.V) (f23.P p1) (f23.ok h0) ((f23.1 149 (by decide)).trans hN) t3 (fun k x q => ?_) (fun a e1 M4 q1 x0 x1 x2 x3 x4 x5 => ?_)) rfl rfl
      · have q : pNum B n (tokE B n 0) true 0 99 = .inl (k, x) := q
        simp only [pText, pHead, if_pos hcond, q]
      have q1 : pNum B n (tokE B n 0) true 0 99 = .inr (a, e1) := q1
      refine one 1 (by omega) _ e1 M4 x0 x1 x2 x3 x4 x5 (fun k x q => ?_) (fun b e2 M5 q2 y0 y1 y2 y3 y4 y5 => ?_)
      · have q : pNum B n e1 true 0 50 = .inl (k, x) := q
        simp only [pText, pHead, if_pos hcond, q1, q]
      have q2 : pNum B n e1 true 0 50 = .inr (b, e2) := q2
      refine one 2 (by omega) _ e2 M5 y0 y1 y2 y3 y4 y5 (fun k x q => ?_) (fun c e3 M6 q3 z0 z1 z2 z3 z4 z5 => ?_)
      · have q : pNum B n e2 true 0 50 = .inl (k, x) := q
        simp only [pText, pHead, if_pos hcond, q1, q2, q]
      have q3 : pNum B n e2 true 0 50 = .inr (c, e3) := q3
      exact last (setN Z a b c) e3 M6 (by simp only [pHead, if_pos hcond, q1, q2, q3]) z1 z2 z3 z4 z5
  have zero := up_ind (S := 207) (H := fun k => GoP RO (d + 11) 203 [.ref 145, .int (Int32.ofNat n), .int (Int32.ofNat k)] [] (gW sb ext) (upM M 149 (zF (M 149) 0 k)) 2 0 0 Q) ?_ (fun k hk ih => ?_) 0 (by omega)
  · refine EvP.wp [2] 60 rfl ?_
    refine GoP.eq2 zero rfl ?_
    rw [zF_0, upM_self]
  · refine wp_sound [2, 42] 60 _ _ _ _ _ _ _ ?_
    refine lt_if (b := 207) rfl rfl (by omega) (by omega) (fun h => absurd h (by omega)) (fun _ => ?_)
    refine GoP.eq2 (p42 (upM (upM M 149 Z) 145 (upd (upd (upd (upd (M 145) 18 (Int32.ofNat n)) 23 0) 19 0) 21 0)) ⟨fun q a b c => by rw [upM_ne a, upM_ne b], fun j hj => by rw [upM_at, upd_ne (by omega), upd_ne (by omega), upd_ne (by omega), upd_ne (by omega)]⟩ ⟨hn, by rw [upM_at, upd_ne (by decide), upd_ne (by decide), upd_ne (by decide), upd_at], fun j hj => by rw [upM_ne (by decide), upM_ne (by decide)]; exact hB j hj⟩ (by rw [upM_at, upd_ne (by decide), upd_ne (by decide), upd_at]) (by rw [upM_at, upd_ne (by decide), upd_at]) (by rw [upM_at, upd_at]) (by rw [upM_ne (by decide), upM_at]) _) rfl ?_
    rw [hZ]
    simp only [upM_at, upM_upM]
    rfl
  · refine wp_sound [2, 42] 60 _ _ _ _ _ _ _ ?_
    refine lt_if (b := 207) rfl rfl (by omega) (by omega) (fun _ => ?_) (fun h => absurd h (by omega))
    refine ⟨k, rfl, by omega, ?_⟩
    refine GoP.eq2 ih (by rw [i_inc]) ?_
    rw [upM_at, upM_upM]
    have h9 := zF_s (O := M 149) (a := 0) (n := k)
    rw [Nat.zero_add] at h9
    rw [h9]
end MTEXT
