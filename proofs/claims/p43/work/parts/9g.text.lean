/-! the class reads a text -/
def FrZ (M M' : mM) : Prop := (∀ q, q < 3 ∨ 11 < q → q ≠ 1 → M' q = M q) ∧ ∀ j, j < 3 → M' 1 j = M 1 j
theorem FrP.Z {M M' M'' : mM} (h : FrZ M M') (h' : FrP M' M'') : FrZ M M'' := ⟨fun q a b => (h'.1 q a b).trans (h.1 q a b), fun j a => (h'.2 j (by omega)).trans (h.2 j a)⟩
theorem FrB.Z {M M' : mM} (h : FrB 3 M M') : FrZ M M' := ⟨fun q a _ => h q (by omega), fun j _ => by rw [h 1 (by omega)]⟩
theorem ErC.Lp' {M0 M1 M2 : mM} {k x m S t : Nat} {N : Nat → Int32} (hE : ErC M1 M2 k x) (hF : FrP M0 M1) (hT : TrN M1 3 N m S t) : ErL M0 M2 k x := hE.Lp hF hT
def pAfter (B : Nat → Nat) (n f : Nat) (N : Nat → Int32) (m S t e : Nat) : PR := match pLine B n e N m S t with
  | .inl er => .inl er
  | .inr x => pLines B n f x
theorem pLines_t {B : Nat → Nat} {n f m S t e e' : Nat} {N : Nat → Int32} (h : pEnd B n e true = .inr (true, e')) : pLines B n (f + 1) (N, m, S, t, e) = pAfter B n f N m S t e' := by
  rw [pLines, h]
  rfl
section TEXT
variable {hs f : Nat → Int32} {d len n : Nat} {c9 : sh} {r9 : List sh} {M : mM} {Q : mQ} {B : Nat → Nat} {Z : Nat → Int32}
theorem c_begin {RO : List mE} (hw : widOk M 3) (hn : n ≤ 700) (hB : ∀ j, j < n → M 2 j &&& 255 = Int32.ofNat (B j) ∧ B j < 256) (hQ : ∀ M', FrZ M M' → PC M' n B → OkC M' → TrN M' 3 (fun _ => 0) 0 0 0 → CR M' n 0 false → Q (.inl none) (gX c9 r9) M' 0 0) : EvP RO (d + 4) 4 [.ref 1, .int (Int32.ofNat n)] (gX c9 r9) M Q := by
  refine EvP.wp [7] 60 rfl ?_
  refine c_beginAnew hw.1 hw.2.1 hw.2.2 (fun M1 t1 f1 => ?_)
  refine wp_sound [] 60 _ _ _ _ _ _ _ ?_
  have fin : Q (.inl none) (gX c9 r9) (upM M1 1 (upd (upd (upd (upd (upd (M1 1) 3 (Int32.ofNat n)) 4 0) 8 (-1)) 9 0) 10 (-1))) 0 0 := by
    refine hQ _ ⟨fun q a b => by rw [upM_ne b]; exact f1.Z.1 q a b, fun j hj => ?_⟩ ⟨hn, ?_, fun j hj => ?_⟩ ⟨?_, ?_⟩ (TrN_fr t1 (fun q a b => upM_ne (by omega))) ⟨?_, Nat.zero_le _, fun h => (by cases h), fun _ => Or.inl ?_⟩
    · rw [upM_at, upd_ne (by omega), upd_ne (by omega), upd_ne (by omega), upd_ne (by omega), upd_ne (by omega)]; exact f1.Z.2 j hj
    · rw [upM_at, upd_ne (by decide), upd_ne (by decide), upd_ne (by decide), upd_ne (by decide), upd_at]
    · rw [upM_ne (by decide), f1 2 (by omega)]; exact hB j hj
    · rw [upM_at, upd_ne (by decide), upd_at]
    · rw [upM_at, upd_at]
    · rw [upM_at, upd_ne (by decide), upd_ne (by decide), upd_ne (by decide), upd_at]; rfl
    · rw [upM_at, upd_ne (by decide), upd_ne (by decide), upd_at]
  refine Q_of fin rfl ?_
  simp only [upM_at, upM_upM]
theorem c_text (hZ : ∀ j, j < 207 → Z j = 0) (hP : PC M n B) (hO : OkC M) (hT : TrN M 3 Z 0 0 0) (hC : CR M n 0 false) (v2 : Value) (hok : ∀ N m S t e M', pText Z B n = .inr (N, m, S, t, e) → FrP M M' → OkC M' → TrN M' 3 N m S t → Q (.inl none) (gX c9 r9) M' 0 0) (her : ∀ k x M', pText Z B n = .inl (k, x) → ErL M M' k x → Q (.inl none) (gX c9 r9) M' 0 0) : GoP (RO9 hs len f) (d + 9) 24 [.ref 1, .int (Int32.ofNat n), v2] [] (gX c9 r9) M 5 0 0 Q := by
  have hG : pw (gX c9 r9) := pw_X
  have hn := hP.1
  -- out of the loop
  have outE : ∀ i, i ≤ 700 → ∀ M1 k x, pText Z B n = .inl (k, x) → ErL M M1 k x → GoP (RO9 hs len f) (d + 9) 24 [.ref 1, .int (Int32.ofNat n), .int (Int32.ofNat i)] [] (gX c9 r9) M1 11 0 0 Q := by
    intro i hi M1 k x hp hE
    refine wp_sound [11] 60 _ _ _ _ _ _ _ ?_
    refine lt_if (b := 700) rfl rfl (by omega) (by omega) (fun _ => ?_) (fun _ => ?_)
    · refine ⟨fun h => absurd h hE.no, fun _ => ?_⟩
      exact her k x M1 hp hE
    · exact her k x M1 hp hE
  have outO : ∀ i, i ≤ 700 → ∀ M1 N m S t e, pText Z B n = .inr (N, m, S, t, e) → FrP M M1 → OkC M1 → TrN M1 3 N m S t → M1 1 6 = 0 → GoP (RO9 hs len f) (d + 9) 24 [.ref 1, .int (Int32.ofNat n), .int (Int32.ofNat i)] [] (gX c9 r9) M1 11 0 0 Q := by
    intro i hi M1 N m S t e hp f1 o1 t1 h6
    refine wp_sound [11] 60 _ _ _ _ _ _ _ ?_
    refine lt_if (b := 700) rfl rfl (by omega) (by omega) (fun _ => ?_) (fun _ => ?_)
    · refine ⟨fun _ => ?_, fun h => absurd o1.1 h⟩
      refine ⟨fun h => absurd (h6.symm.trans h) (by decide), fun _ => ?_⟩
      exact hok N m S t e M1 hp f1 o1 t1
    · exact hok N m S t e M1 hp f1 o1 t1
  have badE : ∀ i, i < 700 → ∀ M1 k x, pText Z B n = .inl (k, x) → ErL M M1 k x → GoP (RO9 hs len f) (d + 9) 24 [.ref 1, .int (Int32.ofNat n), .int (Int32.ofNat i)] [] (gX c9 r9) M1 196 0 0 Q := by
    intro i hi M1 k x hp hE
    refine wp_sound [11] 60 _ _ _ _ _ _ _ ?_
    refine (c_endX hG hE.no).use ?_
    exact GoP.eq2 (outE (i + 1) (by omega) M1 k x hp hE) (by rw [i_inc]) rfl
  have loop : ∀ fu i M1 N m S t e, i + fu = 700 → i < e → e ≤ n → FrP M M1 → OkC M1 → PC M1 n B → TrN M1 3 N m S t → rOk N m S t → CR M1 n e false → M1 1 6 = 3 → pAfter B n fu N m S t e = pText Z B n → GoP (RO9 hs len f) (d + 9) 24 [.ref 1, .int (Int32.ofNat n), .int (Int32.ofNat i)] [] (gX c9 r9) M1 11 0 0 Q := by
    intro fu
    induction fu with
    | zero => intro i M1 N m S t e h1 h2 h3; omega
    | succ fu ih =>
      intro i M1 N m S t e h1 h2 h3 f1 o1 p1 t1 r1 c1 k6 hR
      -- behind a line
      have good : ∀ M2 N' m' S' t' e', pLine B n e N m S t = .inr (N', m', S', t', e') → FrP M M2 → OkC M2 → PC M2 n B → TrN M2 3 N' m' S' t' → CR M2 n e' true → GoP (RO9 hs len f) (d + 9) 24 [.ref 1, .int (Int32.ofNat n), .int (Int32.ofNat i)] [] (gX c9 r9) M2 196 0 0 Q := by
        intro M2 N' m' S' t' e' hl f2 o2 p2 t2 c2
        obtain ⟨r2, g1, g2⟩ := ok_line r1 h3 hl
        have hA : pLines B n (fu + 1) (N', m', S', t', e') = pText Z B n := by rw [← hR, pAfter, hl]
        refine wp_sound [11] 60 _ _ _ _ _ _ _ ?_
        refine c_end hG p2 c2 o2.1 (fun b M3 q3 f3 x1 x2 => ?_) (fun k x M3 q3 hE => ?_)
        · cases b with
          | false =>
            refine GoP.eq2 (outO (i + 1) (by omega) M3 N' m' S' t' (tokE B n e') ?_ (f2.trans f3.X.Pr) (f3.ok o2) (f3.Tr t2) (x1 rfl)) (by rw [i_inc]) rfl
            rw [← hA]
            simp only [pLines, q3]
          | true =>
            obtain ⟨y1, y2⟩ := x2 rfl
            have hte := tokE_le (B := B) g2
            refine GoP.eq2 (ih (i + 1) M3 N' m' S' t' (tokE B n e') (by omega) (by omega) hte.2 (f2.trans f3.X.Pr) (f3.ok o2) (f3.P p2) (f3.Tr t2) r2 y2 y1 ((pLines_t q3).symm.trans hA)) (by rw [i_inc]) rfl
        · refine GoP.eq2 (outE (i + 1) (by omega) M3 k x ?_ (hE.Lp f2 t2)) (by rw [i_inc]) rfl
          rw [← hA]
          simp only [pLines, q3]
      have bad : ∀ M2 k x, pLine B n e N m S t = .inl (k, x) → ErL M M2 k x → GoP (RO9 hs len f) (d + 9) 24 [.ref 1, .int (Int32.ofNat n), .int (Int32.ofNat i)] [] (gX c9 r9) M2 196 0 0 Q := by
        intro M2 k x hl hE
        refine badE i (by omega) M2 k x ?_ hE
        rw [← hR, pAfter, hl]
      refine wp_sound [11, 196] 120 _ _ _ _ _ _ _ ?_
      refine lt_if (b := 700) rfl rfl (by omega) (by omega) (fun _ => ?_) (fun h => absurd h (by omega))
      refine ⟨fun _ => ?_, fun h => absurd o1.1 h⟩
      refine ⟨fun _ => ?_, fun h => absurd k6 h⟩
      refine c_tok hG p1 c1 (fun M2 hT2 => ?_)
      have w := fun (k : Nat) (a : 1 ≤ k) (b : k ≤ 15) d => c_word (hs := hs) (f := f) (len := len) (d := d) (k := k) a b hG p1 h3 hT2
      obtain ⟨f2, h5, h6, h4, h7, hc2, hc3⟩ := hT2
      have o2 := f2.ok o1
      have p2 := f2.P p1
      have t2 := f2.Tr t1
      have hst : tokK B n e false = 1 → LSt M2 n B N m S t (tokE B n e) (skp B n e) := fun hk => ⟨p2, o2, t2, hc2 (Or.inl hk), h5⟩
      have pr : tokK B n e false = 1 → ∀ q, (Nat.beq (tokK B n e false) 1 && isW B (skp B n e) (tokE B n e) q) = false → ¬ isW B (skp B n e) (tokE B n e) q = true := fun hk q h h9 => by
        rw [hk, h9] at h
        cases h
      have on : ∀ q, (Nat.beq (tokK B n e false) 1 && isW B (skp B n e) (tokE B n e) q) = true → tokK B n e false = 1 ∧ isW B (skp B n e) (tokE B n e) q = true := fun q h => by
        rw [Bool.and_eq_true] at h
        exact ⟨Nat.eq_of_beq_eq_true h.1, h.2⟩
      -- what a line's method gives
      have lq : ∀ (Q' : mQ) (r : PR), pLine B n e N m S t = r → (∀ M3, GoP (RO9 hs len f) (d + 9) 24 [.ref 1, .int (Int32.ofNat n), .int (Int32.ofNat i)] [] (gX c9 r9) M3 196 0 0 Q → Q' (.inl none) (gX c9 r9) M3 0 0) → LQ Q' (gX c9 r9) M2 n r := fun Q' r hr hq => by
        refine ⟨fun N' m' S' t' e' M3 h9 hO3 => hq M3 ?_, fun k x M3 h9 hE => hq M3 ?_⟩
        · have h8 := hr.trans h9
          obtain ⟨r2, g1, g2⟩ := ok_line r1 h3 h8
          refine good M3 N' m' S' t' e' h8 (f1.trans (f2.X.Pr.trans hO3.1)) hO3.2.1 ?_ hO3.2.2.1 hO3.2.2.2
          exact ⟨p2.1, by rw [hO3.1.2 3 (by omega)]; exact p2.2.1, fun j hj => by rw [hO3.1.1 2 (by omega) (by omega)]; exact p2.2.2 j hj⟩
        · exact bad M3 k x (hr.trans h9) ⟨f1.trans (f2.X.Pr.trans hE.1), hE.2⟩
      refine (w 2 (by omega) (by omega) _).use ?_
      refine zb_if (fun b1 => ?_) (fun b1 => ?_)
      rotate_left
      · obtain ⟨hk, hw⟩ := on 1 b1
        refine c_pmule (hst hk) (lq _ _ ?_ (fun M3 h => h))
        rw [pLine, if_pos hk, if_pos hw]
      refine (w 3 (by omega) (by omega) _).use ?_
      refine zb_if (fun b2 => ?_) (fun b2 => ?_)
      rotate_left
      · obtain ⟨hk, hw⟩ := on 2 b2
        refine c_psack (hst hk) (lq _ _ ?_ (fun M3 h => h))
        rw [pLine, if_pos hk, if_neg (pr hk 1 b1), if_pos hw]
      refine (w 8 (by omega) (by omega) _).use ?_
      refine zb_if (fun b3 => ?_) (fun b3 => ?_)
      rotate_left
      · obtain ⟨hk, hw⟩ := on 3 b3
        refine c_pstage (k := 0) (by omega) (hst hk) (lq _ _ ?_ (fun M3 h => h))
        rw [pLine, if_pos hk, if_neg (pr hk 1 b1), if_neg (pr hk 2 b2), if_pos hw]
      refine (w 9 (by omega) (by omega) _).use ?_
      refine zb_if (fun b4 => ?_) (fun b4 => ?_)
      rotate_left
      · obtain ⟨hk, hw⟩ := on 4 b4
        refine c_pstage (k := 1) (by omega) (hst hk) (lq _ _ ?_ (fun M3 h => h))
        rw [pLine, if_pos hk, if_neg (pr hk 1 b1), if_neg (pr hk 2 b2), if_neg (pr hk 3 b3), if_pos hw]
      refine (w 10 (by omega) (by omega) _).use ?_
      refine zb_if (fun b5 => ?_) (fun b5 => ?_)
      rotate_left
      · obtain ⟨hk, hw⟩ := on 5 b5
        refine c_pstage (k := 2) (by omega) (hst hk) (lq _ _ ?_ (fun M3 h => h))
        rw [pLine, if_pos hk, if_neg (pr hk 1 b1), if_neg (pr hk 2 b2), if_neg (pr hk 3 b3), if_neg (pr hk 4 b4), if_pos hw]
      refine (w 11 (by omega) (by omega) _).use ?_
      refine zb_if (fun b6 => ?_) (fun b6 => ?_)
      rotate_left
      · obtain ⟨hk, hw⟩ := on 6 b6
        refine c_ppack r1.1.2.1 (hst hk) (lq _ _ ?_ (fun M3 h => h))
        rw [pLine, if_pos hk, if_neg (pr hk 1 b1), if_neg (pr hk 2 b2), if_neg (pr hk 3 b3), if_neg (pr hk 4 b4), if_neg (pr hk 5 b5), if_pos hw]
      refine (w 14 (by omega) (by omega) _).use ?_
      refine zb_if (fun b8 => ?_) (fun b8 => ?_)
      rotate_left
      · obtain ⟨hk, hw⟩ := on 8 b8
        refine c_prest (x0 := skp B n e) r1.1 (hst hk) (lq _ _ ?_ (fun M3 h => h))
        rw [pLine, if_pos hk, if_neg (pr hk 1 b1), if_neg (pr hk 2 b2), if_neg (pr hk 3 b3), if_neg (pr hk 4 b4), if_neg (pr hk 5 b5), if_neg (pr hk 6 b6), if_pos hw]
      refine (w 15 (by omega) (by omega) _).use ?_
      refine zb_if (fun b7 => ?_) (fun b7 => ?_)
      · refine (c_note (x := Int32.ofNat 1) hG o2.1).use ?_
        refine bad _ 1 (skp B n e) ?_ ((er_note (M := M1) (M1 := M2) (k := 1) f2 h5 (by omega) (by omega)).Lp' f1 t1)
        by_cases hk : tokK B n e false = 1
        · rw [pLine, if_pos hk, if_neg (pr hk 1 b1), if_neg (pr hk 2 b2), if_neg (pr hk 3 b3), if_neg (pr hk 4 b4), if_neg (pr hk 5 b5), if_neg (pr hk 6 b6), if_neg (pr hk 8 b8), if_neg (pr hk 7 b7)]
        · rw [pLine, if_neg hk]
      · obtain ⟨hk, hw⟩ := on 7 b7
        have hpl : pLine B n e N m S t = pTrip (skp B n e) (tokE B n e) N m S t := by
          rw [pLine, if_pos hk, if_neg (pr hk 1 b1), if_neg (pr hk 2 b2), if_neg (pr hk 3 b3), if_neg (pr hk 4 b4), if_neg (pr hk 5 b5), if_neg (pr hk 6 b6), if_neg (pr hk 8 b8), if_pos hw]
        obtain ⟨D, d1, d2⟩ := r1.2.2.2.1
        have hne : N 6 ≠ 9999 ↔ D < 9999 := by
          rw [d1, show (9999 : Int32) = Int32.ofNat 9999 from rfl]
          refine ⟨fun h => ?_, fun h h9 => ?_⟩
          · rcases Nat.lt_or_ge D 9999 with h8 | h8
            · exact h8
            · exact absurd (by rw [show D = 9999 by omega]) h
          · have := i_inj (by omega) (by omega) h9
            omega
        refine (c_mayTravel bas_X t2 r1.1.2.1 d1 d2).use ?_
        refine zb_if (fun bt => ?_) (fun bt => ?_)
        · refine (c_note (x := Int32.ofNat 6) hG o2.1).use ?_
          refine bad _ 6 (skp B n e) ?_ ((er_note (M := M1) (M1 := M2) (k := 6) f2 h5 (by omega) (by omega)).Lp' f1 t1)
          rw [hpl, pTrip, if_neg]
          rintro ⟨x, y⟩
          rw [decide_eq_true x, decide_eq_true (hne.mp y)] at bt
          cases bt
        · rw [Bool.and_eq_true] at bt
          have hcond : whyN N m S = 0 ∧ N 6 ≠ 9999 := ⟨of_decide_eq_true bt.1, hne.mpr (of_decide_eq_true bt.2)⟩
          refine c_travel (G0 := fun _ => 0) bas_X t2 r1.1 (fun M3 t3 f3 => ?_)
          refine good M3 _ m S t (tokE B n e) (by rw [hpl, pTrip, if_pos hcond]) (f1.trans (f2.X.Pr.trans f3.Pr)) (OkC_fr o2 (f3 1 (by omega))) ⟨p2.1, by rw [f3 1 (by omega)]; exact p2.2.1, fun j hj => by rw [f3 2 (by omega)]; exact p2.2.2 j hj⟩ t3 (CR_fr (hc2 (Or.inl hk)) (f3 1 (by omega)))
  refine wp_sound [11] 60 _ _ _ _ _ _ _ ?_
  refine c_phead hP hO hT hC (fun N e b e2 M1 q1 q2 f1 o1 t1 x1 x2 => ?_) (fun k x M1 hd hE => ?_)
  · obtain ⟨r1, -, -, -, g1, g2⟩ := ok_head hZ q1
    cases b with
    | false =>
      refine GoP.eq2 (outO 0 (by omega) M1 N 0 0 0 e2 ?_ f1 o1 t1 (x1 rfl)) rfl rfl
      simp only [pText, q1, pLines, q2]
    | true =>
      obtain ⟨y1, y2⟩ := x2 rfl
      have he2 : e2 = tokE B n e := by
        unfold pEnd at q2
        split at q2
        · injection q2 with q2; injection q2 with a b; cases a
        · split at q2
          · injection q2 with q2; injection q2 with a b; exact b.symm
          · cases q2
      have hte := tokE_le (B := B) g2
      refine GoP.eq2 (loop 700 0 M1 N 0 0 0 e2 (by omega) (by omega) (by omega) f1 o1 ?_ t1 r1 y2 y1 ?_) rfl rfl
      · exact ⟨hP.1, by rw [f1.2 3 (by omega)]; exact hP.2.1, fun j hj => by rw [f1.1 2 (by omega) (by omega)]; exact hP.2.2 j hj⟩
      · have hX : pText Z B n = pLines B n (700 + 1) (N, 0, 0, 0, e) := by rw [pText, q1]
        rw [hX, pLines_t q2]
  · refine GoP.eq2 (outE 0 (by omega) M1 k x ?_ hE) rfl rfl
    rcases hd with hd | ⟨N, e, q1, q2⟩
    · simp only [pText, hd]
    · simp only [pText, q1, pLines, q2]
end TEXT
