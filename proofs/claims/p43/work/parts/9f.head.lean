/-! the class reads the first line -/
theorem TrN_set3 {M : mM} {N : Nat → Int32} {m S t i : Nat} {v : Int32} (hT : TrN M 3 N m S t) (hi : i < 3) : TrN (upM M 10 (upd (M 10) i v)) 3 (upd N i v) m S t := by
  obtain ⟨⟨a1, a2, a3, a4, a5, a6⟩, b, c, dd, e, f, g, h, k, j⟩ := hT
  have hN : ∀ x, 2 < x → upd N i v x = N x := fun x hx => upd_ne (by omega)
  refine ⟨⟨by rw [hN 3 (by omega)]; exact a1, by rw [hN 4 (by omega)]; exact a2, by rw [hN 5 (by omega)]; exact a3, a4, a5, a6⟩, ?_, ?_, ?_, ?_, fun x hx => ?_, fun x hx => ?_, fun x y hx hy => ?_, fun x hx => ?_, fun x y hx hy => ?_⟩
  · rw [upM_ne (by decide), hN 6 (by omega), hN 7 (by omega)]; exact b
  · rw [upM_ne (by decide)]; exact c
  · rw [upM_ne (by decide)]; exact dd
  · rw [upM_ne (by decide)]; exact e
  · rw [show (3 + 7 : Nat) = 10 from rfl, upM_at]
    by_cases e9 : x = i
    · rw [e9, upd_at, upd_at]
    · rw [upd_ne e9, upd_ne e9]; exact f x hx
  · rw [upM_ne (by decide), hN _ (by omega)]; exact g x hx
  · rw [upM_ne (by decide), hN _ (by omega)]; exact h x y hx hy
  · rw [upM_ne (by decide)]
    obtain ⟨k1, k2, k3, k4⟩ := k x hx
    have hl : lettN (upd N i v) x = lettN N x := lettN_congr (fun n _ => hN _ (by omega))
    exact ⟨by rw [hN _ (by omega)]; exact k1, by rw [hN _ (by omega)]; exact k2, by rw [hl]; exact k3, fun z hz => by rw [hN _ (by omega)]; exact k4 z hz⟩
  · rw [upM_ne (by decide), hN _ (by omega)]; exact j x y hx hy
theorem FrP.st {M M' : mM} {F : Nat → Int32} (h : FrP M M') : FrP M (upM M' 10 F) := ⟨fun q a b => by rw [upM_ne (by omega)]; exact h.1 q a b, fun j a => by rw [upM_ne (by decide)]; exact h.2 j a⟩
theorem ErL.st {M M' : mM} {k x : Nat} {F : Nat → Int32} (h : ErL M M' k x) : ErL M (upM M' 10 F) k x := by
  obtain ⟨h1, ⟨w1, w2, w3⟩, h3, h4, h5⟩ := h
  exact ⟨h1.st, ⟨by rw [upM_ne (by decide)]; exact w1, by rw [upM_ne (by decide)]; exact w2, by rw [upM_ne (by decide)]; exact w3⟩, by rw [upM_ne (by decide)]; exact h3, by rw [upM_ne (by decide)]; exact h4, h5⟩
theorem ErL.no {M M' : mM} {k x : Nat} (h : ErL M M' k x) : M' 1 9 ≠ 0 := by
  obtain ⟨-, -, h1, -, h2, h3⟩ := h
  rw [h1]
  intro h9
  have := i_inj (by omega) (by omega) (h9.trans (show (0 : Int32) = Int32.ofNat 0 from rfl))
  omega
theorem ErC.Lp {M M1 M2 : mM} {k x m S t : Nat} {N : Nat → Int32} (hE : ErC M1 M2 k x) (hF : FrP M M1) (hT : TrN M1 3 N m S t) : ErL M M2 k x :=
  ⟨hF.trans hE.1.Pr, wid_fr (TrN_wid hT) (fun q a b => hE.1.1 q (by omega)), hE.2.1, hE.2.2.1, hE.2.2.2.1, hE.2.2.2.2⟩
def mstS (i : Nat) : Int32 := if i = 0 then 99 else 50
/-- an error of the first line, its end too -/
def hdE (Z : Nat → Int32) (B : Nat → Nat) (n k x : Nat) : Prop := pHead Z B n = .inl (k, x) ∨ ∃ N e, pHead Z B n = .inr (N, 0, 0, 0, e) ∧ pEnd B n e true = .inl (k, x)
section HEAD
variable {hs f : Nat → Int32} {d len n : Nat} {c9 : sh} {r9 : List sh} {M : mM} {Q : mQ} {B : Nat → Nat} {Z : Nat → Int32}
theorem c_mstOf {RO : List mE} {G : List sh} {i : Nat} (hi : i < 3) : EvR RO (d + 1) 98 [.int (Int32.ofNat i)] G M (some (.int (mstS i))) M := by
  rcases (show i = 0 ∨ i = 1 ∨ i = 2 by omega) with rfl | rfl | rfl
  · refine EvP.wp [] 60 rfl ?_
    refine ⟨fun _ => ?_, fun h => absurd rfl h⟩
    exact ⟨rfl, rfl, rfl, rfl, rfl⟩
  · refine EvP.wp [] 60 rfl ?_
    refine ⟨fun h => absurd h (by decide), fun _ => ?_⟩
    exact ⟨rfl, rfl, rfl, rfl, rfl⟩
  · refine EvP.wp [] 60 rfl ?_
    refine ⟨fun h => absurd h (by decide), fun _ => ?_⟩
    exact ⟨rfl, rfl, rfl, rfl, rfl⟩
theorem c_phead (hP : PC M n B) (hO : OkC M) (hT : TrN M 3 Z 0 0 0) (hC : CR M n 0 false) (hok : ∀ N e b e2 M', pHead Z B n = .inr (N, 0, 0, 0, e) → pEnd B n e true = .inr (b, e2) → FrP M M' → OkC M' → TrN M' 3 N 0 0 0 → (b = false → M' 1 6 = 0) → (b = true → M' 1 6 = 3 ∧ CR M' n e2 false) → Q (.inl none) (gX c9 r9) M' 0 0) (her : ∀ k x M', hdE Z B n k x → ErL M M' k x → Q (.inl none) (gX c9 r9) M' 0 0) : EvP (RO9 hs len f) (d + 8) 14 [.ref 1] (gX c9 r9) M Q := by
  have hG : pw (gX c9 r9) := pw_X
  have badH : ∀ k x, hdE Z B n k x → ∀ i, i ≤ 3 → ∀ M1 : mM, ErL M M1 k x → GoP (RO9 hs len f) (d + 7) 14 [.ref 1, .int (Int32.ofNat i)] [] (gX c9 r9) M1 20 0 0 Q := fun k x hd => by
    refine up_ind (S := 3) (H := fun i => ∀ M1 : mM, ErL M M1 k x → GoP (RO9 hs len f) (d + 7) 14 [.ref 1, .int (Int32.ofNat i)] [] (gX c9 r9) M1 20 0 0 Q) (fun M1 hE => ?_) (fun i hi ih M1 hE => ?_)
    · refine wp_sound [20] 60 _ _ _ _ _ _ _ ?_
      refine ⟨fun h => absurd h (by decide), fun _ => ?_⟩
      refine (c_endX hG hE.no).use ?_
      exact her k x M1 hd hE
    · refine wp_sound [20] 60 _ _ _ _ _ _ _ ?_
      refine lt_if (b := 3) rfl rfl (by omega) (by omega) (fun _ => ?_) (fun h => absurd h (by omega))
      refine (c_mstOf hi).use ?_
      refine (c_numX hG hE.no).use ?_
      refine ⟨i, rfl, by omega, ?_⟩
      exact GoP.eq2 (ih _ hE.st) (by rw [i_inc]) rfl
  have last : ∀ N e M1, pHead Z B n = .inr (N, 0, 0, 0, e) → FrP M M1 → OkC M1 → PC M1 n B → TrN M1 3 N 0 0 0 → CR M1 n e true → GoP (RO9 hs len f) (d + 7) 14 [.ref 1, .int (Int32.ofNat 3)] [] (gX c9 r9) M1 20 0 0 Q := by
    intro N e M1 hp f1 o1 p1 t1 c1
    refine wp_sound [20] 60 _ _ _ _ _ _ _ ?_
    refine ⟨fun h => absurd h (by decide), fun _ => ?_⟩
    refine c_end hG p1 c1 o1.1 (fun b M2 q1 f2 g1 g2 => ?_) (fun k x M2 q1 hE => ?_)
    · exact hok N e b _ M2 hp q1 (f1.trans f2.X.Pr) (f2.ok o1) (f2.Tr t1) g1 g2
    · exact her k x M2 (Or.inr ⟨N, e, hp, q1⟩) (hE.Lp f1 t1)
  have one : ∀ i, i < 3 → ∀ N e M1, FrP M M1 → OkC M1 → PC M1 n B → TrN M1 3 N 0 0 0 → CR M1 n e true → (∀ k x, pNum B n e true 0 (mstS i) = .inl (k, x) → hdE Z B n k x) → (∀ v e' M2, pNum B n e true 0 (mstS i) = .inr (v, e') → FrP M M2 → OkC M2 → PC M2 n B → TrN M2 3 (upd N i v) 0 0 0 → CR M2 n e' true → GoP (RO9 hs len f) (d + 7) 14 [.ref 1, .int (Int32.ofNat (i + 1))] [] (gX c9 r9) M2 20 0 0 Q) → GoP (RO9 hs len f) (d + 7) 14 [.ref 1, .int (Int32.ofNat i)] [] (gX c9 r9) M1 20 0 0 Q := by
    intro i hi N e M1 f1 o1 p1 t1 c1 he hk
    refine wp_sound [20] 60 _ _ _ _ _ _ _ ?_
    refine lt_if (b := 3) rfl rfl (by omega) (by omega) (fun _ => ?_) (fun h => absurd h (by omega))
    refine (c_mstOf hi).use ?_
    refine c_num hG p1 c1 o1.1 (fun v e' M2 q1 f2 c2 => ?_) (fun k x M2 v q1 hE => ?_)
    · refine ⟨i, rfl, by omega, ?_⟩
      have h9 := f2.P p1
      exact GoP.eq2 (hk v e' (upM M2 10 (upd (M2 10) i v)) q1 (f1.trans f2.X.Pr).st (OkC_fr (f2.ok o1) (upM_ne (by decide))) ⟨h9.1, by rw [upM_ne (by decide)]; exact h9.2.1, fun j hj => by rw [upM_ne (by decide)]; exact h9.2.2 j hj⟩ (TrN_set3 (f2.Tr t1) hi) (CR_fr c2 (upM_ne (by decide)))) (by rw [i_inc]) rfl
    · refine ⟨i, rfl, by omega, ?_⟩
      exact GoP.eq2 (badH k x (he k x q1) (i + 1) (by omega) (upM M2 10 (upd (M2 10) i v)) (hE.Lp f1 t1).st) (by rw [i_inc]) rfl
  refine EvP.wp [20] 60 rfl ?_
  refine c_tok hG hP hC (fun M1 hT1 => ?_)
  have w := fun d => c_word (hs := hs) (f := f) (len := len) (d := d) (k := 1) (by omega) (by omega) hG hP hC.2.1 hT1
  obtain ⟨f1, h5, h6, h4, h7, hc2, hc3⟩ := hT1
  have hk1 : M1 1 9 = 0 := (f1.2 9 (by omega)).trans hO.1
  refine (w _).use ?_
  refine zb_if (fun b0 => ?_) (fun b0 => ?_)
  · refine (c_note (x := Int32.ofNat 1) hG hk1).use ?_
    refine GoP.eq2 (badH 1 (skp B n 0) (Or.inl ?_) 0 (by omega) _ ((er_note (M := M) (M1 := M1) (k := 1) f1 h5 (by omega) (by omega)).L FrT.refl hT)) rfl rfl
    rw [pHead, if_neg]
    rintro ⟨x, y⟩
    rw [x, show kap 1 = 0 from rfl, y] at b0
    cases b0
  · rw [Bool.and_eq_true] at b0
    have hcond : tokK B n 0 false = 1 ∧ isW B (skp B n 0) (tokE B n 0) 0 = true := ⟨Nat.eq_of_beq_eq_true b0.1, b0.2⟩
    refine GoP.eq2 (one 0 (by omega) Z (tokE B n 0) M1 f1.X.Pr (f1.ok hO) (f1.P hP) (f1.Tr hT) (hc2 (Or.inl hcond.1)) (fun k x q => Or.inl ?_) (fun a e1 M2 q1 x1 x2 x3 x4 x5 => ?_)) rfl rfl
    · have q : pNum B n (tokE B n 0) true 0 99 = .inl (k, x) := q
      simp only [pHead, if_pos hcond, q]
    have q1 : pNum B n (tokE B n 0) true 0 99 = .inr (a, e1) := q1
    refine one 1 (by omega) _ e1 M2 x1 x2 x3 x4 x5 (fun k x q => Or.inl ?_) (fun b e2 M3 q2 y1 y2 y3 y4 y5 => ?_)
    · have q : pNum B n e1 true 0 50 = .inl (k, x) := q
      simp only [pHead, if_pos hcond, q1, q]
    have q2 : pNum B n e1 true 0 50 = .inr (b, e2) := q2
    refine one 2 (by omega) _ e2 M3 y1 y2 y3 y4 y5 (fun k x q => Or.inl ?_) (fun c e3 M4 q3 z1 z2 z3 z4 z5 => ?_)
    · have q : pNum B n e2 true 0 50 = .inl (k, x) := q
      simp only [pHead, if_pos hcond, q1, q2, q]
    have q3 : pNum B n e2 true 0 50 = .inr (c, e3) := q3
    exact last (setN Z a b c) e3 M4 (by simp only [pHead, if_pos hcond, q1, q2, q3]) z1 z2 z3 z4 z5
end HEAD
