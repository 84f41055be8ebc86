/-! the class's lines: a sack, a stage, a rest -/
def FrP (M M' : mM) : Prop := (∀ q, q < 3 ∨ 11 < q → q ≠ 1 → M' q = M q) ∧ ∀ j, j < 4 → M' 1 j = M 1 j
theorem FrP.trans {M M' M'' : mM} (h : FrP M M') (h' : FrP M' M'') : FrP M M'' := ⟨fun q a b => (h'.1 q a b).trans (h.1 q a b), fun j a => (h'.2 j a).trans (h.2 j a)⟩
theorem FrX.Pr {M M' : mM} (h : FrX M M') : FrP M M' := ⟨fun q _ b => h.1 q b, h.2⟩
theorem FrB.Pr {M M' : mM} (h : FrB 3 M M') : FrP M M' := ⟨fun q a _ => h q (by omega), fun j _ => by rw [h 1 (by omega)]⟩
def OkL (M M' : mM) (N' : Nat → Int32) (m' S' t' n e' : Nat) : Prop := FrP M M' ∧ OkC M' ∧ TrN M' 3 N' m' S' t' ∧ CR M' n e' true
def ErL (M M' : mM) (k x : Nat) : Prop := FrP M M' ∧ widOk M' 3 ∧ M' 1 9 = Int32.ofNat k ∧ M' 1 10 = Int32.ofNat x ∧ 0 < k ∧ k < 7
def LSt (M : mM) (n : Nat) (B : Nat → Nat) (N : Nat → Int32) (m S t e x0 : Nat) : Prop := PC M n B ∧ OkC M ∧ TrN M 3 N m S t ∧ CR M n e true ∧ M 1 5 = Int32.ofNat x0
def LQ (Q : mQ) (GG : List sh) (M : mM) (n : Nat) (r : PR) : Prop := (∀ N' m' S' t' e' M', r = .inr (N', m', S', t', e') → OkL M M' N' m' S' t' n e' → Q (.inl none) GG M' 0 0) ∧ ∀ k x M', r = .inl (k, x) → ErL M M' k x → Q (.inl none) GG M' 0 0
theorem FrT.Tr {M M' : mM} {N : Nat → Int32} {m S t : Nat} (h : FrT M M') (hT : TrN M 3 N m S t) : TrN M' 3 N m S t := TrN_fr hT (fun q a b => h.1 q (by omega))
theorem ErC.L {M M1 M2 : mM} {k x m S t : Nat} {N : Nat → Int32} (hE : ErC M1 M2 k x) (hF : FrT M M1) (hT : TrN M 3 N m S t) : ErL M M2 k x :=
  ⟨(hF.X.trans hE.1).Pr, wid_fr (TrN_wid (hF.Tr hT)) (fun q a b => hE.1.1 q (by omega)), hE.2.1, hE.2.2.1, hE.2.2.2.1, hE.2.2.2.2⟩
theorem CR_fr {M M' : mM} {n e : Nat} {lr : Bool} (h : CR M n e lr) (h1 : M' 1 = M 1) : CR M' n e lr := by
  unfold CR
  rw [h1]
  exact h
theorem OkC_fr {M M' : mM} (h : OkC M) (h1 : M' 1 = M 1) : OkC M' := by
  unfold OkC
  rw [h1]
  exact h
section LIN
variable {hs f : Nat → Int32} {d len n : Nat} {c9 : sh} {r9 : List sh} {M : mM} {Q : mQ} {B : Nat → Nat} {N : Nat → Int32} {m S t : Nat}
theorem c_psack {e x0 : Nat} (hL : LSt M n B N m S t e x0) (hQ : LQ Q (gX c9 r9) M n (pSack B n x0 e N m S t)) : EvP (RO9 hs len f) (d + 8) 21 [.ref 1] (gX c9 r9) M Q := by
  have hG : pw (gX c9 r9) := pw_X
  obtain ⟨hP, hO, hT, hC, h5⟩ := hL
  obtain ⟨hok, her⟩ := hQ
  have hS := hT.1.2.2.2.2.1
  have hfull := fun d => c_isFullS (RO := RO9 hs len f) (d := d) (GG := gX c9 r9) bas_X hT.2.2.1.1 hT.2.2.1.2 hS
  refine EvP.wp [] 60 rfl ?_
  refine (hfull _).use ?_
  refine zb_if (fun hf => ?_) (fun hf => ?_)
  rotate_left
  · have hS16 : S = 16 := by
      have := of_decide_eq_true hf
      omega
    have hE := er_note (M := M) (M1 := M) (k := 5) FrT.refl h5 (by omega) (by omega)
    refine (c_note (x := Int32.ofNat 5) hG hO.1).use ?_
    have hno := hE.no
    refine (c_kindX hG hno).use ?_
    refine (c_numX hG hno).use ?_
    refine (c_numX hG hno).use ?_
    refine ⟨fun h => absurd h hno, fun _ => ?_⟩
    exact her 5 x0 _ (by rw [pSack, if_pos hS16]) (hE.L FrT.refl hT)
  have hS16 : S < 16 := by
    have := of_decide_eq_false hf
    omega
  refine c_kind hG hP hC hO.1 (fun i e1 M1 p1 f1 c1 => ?_) (fun k x M1 v p1 hE => ?_)
  rotate_left
  · have hno := hE.no
    refine (c_numX hG hno).use ?_
    refine (c_numX hG hno).use ?_
    refine ⟨fun h => absurd h hno, fun _ => ?_⟩
    exact her k x _ (by simp only [pSack, if_neg (by omega : ¬ S = 16), p1]) (hE.L FrT.refl hT)
  refine c_num hG (f1.P hP) c1 (f1.ok hO).1 (fun w e2 M2 p2 f2 c2 => ?_) (fun k x M2 v p2 hE => ?_)
  rotate_left
  · have hno := hE.no
    refine (c_numX hG hno).use ?_
    refine ⟨fun h => absurd h hno, fun _ => ?_⟩
    exact her k x _ (by simp only [pSack, if_neg (by omega : ¬ S = 16), p1, p2]) (hE.L f1 hT)
  have f12 := f1.trans f2
  refine c_num hG (f12.P hP) c2 (f12.ok hO).1 (fun v e3 M3 p3 f3 c3 => ?_) (fun k x M3 v p3 hE => ?_)
  rotate_left
  · have hno := hE.no
    refine ⟨fun h => absurd h hno, fun _ => ?_⟩
    exact her k x _ (by simp only [pSack, if_neg (by omega : ¬ S = 16), p1, p2, p3]) (hE.L f12 hT)
  have f13 := f12.trans f3
  refine ⟨fun _ => ?_, fun h => absurd (f13.ok hO).1 h⟩
  refine c_newSack bas_X (f13.Tr hT) hS16 (fun M4 t4 f4 => ?_)
  exact hok _ _ _ _ _ M4 (by simp only [pSack, if_neg (by omega : ¬ S = 16), p1, p2, p3]) ⟨f13.X.Pr.trans f4.Pr, OkC_fr (f13.ok hO) (f4 1 (by omega)), t4, CR_fr c3 (f4 1 (by omega))⟩
theorem c_mostOfStage {RO : List mE} {G : List sh} {k : Nat} (hk : k < 3) : EvR RO (d + 1) 99 [.int (Int32.ofNat k)] G M (some (.int (mostL k))) M := by
  rcases (show k = 0 ∨ k = 1 ∨ k = 2 by omega) with rfl | rfl | rfl
  · refine EvP.wp [] 60 rfl ?_
    refine ⟨fun _ => ?_, fun h => absurd rfl h⟩
    exact ⟨rfl, rfl, rfl, rfl, rfl⟩
  · refine EvP.wp [] 60 rfl ?_
    refine ⟨fun h => absurd h (by decide), fun _ => ?_⟩
    refine ⟨fun _ => ?_, fun h => absurd rfl h⟩
    exact ⟨rfl, rfl, rfl, rfl, rfl⟩
  · refine EvP.wp [] 60 rfl ?_
    refine ⟨fun h => absurd h (by decide), fun _ => ?_⟩
    refine ⟨fun h => absurd h (by decide), fun _ => ?_⟩
    exact ⟨rfl, rfl, rfl, rfl, rfl⟩
theorem c_pstage {e x0 k : Nat} (hk3 : k < 3) (hL : LSt M n B N m S t e x0) (hQ : LQ Q (gX c9 r9) M n (pStage B n x0 e k N m S t)) : EvP (RO9 hs len f) (d + 8) 23 [.ref 1, .int (Int32.ofNat k)] (gX c9 r9) M Q := by
  have hG : pw (gX c9 r9) := pw_X
  obtain ⟨hP, hO, hT, hC, h5⟩ := hL
  obtain ⟨hok, her⟩ := hQ
  have ht : t ≤ 8 := hT.1.2.2.2.2.2
  have hfull := fun d => c_isFullT (RO := RO9 hs len f) (d := d) (GG := gX c9 r9) bas_X hT.2.2.2.2.1.1 hT.2.2.2.2.1.2 ht
  refine EvP.wp [] 60 rfl ?_
  refine (hfull _).use ?_
  refine zb_if (fun hf => ?_) (fun hf => ?_)
  rotate_left
  · have ht8 : t = 8 := by
      have := of_decide_eq_true hf
      omega
    have hE := er_note (M := M) (M1 := M) (k := 5) FrT.refl h5 (by omega) (by omega)
    refine (c_note (x := Int32.ofNat 5) hG hO.1).use ?_
    have hno := hE.no
    refine (c_mostOfStage hk3).use ?_
    refine (c_numX hG hno).use ?_
    refine ⟨fun h => absurd h hno, fun _ => ?_⟩
    exact her 5 x0 _ (by rw [pStage, if_pos ht8]) (hE.L FrT.refl hT)
  have ht8 : t < 8 := by
    have := of_decide_eq_false hf
    omega
  refine (c_mostOfStage hk3).use ?_
  refine c_num hG hP hC hO.1 (fun v e1 M1 p1 f1 c1 => ?_) (fun k' x M1 v p1 hE => ?_)
  rotate_left
  · have hno := hE.no
    refine ⟨fun h => absurd h hno, fun _ => ?_⟩
    exact her k' x _ (by simp only [pStage, if_neg (by omega : ¬ t = 8), p1]) (hE.L FrT.refl hT)
  refine ⟨fun _ => ?_, fun h => absurd (f1.ok hO).1 h⟩
  refine c_newStage bas_X (f1.Tr hT) ht8 (fun M4 t4 f4 => ?_)
  exact hok _ _ _ _ _ M4 (by simp only [pStage, if_neg (by omega : ¬ t = 8), p1]) ⟨f1.X.Pr.trans f4.Pr, OkC_fr (f1.ok hO) (f4 1 (by omega)), t4, CR_fr c1 (f4 1 (by omega))⟩
theorem pNum_in {e e' : Nat} {lr : Bool} {lo hi v : Int32} (h : pNum B n e lr lo hi = .inr (v, e')) : ¬ v < lo ∧ ¬ hi < v ∧ e' = tokE B n e ∧ tokK B n e lr = 2 := by
  unfold pNum at h
  split at h
  · rename_i hk
    split at h
    · rename_i hb
      injection h with h
      injection h with h1 h2
      subst h1
      refine ⟨fun h9 => ?_, fun h9 => ?_, h2.symm, hk⟩
      · simp [inB, h9] at hb
      · simp [inB, h9] at hb
    · cases h
  · cases h
theorem c_prest {e x0 : Nat} (hI : invN N m S t) (hL : LSt M n B N m S t e x0) (hQ : LQ Q (gX c9 r9) M n (pRest B n e N m S t)) : EvP (RO9 hs len f) (d + 8) 20 [.ref 1] (gX c9 r9) M Q := by
  have hG : pw (gX c9 r9) := pw_X
  obtain ⟨hP, hO, hT, hC, h5⟩ := hL
  obtain ⟨hok, her⟩ := hQ
  have hday : M 3 5 = N 6 := hT.2.1.1
  have hmin : (if 9999 - M 3 5 < (99 : Int32) then 9999 - M 3 5 else (99 : Int32)) = restMost N := by rw [hday]; rfl
  have num : ∀ (d : Nat) (Q' : mQ), EvP (RO9 hs len f) (d + 4) 18 [.ref 1, .int 1, .int (restMost N)] (gX c9 r9) M Q' → EvP (RO9 hs len f) (d + 4) 18 [.ref 1, .int 1, .int (if 9999 - M 3 5 < (99 : Int32) then 9999 - M 3 5 else (99 : Int32))] (gX c9 r9) M Q' := fun d Q' h => by
    rw [hmin]; exact h
  refine EvP.wp [] 60 rfl ?_
  refine num _ _ ?_
  refine c_num hG hP hC hO.1 (fun v e1 M1 p1 f1 c1 => ?_) (fun k' x M1 v p1 hE => ?_)
  rotate_left
  · have hno := hE.no
    refine ⟨fun h => absurd h hno, fun _ => ?_⟩
    exact her k' x _ (by simp only [pRest, p1]) (hE.L FrT.refl hT)
  obtain ⟨v1, v2, -, -⟩ := pNum_in p1
  have hv : ∃ D, v = Int32.ofNat D ∧ D ≤ 99 := by
    have h0 : ¬ v < 0 := fun h => v1 (Int32.lt_trans h (by decide))
    have h9 : v < Int32.ofNat 100 := by
      rw [restMost] at v2
      split at v2
      · rename_i h
        rw [Int32.lt_iff_toInt_lt] at v2 h ⊢
        have : (99 : Int32).toInt = 99 := by decide
        have : (Int32.ofNat 100).toInt = 100 := by decide
        omega
      · rw [Int32.lt_iff_toInt_lt] at v2 ⊢
        have : (99 : Int32).toInt = 99 := by decide
        have : (Int32.ofNat 100).toInt = 100 := by decide
        omega
    obtain ⟨D, h1, h2⟩ := nat_lt (by omega) h0 h9
    exact ⟨D, h2, by omega⟩
  obtain ⟨D, rfl, hD⟩ := hv
  have hcl : (Int32.ofNat D).toNatClampNeg = D := clamp_nn (by omega)
  refine ⟨fun _ => ?_, fun h => absurd (f1.ok hO).1 h⟩
  refine c_stayFor bas_X (f1.Tr hT) hI hD (fun M4 t4 f4 => ?_)
  exact hok _ _ _ _ _ M4 (by simp only [pRest, p1, hcl]) ⟨f1.X.Pr.trans f4.Pr, OkC_fr (f1.ok hO) (f4 1 (by omega)), t4, CR_fr c1 (f4 1 (by omega))⟩
end LIN
