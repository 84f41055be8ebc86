/-! the reference reads a number, a name, a word; or notes an error -/
def FrY (M M' : mM) : Prop := (∀ q, q ≠ 145 → M' q = M q) ∧ ∀ j, j < 19 → M' 145 j = M 145 j
theorem FrY.refl {M : mM} : FrY M M := ⟨fun _ _ => rfl, fun _ _ => rfl⟩
theorem FrY.trans {M M' M'' : mM} (h : FrY M M') (h' : FrY M' M'') : FrY M M'' := ⟨fun q a => (h'.1 q a).trans (h.1 q a), fun j a => (h'.2 j a).trans (h.2 j a)⟩
theorem FrN.Y {M M' : mM} (h : FrN M M') : FrY M M' := ⟨h.1, fun j a => h.2 j (Or.inl a)⟩
theorem FrY.P {M M' : mM} {n : Nat} {B : Nat → Nat} (h : FrY M M') (hP : PM M n B) : PM M' n B := ⟨hP.1, by rw [h.2 18 (by omega)]; exact hP.2.1, fun j hj => by rw [h.1 155 (by decide)]; exact hP.2.2 j hj⟩
theorem FrY.K {M M' : mM} (h : FrY M M') (hK : I_key M) : I_key M' := key_fr hK (h.1 146 (by decide)) (h.1 147 (by decide)) (h.1 148 (by decide))
def ErM (M M' : mM) (k x : Nat) : Prop := FrY M M' ∧ M' 145 23 = Int32.ofNat k ∧ M' 145 24 = Int32.ofNat x ∧ 0 < k ∧ k < 7
theorem ErM.no {M M' : mM} {k x : Nat} (h : ErM M M' k x) : M' 145 23 ≠ 0 := by
  obtain ⟨-, h1, -, h2, h3⟩ := h
  rw [h1]
  intro h9
  have := i_inj (by omega) (by omega) (h9.trans (show (0 : Int32) = Int32.ofNat 0 from rfl))
  omega
theorem ErM.pre {M M1 M2 : mM} {k x : Nat} (h : ErM M1 M2 k x) (hF : FrY M M1) : ErM M M2 k x := ⟨hF.trans h.1, h.2⟩
theorem FrN.ok {M M' : mM} (h : FrN M M') (h0 : M 145 23 = 0) : M' 145 23 = 0 := (h.2 23 (by omega)).trans h0
section MNUM
variable {RO : List mE} {d n sb : Nat} {ext : List sh} {M : mM} {Q : mQ} {B : Nat → Nat}
theorem e_errs {x : Int32} (h : M 145 23 = 0) : EvR RO (d + 1) 150 [.ref 145, .int x] (gW sb ext) M none (upM M 145 (upd (upd (M 145) 23 x) 24 (M 145 20))) := by
  refine EvR.of (fun Q hQ => ?_)
  refine EvP.wp [] 60 rfl ?_
  refine ⟨fun _ => ?_, fun h9 => absurd h h9⟩
  refine Q_of hQ rfl ?_
  simp only [upM_at, upM_upM]
  rfl
theorem e_errsX {x : Int32} (h : M 145 23 ≠ 0) : EvR RO (d + 1) 150 [.ref 145, .int x] (gW sb ext) M none M := by
  refine EvP.wp [] 60 rfl ?_
  refine ⟨fun h9 => absurd h9 h, fun _ => ?_⟩
  exact ⟨rfl, rfl, rfl, rfl, rfl⟩
theorem er_errs {k x : Nat} (h20 : M 145 20 = Int32.ofNat x) (h0 : 0 < k) (h7 : k < 7) : ErM M (upM M 145 (upd (upd (M 145) 23 (Int32.ofNat k)) 24 (M 145 20))) k x := by
  refine ⟨⟨fun q a => upM_ne a, fun j hj => by rw [upM_at, upd_ne (by omega), upd_ne (by omega)]⟩, by rw [upM_at, upd_ne (by decide), upd_at], by rw [upM_at, upd_at]; exact h20, h0, h7⟩
theorem e_goesX (h : M 145 23 ≠ 0) : EvR RO (d + 1) 161 [.ref 145] (gW sb ext) M none M := by
  refine EvP.wp [] 60 rfl ?_
  refine ⟨fun h9 => absurd h9 h, fun _ => ?_⟩
  exact ⟨rfl, rfl, rfl, rfl, rfl⟩
/-- the token ahead is taken -/
theorem e_nextT {e : Nat} {lr : Bool} (hP : PM M n B) (he : e ≤ n) (hT : MT M B n e lr) (hQ : ∀ M', FrN M M' → MT M' B n (tokE B n e) (Nat.beq (tokK B n e lr) 1 || Nat.beq (tokK B n e lr) 2) → Q (.inl none) (gW sb ext) M' 0 0) : EvP RO (d + 2) 188 [.ref 145] (gW sb ext) M Q := e_next hP (tokE_le he).2 tokK_lt hT.2.1 hT.2.2.1 hQ
theorem e_goes {e : Nat} {lr : Bool} (hP : PM M n B) (he : e ≤ n) (hT : MT M B n e lr) (h0 : M 145 23 = 0) (hQ : ∀ M', FrN M M' → MT M' B n (tokE B n e) (Nat.beq (tokK B n e lr) 1 || Nat.beq (tokK B n e lr) 2) → Q (.inl none) (gW sb ext) M' 0 0) : EvP RO (d + 3) 161 [.ref 145] (gW sb ext) M Q := by
  refine EvP.wp [] 60 rfl ?_
  refine ⟨fun _ => ?_, fun h9 => absurd h0 h9⟩
  refine e_nextT hP he hT (fun M' f1 t1 => ?_)
  exact hQ M' f1 t1
theorem e_hereX {lo hi : Int32} (h : M 145 23 ≠ 0) : EvR RO (d + 2) 162 [.ref 145, .int lo, .int hi] (gW sb ext) M (some (.int lo)) M := by
  refine EvP.wp [] 60 rfl ?_
  refine ⟨fun h9 => absurd h9 h, fun _ => ?_⟩
  refine ⟨fun h9 => absurd h9 h, fun _ => ?_⟩
  refine ⟨fun h9 => absurd h9 h, fun _ => ?_⟩
  exact ⟨rfl, rfl, rfl, rfl, rfl⟩
theorem e_here {e : Nat} {lr : Bool} {lo hi : Int32} (hT : MT M B n e lr) (h0 : M 145 23 = 0) (hok : ∀ v e', pNum B n e lr lo hi = .inr (v, e') → Q (.inl (some (.int v))) (gW sb ext) M 0 0) (her : ∀ k x M', pNum B n e lr lo hi = .inl (k, x) → ErM M M' k x → Q (.inl (some (.int lo))) (gW sb ext) M' 0 0) : EvP RO (d + 2) 162 [.ref 145, .int lo, .int hi] (gW sb ext) M Q := by
  obtain ⟨t1, t2, t3, t4⟩ := hT
  have hlt := tokK_lt (B := B) (n := n) (e := e) (lr := lr)
  refine EvP.wp [] 60 rfl ?_
  refine ⟨fun _ => ?_, fun h9 => absurd h0 h9⟩
  refine eq_if (b := 2) t3 rfl (by omega) (by omega) (fun h2 => ?_) (fun h2 => ?_)
  · have hv : M 145 22 = numV B n e := t4 h2
    refine ⟨fun _ => ?_, fun h9 => absurd h0 h9⟩
    refine e_in.use ?_
    rw [hv]
    refine zb_if (fun hb => ?_) (fun hb => ?_)
    · have hE := er_errs (M := M) (k := 2) t1 (by omega) (by omega)
      refine (e_errs (x := Int32.ofNat 2) h0).use ?_
      have hno := hE.no
      refine ⟨fun h9 => absurd h9 hno, fun _ => ?_⟩
      exact her 2 _ _ (by rw [pNum, if_pos h2, if_neg (by rw [hb]; decide)]) hE
    · refine ⟨fun _ => ?_, fun h9 => absurd h0 h9⟩
      have h9 := hok (numV B n e) (tokE B n e) (by rw [pNum, if_pos h2, if_pos hb])
      rw [← hv] at h9
      exact h9
  · have hE := er_errs (M := M) (k := 1) t1 (by omega) (by omega)
    refine (e_errs (x := Int32.ofNat 1) h0).use ?_
    have hno := hE.no
    refine ⟨fun h9 => absurd h9 hno, fun _ => ?_⟩
    refine ⟨fun h9 => absurd h9 hno, fun _ => ?_⟩
    exact her 1 _ _ (by rw [pNum, if_neg h2]) hE
theorem e_numX {lo hi : Int32} (h : M 145 23 ≠ 0) : EvR RO (d + 3) 221 [.ref 145, .int lo, .int hi] (gW sb ext) M (some (.int lo)) M := by
  refine EvP.wp [] 60 rfl ?_
  refine (e_hereX h).use ?_
  refine (e_goesX h).use ?_
  exact ⟨rfl, rfl, rfl, rfl, rfl⟩
theorem e_num {e : Nat} {lr : Bool} {lo hi : Int32} (hP : PM M n B) (he : e ≤ n) (hT : MT M B n e lr) (h0 : M 145 23 = 0) (hok : ∀ v e' M', pNum B n e lr lo hi = .inr (v, e') → FrN M M' → MT M' B n e' true → Q (.inl (some (.int v))) (gW sb ext) M' 0 0) (her : ∀ k x M', pNum B n e lr lo hi = .inl (k, x) → ErM M M' k x → Q (.inl (some (.int lo))) (gW sb ext) M' 0 0) : EvP RO (d + 4) 221 [.ref 145, .int lo, .int hi] (gW sb ext) M Q := by
  refine EvP.wp [] 60 rfl ?_
  refine e_here hT h0 (fun v e' h1 => ?_) (fun k x M1 h1 hE => ?_)
  · obtain ⟨-, -, g1, g2⟩ := pNum_in h1
    refine e_goes hP he hT h0 (fun M1 f1 t1 => ?_)
    rw [g2] at t1
    refine hok v e' M1 h1 f1 ?_
    rw [g1]
    exact t1
  · refine (e_goesX hE.no).use ?_
    exact her k x M1 h1 hE
theorem e_isName {e : Nat} {lr : Bool} (hP : PM M n B) (he : e ≤ n) (hT : MT M B n e lr) : EvR RO (d + 1) 171 [.ref 145] (gW sb ext) M (some (.int (zb (decide (tokK B n e lr = 1 ∧ tokE B n e - skp B n e ≤ 6))))) M := by
  obtain ⟨t1, t2, t3, t4⟩ := hT
  have hn := hP.1
  have hlt := tokK_lt (B := B) (n := n) (e := e) (lr := lr)
  have hte := tokE_le (B := B) he
  refine EvR.of (fun Q hQ => ?_)
  refine EvP.wp [] 60 rfl ?_
  refine eq_if (b := 1) t3 rfl (by omega) (by omega) (fun h1 => ?_) (fun h1 => ?_)
  · have hle := tok1_le he h1
    refine gt_if (a := tokE B n e - skp B n e) (b := 6) (by rw [t2, t1, i_sub (by omega)]) rfl (by omega) (by omega) (fun h => ?_) (fun h => ?_)
    · rw [decide_eq_false (by omega)] at hQ
      exact ⟨by decide +kernel, hQ⟩
    · rw [decide_eq_true ⟨h1, h⟩] at hQ
      exact ⟨by decide +kernel, hQ⟩
  · rw [decide_eq_false (fun h => h1 h.1)] at hQ
    exact ⟨by decide +kernel, hQ⟩
end MNUM
