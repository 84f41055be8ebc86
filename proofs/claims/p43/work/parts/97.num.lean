/-! numbers, names, ends -/
theorem tokK_lt {B : Nat → Nat} {n e : Nat} {lr : Bool} : tokK B n e lr < 5 := by
  have hk := kd_lt (b := B (skp B n e))
  unfold tokK
  repeat' split
  all_goals omega
theorem letters_l {N : Nat → Int32} {i : Nat} (h : lettersOk N i) : ∀ n, n < lettN N i → ∃ a, 97 ≤ a ∧ a ≤ 122 ∧ N (15 + 8 * i + 2 + n) = Int32.ofNat a := by
  obtain ⟨L, h1, h2, h3, h4⟩ := h
  have hL : lettN N i ≤ L := by
    have hnz : ∀ n, n < L → decide (N (15 + 8 * i + 2 + n) = 0) = false := fun n hn => by
      obtain ⟨a, a1, a2, a3⟩ := h3 n hn
      refine decide_eq_false (fun e => ?_)
      rw [a3] at e
      have := i_inj (by omega) (by omega) (e.trans (show (0 : Int32) = Int32.ofNat 0 from rfl))
      omega
    rcases Nat.lt_or_ge L 6 with h | h
    · have hno : pick (fun n => decide (N (15 + 8 * i + 2 + n) = 0)) (fun _ _ => false) L = none := by
        have key : ∀ n, n ≤ L → pick (fun n => decide (N (15 + 8 * i + 2 + n) = 0)) (fun _ _ => false) n = none := by
          intro n
          induction n with
          | zero => intro _; rfl
          | succ n ih => intro hn; rw [pick_off (hnz n (by omega))]; exact ih (by omega)
        exact key L (Nat.le_refl _)
      have h9 := pick_new hno (show (fun n => decide (N (15 + 8 * i + 2 + n) = 0)) L = true from decide_eq_true (h4 L (Nat.le_refl _) h))
      rw [lettN, lettI, pick_stays h9 6 (by omega)]
      exact Nat.le_refl _
    · exact Nat.le_trans lettN_le (by omega)
  exact fun n hn => h3 n (by omega)
/-! the class reads a number, a name, a line's end, or notes an error -/
def FrX (M M' : mM) : Prop := (∀ q, q ≠ 1 → M' q = M q) ∧ ∀ j, j < 4 → M' 1 j = M 1 j
theorem FrX.refl {M : mM} : FrX M M := ⟨fun _ _ => rfl, fun _ _ => rfl⟩
theorem FrX.trans {M M' M'' : mM} (h : FrX M M') (h' : FrX M' M'') : FrX M M'' := ⟨fun q a => (h'.1 q a).trans (h.1 q a), fun j a => (h'.2 j a).trans (h.2 j a)⟩
theorem FrT.X {M M' : mM} (h : FrT M M') : FrX M M' := ⟨h.1, fun j a => h.2 j (Or.inl a)⟩
def ErC (M M' : mM) (k x : Nat) : Prop := FrX M M' ∧ M' 1 9 = Int32.ofNat k ∧ M' 1 10 = Int32.ofNat x ∧ 0 < k ∧ k < 7
def OkC (M : mM) : Prop := M 1 9 = 0 ∧ M 1 10 = -1
theorem FrT.ok {M M' : mM} (h : FrT M M') (hO : OkC M) : OkC M' := ⟨(h.2 9 (by omega)).trans hO.1, (h.2 10 (by omega)).trans hO.2⟩
theorem ErC.no {M M' : mM} {k x : Nat} (h : ErC M M' k x) : M' 1 9 ≠ 0 := by
  obtain ⟨-, h1, -, h2, h3⟩ := h
  rw [h1]
  intro h9
  have := i_inj (by omega) (by omega) (h9.trans (show (0 : Int32) = Int32.ofNat 0 from rfl))
  omega
/-- the number behind e -/
def numV (B : Nat → Nat) (n e : Nat) : Int32 := nmV B (skp B n e) (tokE B n e - skp B n e)
def pNum (B : Nat → Nat) (n e : Nat) (lr : Bool) (lo hi : Int32) : (Nat × Nat) ⊕ (Int32 × Nat) := if tokK B n e lr = 2 then (if inB (numV B n e) lo hi = true then .inr (numV B n e, tokE B n e) else .inl (2, skp B n e)) else .inl (1, skp B n e)
def pName (B : Nat → Nat) (n e : Nat) (lr : Bool) : (Nat × Nat) ⊕ (Nat × Nat) := if tokK B n e lr = 1 ∧ tokE B n e - skp B n e ≤ 6 then .inr (skp B n e, tokE B n e) else .inl (1, skp B n e)
def pEnd (B : Nat → Nat) (n e : Nat) (lr : Bool) : (Nat × Nat) ⊕ (Bool × Nat) := if tokK B n e lr = 0 then .inr (false, tokE B n e) else if tokK B n e lr = 3 then .inr (true, tokE B n e) else .inl (1, skp B n e)
section NUM
variable {RO : List mE} {d n : Nat} {GG : List sh} {M : mM} {Q : mQ} {B : Nat → Nat}
theorem c_note {x : Int32} (hG : pw GG) (h : M 1 9 = 0) : EvR RO (d + 1) 13 [.ref 1, .int x] GG M none (upM M 1 (upd (upd (M 1) 9 x) 10 (M 1 5))) := by
  obtain ⟨c9, r9, rfl⟩ := hG
  refine EvR.of (fun Q hQ => ?_)
  refine EvP.wp [] 60 rfl ?_
  refine ⟨fun _ => ?_, fun h9 => absurd h h9⟩
  refine Q_of hQ rfl ?_
  simp only [upM_at, upM_upM]
  rfl
theorem c_noteX {x : Int32} (hG : pw GG) (h : M 1 9 ≠ 0) : EvR RO (d + 1) 13 [.ref 1, .int x] GG M none M := by
  obtain ⟨c9, r9, rfl⟩ := hG
  refine EvP.wp [] 60 rfl ?_
  refine ⟨fun h9 => absurd h9 h, fun _ => ?_⟩
  exact ⟨rfl, rfl, rfl, rfl, rfl⟩
theorem er_note {M1 : mM} {k x : Nat} (hF : FrT M M1) (h5 : M1 1 5 = Int32.ofNat x) (h0 : 0 < k) (h7 : k < 7) : ErC M (upM M1 1 (upd (upd (M1 1) 9 (Int32.ofNat k)) 10 (M1 1 5))) k x := by
  refine ⟨hF.X.trans ⟨fun q a => upM_ne a, fun j a => by rw [upM_at, upd_ne (by omega), upd_ne (by omega)]⟩, by rw [upM_at, upd_ne (by decide), upd_at], by rw [upM_at, upd_at]; exact h5, h0, h7⟩
theorem c_num {e : Nat} {lr : Bool} {lo hi : Int32} (hG0 : pw GG) (hP : PC M n B) (hC : CR M n e lr) (hk : M 1 9 = 0) (hok : ∀ v e' M', pNum B n e lr lo hi = .inr (v, e') → FrT M M' → CR M' n e' true → Q (.inl (some (.int v))) GG M' 0 0) (her : ∀ k x M' v, pNum B n e lr lo hi = .inl (k, x) → ErC M M' k x → Q (.inl (some (.int v))) GG M' 0 0) : EvP RO (d + 4) 18 [.ref 1, .int lo, .int hi] GG M Q := by
  obtain ⟨c9, r9, rfl⟩ := hG0
  have hG : pw (gX c9 r9) := pw_X
  have hlt := tokK_lt (B := B) (n := n) (e := e) (lr := lr)
  refine EvP.wp [50] 60 rfl ?_
  refine ⟨fun _ => ?_, fun h9 => absurd hk h9⟩
  refine c_tok hG hP hC (fun M1 hT1 => ?_)
  obtain ⟨f1, h5, h6, h4, h7, hc2, hc3⟩ := hT1
  have hk1 : M1 1 9 = 0 := (f1.2 9 (by omega)).trans hk
  have err : ∀ k, 0 < k → k < 7 → pNum B n e lr lo hi = .inl (k, skp B n e) → GoP RO (d + 3) 18 [.ref 1, .int lo, .int hi] [] (gX c9 r9) (upM M1 1 (upd (upd (M1 1) 9 (Int32.ofNat k)) 10 (M1 1 5))) 50 0 0 Q := fun k k0 k7 hp => by
    refine wp_sound [] 60 _ _ _ _ _ _ _ ?_
    exact her k _ _ _ hp (er_note f1 h5 k0 k7)
  refine eq_if (b := 2) h6 rfl (by omega) (by omega) (fun h2 => ?_) (fun h2 => ?_)
  · have hv : M1 1 7 = numV B n e := h7 h2
    refine ⟨fun a => ?_, fun a => ?_⟩
    · refine (c_note (x := Int32.ofNat 2) hG hk1).use ?_
      rw [hv] at a
      exact err 2 (by omega) (by omega) (by rw [pNum, if_pos h2, if_neg (by simp [inB, a])])
    · refine ⟨fun b => ?_, fun b => ?_⟩
      · refine (c_note (x := Int32.ofNat 2) hG hk1).use ?_
        rw [hv] at a b
        exact err 2 (by omega) (by omega) (by rw [pNum, if_pos h2, if_neg (by simp [inB, a, b])])
      · rw [hv] at a b
        refine wp_sound [] 60 _ _ _ _ _ _ _ ?_
        have h9 := hok (numV B n e) (tokE B n e) M1 (by rw [pNum, if_pos h2, if_pos (by simp [inB, a, b])]) f1 (hc2 (Or.inr h2))
        rw [← hv] at h9
        exact h9
  · refine (c_note (x := Int32.ofNat 1) hG hk1).use ?_
    exact err 1 (by omega) (by omega) (by rw [pNum, if_neg h2])
theorem c_numX {lo hi : Int32} (hG : pw GG) (hk : M 1 9 ≠ 0) : EvR RO (d + 1) 18 [.ref 1, .int lo, .int hi] GG M (some (.int 0)) M := by
  obtain ⟨c9, r9, rfl⟩ := hG
  refine EvP.wp [] 60 rfl ?_
  refine ⟨fun h9 => absurd h9 hk, fun _ => ?_⟩
  exact ⟨rfl, rfl, rfl, rfl, rfl⟩
theorem c_name {e : Nat} {lr : Bool} (hG0 : pw GG) (hP : PC M n B) (hC : CR M n e lr) (hk : M 1 9 = 0) (hok : ∀ M', pName B n e lr = .inr (skp B n e, tokE B n e) → FrT M M' → CR M' n (tokE B n e) true → M' 1 5 = Int32.ofNat (skp B n e) → M' 1 4 = Int32.ofNat (tokE B n e) → tokK B n e lr = 1 → Q (.inl none) GG M' 0 0) (her : ∀ k x M', pName B n e lr = .inl (k, x) → ErC M M' k x → Q (.inl none) GG M' 0 0) : EvP RO (d + 4) 17 [.ref 1] GG M Q := by
  obtain ⟨c9, r9, rfl⟩ := hG0
  have hG : pw (gX c9 r9) := pw_X
  have hn := hP.1
  have hlt := tokK_lt (B := B) (n := n) (e := e) (lr := lr)
  have hsk := skp_le (B := B) hC.2.1
  have hte := tokE_le (B := B) hC.2.1
  refine EvP.wp [] 60 rfl ?_
  refine ⟨fun _ => ?_, fun h9 => absurd hk h9⟩
  refine c_tok hG hP hC (fun M1 hT1 => ?_)
  obtain ⟨f1, h5, h6, h4, h7, hc2, hc3⟩ := hT1
  have hk1 : M1 1 9 = 0 := (f1.2 9 (by omega)).trans hk
  refine eq_if (b := 1) h6 rfl (by omega) (by omega) (fun h1 => ?_) (fun h1 => ?_)
  · have h4 := h4 (by omega)
    have hse : skp B n e ≤ tokE B n e := by
      have h2 := tok_1 hC.2.1 h1
      rw [h2.2.1]
      exact (run_le (B := B) (k := 1) hsk.2).1
    refine gt_if (a := tokE B n e - skp B n e) (b := 6) (by rw [h4, h5, i_sub hse]) rfl (by omega) (by omega) (fun h => ?_) (fun h => ?_)
    · refine (c_note (x := Int32.ofNat 1) hG hk1).use ?_
      exact her 1 (skp B n e) _ (by rw [pName, if_neg (by omega)]) (er_note f1 h5 (by omega) (by omega))
    · exact hok M1 (by rw [pName, if_pos ⟨h1, h⟩]) f1 (hc2 (Or.inl h1)) h5 h4 h1
  · refine (c_note (x := Int32.ofNat 1) hG hk1).use ?_
    exact her 1 (skp B n e) _ (by rw [pName, if_neg (by omega)]) (er_note f1 h5 (by omega) (by omega))
theorem c_nameX (hG : pw GG) (hk : M 1 9 ≠ 0) : EvR RO (d + 1) 17 [.ref 1] GG M none M := by
  obtain ⟨c9, r9, rfl⟩ := hG
  refine EvP.wp [] 60 rfl ?_
  refine ⟨fun h9 => absurd h9 hk, fun _ => ?_⟩
  exact ⟨rfl, rfl, rfl, rfl, rfl⟩
theorem c_end {e : Nat} {lr : Bool} (hG0 : pw GG) (hP : PC M n B) (hC : CR M n e lr) (hk : M 1 9 = 0) (hok : ∀ b M', pEnd B n e lr = .inr (b, tokE B n e) → FrT M M' → (b = false → M' 1 6 = 0) → (b = true → M' 1 6 = 3 ∧ CR M' n (tokE B n e) false) → Q (.inl none) GG M' 0 0) (her : ∀ k x M', pEnd B n e lr = .inl (k, x) → ErC M M' k x → Q (.inl none) GG M' 0 0) : EvP RO (d + 4) 7 [.ref 1] GG M Q := by
  obtain ⟨c9, r9, rfl⟩ := hG0
  have hG : pw (gX c9 r9) := pw_X
  have hlt := tokK_lt (B := B) (n := n) (e := e) (lr := lr)
  refine EvP.wp [] 60 rfl ?_
  refine ⟨fun _ => ?_, fun h9 => absurd hk h9⟩
  refine c_tok hG hP hC (fun M1 hT1 => ?_)
  obtain ⟨f1, h5, h6, h4, h7, hc2, hc3⟩ := hT1
  have hk1 : M1 1 9 = 0 := (f1.2 9 (by omega)).trans hk
  refine eq_if (b := 0) h6 rfl (by omega) (by omega) (fun h0 => ?_) (fun h0 => ?_)
  · exact hok false M1 (by rw [pEnd, if_pos h0]) f1 (fun _ => by rw [h6, h0]; rfl) (fun h => by cases h)
  · refine eq_if (b := 3) h6 rfl (by omega) (by omega) (fun h3 => ?_) (fun h3 => ?_)
    · exact hok true M1 (by rw [pEnd, if_neg h0, if_pos h3]) f1 (fun h => by cases h) (fun _ => ⟨by rw [h6, h3]; rfl, hc3 h3⟩)
    · refine (c_note (x := Int32.ofNat 1) hG hk1).use ?_
      exact her 1 (skp B n e) _ (by rw [pEnd, if_neg h0, if_neg h3]) (er_note f1 h5 (by omega) (by omega))
theorem c_endX (hG : pw GG) (hk : M 1 9 ≠ 0) : EvR RO (d + 1) 7 [.ref 1] GG M none M := by
  obtain ⟨c9, r9, rfl⟩ := hG
  refine EvP.wp [] 60 rfl ?_
  refine ⟨fun h9 => absurd h9 hk, fun _ => ?_⟩
  exact ⟨rfl, rfl, rfl, rfl, rfl⟩
end NUM
