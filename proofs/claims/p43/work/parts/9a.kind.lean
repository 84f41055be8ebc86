/-! the class reads one of some words -/
theorem pWord_at {B : Nat → Nat} {n e q0 cnt i : Nat} {lr : Bool} (hi : i < cnt) (hb : ∀ j, j < i → (Nat.beq (tokK B n e lr) 1 && isW B (skp B n e) (tokE B n e) (q0 + j)) = false) (h : (Nat.beq (tokK B n e lr) 1 && isW B (skp B n e) (tokE B n e) (q0 + i)) = true) : pWord B n e lr q0 cnt = .inr (i, tokE B n e) ∧ tokK B n e lr = 1 := by
  rw [Bool.and_eq_true] at h
  have h1 := Nat.eq_of_beq_eq_true h.1
  have key : ∀ k, k ≤ i → rt (fun i => !isW B (skp B n e) (tokE B n e) (q0 + i)) cnt k = i := up_ind (rt_stop (P := fun i => !isW B (skp B n e) (tokE B n e) (q0 + i)) (p := i) (Or.inr (by rw [h.2]; rfl))) (fun k hk ih => by
    have h9 := hb k hk
    rw [h.1, Bool.true_and] at h9
    rw [rt_step (P := fun i => !isW B (skp B n e) (tokE B n e) (q0 + i)) (p := k) (by omega) (by rw [h9]; rfl), ih])
  rw [pWord, key 0 (by omega), if_pos ⟨h1, hi⟩]
  exact ⟨rfl, h1⟩
theorem pWord_no {B : Nat → Nat} {n e q0 cnt : Nat} {lr : Bool} (hb : ∀ j, j < cnt → (Nat.beq (tokK B n e lr) 1 && isW B (skp B n e) (tokE B n e) (q0 + j)) = false) : pWord B n e lr q0 cnt = .inl (1, skp B n e) := by
  rw [pWord, if_neg]
  rintro ⟨h1, h2⟩
  obtain ⟨g1, g2, g3, g4⟩ := rt_ge (P := fun i => !isW B (skp B n e) (tokE B n e) (q0 + i)) (n := cnt) (cnt - 0) 0 rfl
  have h3 := g4 h2
  have h4 := hb _ h2
  rw [h1, show Nat.beq 1 1 = true from rfl, Bool.true_and] at h4
  rw [h4] at h3
  cases h3
section KIND
variable {hs f : Nat → Int32} {d len n : Nat} {GG : List sh} {M : mM} {Q : mQ} {B : Nat → Nat}
theorem c_word {M1 : mM} {e k : Nat} {lr : Bool} (h1 : 1 ≤ k) (h2 : k ≤ 15) (hG : pw GG) (hP : PC M n B) (he : e ≤ n) (hT : TokC M M1 B n e lr) : EvR (RO9 hs len f) (d + 4) 10 [.ref 1, .ref (1000000 + 2 * k)] GG M1 (some (.int (zb (Nat.beq (tokK B n e lr) 1 && isW B (skp B n e) (tokE B n e) (kap k))))) M1 := by
  obtain ⟨f1, h5, h6, h4, h7, hc2, hc3⟩ := hT
  refine c_isWord h1 h2 hG (f1.P hP) h6 tokK_lt (fun h => ⟨h5, h4 (by omega), ?_, (tokE_le he).2⟩)
  have h9 := tok_1 he h
  rw [h9.2.1]
  exact (run_le (B := B) (k := 1) (skp_le (B := B) he).2).1
theorem c_kind {e : Nat} {lr : Bool} (hG0 : pw GG) (hP : PC M n B) (hC : CR M n e lr) (hk : M 1 9 = 0) (hok : ∀ i e' M', pWord B n e lr 9 4 = .inr (i, e') → FrT M M' → CR M' n e' true → Q (.inl (some (.int (Int32.ofNat i)))) GG M' 0 0) (her : ∀ k x M' v, pWord B n e lr 9 4 = .inl (k, x) → ErC M M' k x → Q (.inl (some (.int v))) GG M' 0 0) : EvP (RO9 hs len f) (d + 6) 15 [.ref 1] GG M Q := by
  obtain ⟨c9, r9, rfl⟩ := hG0
  have hG : pw (gX c9 r9) := pw_X
  refine EvP.wp [] 60 rfl ?_
  refine ⟨fun _ => ?_, fun h9 => absurd hk h9⟩
  refine c_tok hG hP hC (fun M1 hT1 => ?_)
  have w4 := fun d => c_word (hs := hs) (f := f) (len := len) (d := d) (k := 4) (by omega) (by omega) hG hP hC.2.1 hT1
  have w5 := fun d => c_word (hs := hs) (f := f) (len := len) (d := d) (k := 5) (by omega) (by omega) hG hP hC.2.1 hT1
  have w6 := fun d => c_word (hs := hs) (f := f) (len := len) (d := d) (k := 6) (by omega) (by omega) hG hP hC.2.1 hT1
  have w7 := fun d => c_word (hs := hs) (f := f) (len := len) (d := d) (k := 7) (by omega) (by omega) hG hP hC.2.1 hT1
  obtain ⟨f1, h5, h6, h4, h7, hc2, hc3⟩ := hT1
  have hk1 : M1 1 9 = 0 := (f1.2 9 (by omega)).trans hk
  refine (w4 _).use ?_
  refine zb_if (fun b0 => ?_) (fun b0 => ?_)
  rotate_left
  · obtain ⟨a1, a2⟩ := pWord_at (q0 := 9) (cnt := 4) (i := 0) (by omega) (fun j hj => absurd hj (by omega)) b0
    exact hok 0 _ M1 a1 f1 (hc2 (Or.inl a2))
  refine (w5 _).use ?_
  refine zb_if (fun b1 => ?_) (fun b1 => ?_)
  rotate_left
  · obtain ⟨a1, a2⟩ := pWord_at (q0 := 9) (cnt := 4) (i := 1) (by omega) (fun j hj => by rw [show j = 0 by omega]; exact b0) b1
    exact hok 1 _ M1 a1 f1 (hc2 (Or.inl a2))
  refine (w6 _).use ?_
  refine zb_if (fun b2 => ?_) (fun b2 => ?_)
  rotate_left
  · obtain ⟨a1, a2⟩ := pWord_at (q0 := 9) (cnt := 4) (i := 2) (by omega) (fun j hj => by
      rcases (show j = 0 ∨ j = 1 by omega) with rfl | rfl
      · exact b0
      · exact b1) b2
    exact hok 2 _ M1 a1 f1 (hc2 (Or.inl a2))
  refine (w7 _).use ?_
  refine zb_if (fun b3 => ?_) (fun b3 => ?_)
  rotate_left
  · obtain ⟨a1, a2⟩ := pWord_at (q0 := 9) (cnt := 4) (i := 3) (by omega) (fun j hj => by
      rcases (show j = 0 ∨ j = 1 ∨ j = 2 by omega) with rfl | rfl | rfl
      · exact b0
      · exact b1
      · exact b2) b3
    exact hok 3 _ M1 a1 f1 (hc2 (Or.inl a2))
  refine (c_note (x := Int32.ofNat 1) hG hk1).use ?_
  exact her 1 (skp B n e) _ _ (pWord_no (fun j hj => by
    rcases (show j = 0 ∨ j = 1 ∨ j = 2 ∨ j = 3 by omega) with rfl | rfl | rfl | rfl
    · exact b0
    · exact b1
    · exact b2
    · exact b3)) (er_note f1 h5 (by omega) (by omega))
theorem c_kindX (hG : pw GG) (hk : M 1 9 ≠ 0) : EvR (RO9 hs len f) (d + 1) 15 [.ref 1] GG M (some (.int (-1))) M := by
  obtain ⟨c9, r9, rfl⟩ := hG
  refine EvP.wp [] 60 rfl ?_
  refine ⟨fun h9 => absurd h9 hk, fun _ => ?_⟩
  exact ⟨rfl, rfl, rfl, rfl, rfl⟩
theorem c_side {e : Nat} {lr : Bool} (hG0 : pw GG) (hP : PC M n B) (hC : CR M n e lr) (hk : M 1 9 = 0) (hok : ∀ i e' M', pWord B n e lr 13 2 = .inr (i, e') → FrT M M' → CR M' n e' true → Q (.inl (some (.int (Int32.ofNat i)))) GG M' 0 0) (her : ∀ k x M' v, pWord B n e lr 13 2 = .inl (k, x) → ErC M M' k x → Q (.inl (some (.int v))) GG M' 0 0) : EvP (RO9 hs len f) (d + 6) 22 [.ref 1] GG M Q := by
  obtain ⟨c9, r9, rfl⟩ := hG0
  have hG : pw (gX c9 r9) := pw_X
  refine EvP.wp [] 60 rfl ?_
  refine ⟨fun _ => ?_, fun h9 => absurd hk h9⟩
  refine c_tok hG hP hC (fun M1 hT1 => ?_)
  have w4 := fun d => c_word (hs := hs) (f := f) (len := len) (d := d) (k := 12) (by omega) (by omega) hG hP hC.2.1 hT1
  have w5 := fun d => c_word (hs := hs) (f := f) (len := len) (d := d) (k := 13) (by omega) (by omega) hG hP hC.2.1 hT1
  obtain ⟨f1, h5, h6, h4, h7, hc2, hc3⟩ := hT1
  have hk1 : M1 1 9 = 0 := (f1.2 9 (by omega)).trans hk
  refine (w4 _).use ?_
  refine zb_if (fun b0 => ?_) (fun b0 => ?_)
  rotate_left
  · obtain ⟨a1, a2⟩ := pWord_at (q0 := 13) (cnt := 2) (i := 0) (by omega) (fun j hj => absurd hj (by omega)) b0
    exact hok 0 _ M1 a1 f1 (hc2 (Or.inl a2))
  refine (w5 _).use ?_
  refine zb_if (fun b1 => ?_) (fun b1 => ?_)
  rotate_left
  · obtain ⟨a1, a2⟩ := pWord_at (q0 := 13) (cnt := 2) (i := 1) (by omega) (fun j hj => by rw [show j = 0 by omega]; exact b0) b1
    exact hok 1 _ M1 a1 f1 (hc2 (Or.inl a2))
  refine (c_note (x := Int32.ofNat 1) hG hk1).use ?_
  exact her 1 (skp B n e) _ _ (pWord_no (fun j hj => by
    rcases (show j = 0 ∨ j = 1 by omega) with rfl | rfl
    · exact b0
    · exact b1)) (er_note f1 h5 (by omega) (by omega))
theorem c_sideX (hG : pw GG) (hk : M 1 9 ≠ 0) : EvR (RO9 hs len f) (d + 1) 22 [.ref 1] GG M (some (.int (-1))) M := by
  obtain ⟨c9, r9, rfl⟩ := hG
  refine EvP.wp [] 60 rfl ?_
  refine ⟨fun h9 => absurd h9 hk, fun _ => ?_⟩
  exact ⟨rfl, rfl, rfl, rfl, rfl⟩
end KIND
