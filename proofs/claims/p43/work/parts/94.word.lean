/-! words: what they are, how the class compares them -/
def wdL (q : Nat) : List Nat := match q with
  | 0 => [116, 114, 97, 105, 110]
  | 1 => [109, 117, 108, 101]
  | 2 => [115, 97, 99, 107]
  | 3 => [114, 111, 97, 100]
  | 4 => [102, 111, 114, 100]
  | 5 => [99, 97, 109, 112]
  | 6 => [112, 97, 99, 107]
  | 7 => [116, 114, 105, 112]
  | 8 => [114, 101, 115, 116]
  | 9 => [103, 114, 97, 105, 110]
  | 10 => [99, 108, 111, 116, 104]
  | 11 => [105, 114, 111, 110]
  | 12 => [103, 108, 97, 115, 115]
  | 13 => [108, 101, 102, 116]
  | _ => [114, 105, 103, 104, 116]
/-- the words in the class's own order -/
def kap (k : Nat) : Nat := match k with
  | 1 => 0
  | 2 => 1
  | 3 => 2
  | 4 => 9
  | 5 => 10
  | 6 => 11
  | 7 => 12
  | 8 => 3
  | 9 => 4
  | 10 => 5
  | 11 => 6
  | 12 => 13
  | 13 => 14
  | 14 => 8
  | _ => 7
theorem k15 {k : Nat} (h1 : 1 ≤ k) (h2 : k ≤ 15) : k = 1 ∨ k = 2 ∨ k = 3 ∨ k = 4 ∨ k = 5 ∨ k = 6 ∨ k = 7 ∨ k = 8 ∨ k = 9 ∨ k = 10 ∨ k = 11 ∨ k = 12 ∨ k = 13 ∨ k = 14 ∨ k = 15 := by omega
theorem wtab : ∀ k, k < 16 → ∀ j, j < 5 → ((strF (wdL (kap k)) j &&& 255).toUInt32 % 65536).toInt32 = Int32.ofNat ((wdL (kap k)).getD j 0) ∧ narrow .char (.int (((strF (wdL (kap k)) j &&& 255).toUInt32 % 65536).toInt32)) = .int (((strF (wdL (kap k)) j &&& 255).toUInt32 % 65536).toInt32) ∧ (wdL (kap k)).getD j 0 < 256 := by decide +kernel
theorem wdl5 : ∀ k, k < 16 → (wdL (kap k)).length ≤ 5 ∧ 4 ≤ (wdL (kap k)).length := by decide +kernel
/-- from s to p stands the word q -/
def isW (B : Nat → Nat) (s p q : Nat) : Bool := Nat.beq (p - s) (wdL q).length && (List.range (wdL q).length).all (fun i => Nat.beq (B (s + i)) ((wdL q).getD i 0))
theorem isW_on {B : Nat → Nat} {s p q : Nat} (h1 : p - s = (wdL q).length) (h2 : ∀ i, i < (wdL q).length → B (s + i) = (wdL q).getD i 0) : isW B s p q = true := by
  rw [isW, h1, Nat.beq_refl, Bool.true_and]
  exact List.all_eq_true.mpr (fun i hi => by rw [h2 i (List.mem_range.mp hi)]; exact Nat.beq_refl _)
theorem isW_len {B : Nat → Nat} {s p q : Nat} (h1 : ¬ (wdL q).length = p - s) : isW B s p q = false := by
  rw [isW, nbf (fun h => h1 h.symm)]; rfl
theorem isW_off {B : Nat → Nat} {s p q i : Nat} (hi : i < (wdL q).length) (h : ¬ (wdL q).getD i 0 = B (s + i)) : isW B s p q = false := by
  rw [isW]
  cases h9 : (List.range (wdL q).length).all (fun i => Nat.beq (B (s + i)) ((wdL q).getD i 0)) with
  | false => rw [Bool.and_false]
  | true =>
    have h8 := List.all_eq_true.mp h9 i (List.mem_range.mpr hi)
    exact absurd (Nat.eq_of_beq_eq_true h8).symm h
section WORD
variable {hs f : Nat → Int32} {d len n : Nat} {M : mM} {Q : mQ} {G GG : List sh} {B : Nat → Nat}
theorem c_wCoder {k : Nat} (h1 : 1 ≤ k) (h2 : k ≤ 15) : EvR (RO9 hs len f) (d + 1) 288 [.ref (1000000 + 2 * k)] G M (some (.int 0)) M := by
  rcases k15 h1 h2 with rfl | rfl | rfl | rfl | rfl | rfl | rfl | rfl | rfl | rfl | rfl | rfl | rfl | rfl | rfl
  all_goals
    refine EvP.wp [] 60 rfl ?_
    refine ⟨fun h9 => absurd h9 (by decide), fun _ => ?_⟩
    exact ⟨by decide +kernel, rfl, rfl, rfl, rfl, rfl⟩
theorem c_wLen {k : Nat} (h1 : 1 ≤ k) (h2 : k ≤ 15) : EvR (RO9 hs len f) (d + 2) 293 [.ref (1000000 + 2 * k)] G M (some (.int (Int32.ofNat (wdL (kap k)).length))) M := by
  have hc := fun d => c_wCoder (hs := hs) (f := f) (len := len) (d := d) (G := G) (M := M) h1 h2
  rcases k15 h1 h2 with rfl | rfl | rfl | rfl | rfl | rfl | rfl | rfl | rfl | rfl | rfl | rfl | rfl | rfl | rfl
  all_goals
    refine EvP.wp [] 60 rfl ?_
    refine (hc _).use ?_
    refine ⟨?_, rfl, rfl, rfl, rfl⟩
    rw [sr0]; rfl
theorem c_wLat {k : Nat} (h1 : 1 ≤ k) (h2 : k ≤ 15) : EvR (RO9 hs len f) (d + 1) 292 [.ref (1000000 + 2 * k)] G M (some (.int 1)) M := by
  rcases k15 h1 h2 with rfl | rfl | rfl | rfl | rfl | rfl | rfl | rfl | rfl | rfl | rfl | rfl | rfl | rfl | rfl
  all_goals
    refine EvP.wp [] 60 rfl ?_
    refine ⟨fun h9 => absurd h9 (by decide), fun _ => ?_⟩
    refine ⟨fun _ => ?_, fun h9 => absurd rfl h9⟩
    exact ⟨by decide +kernel, rfl, rfl, rfl, rfl, rfl⟩
theorem c_wAt {k j : Nat} (h1 : 1 ≤ k) (h2 : k ≤ 15) (hj : j < (wdL (kap k)).length) : EvR (RO9 hs len f) (d + 3) 284 [.ref (1000000 + 2 * k), .int (Int32.ofNat j)] G M (some (.int (Int32.ofNat ((wdL (kap k)).getD j 0)))) M := by
  have hl := fun d => c_wLat (hs := hs) (f := f) (len := len) (d := d) (G := G) (M := M) h1 h2
  have hw := wdl5 k (by omega)
  obtain ⟨hv, hn, -⟩ := wtab k (by omega) j (by omega)
  have hck : ∀ d, EvR (RO9 hs len f) (d + 1) 287 [.int (Int32.ofNat j), .int (Int32.ofNat (wdL (kap k)).length)] G M none M := fun d => c_check (i_nonneg (by omega)) ((i_lt (by omega) (by omega)).mpr hj)
  rw [← hv]
  clear hv hw
  rcases k15 h1 h2 with rfl | rfl | rfl | rfl | rfl | rfl | rfl | rfl | rfl | rfl | rfl | rfl | rfl | rfl | rfl
  all_goals
    refine EvP.wp [] 60 rfl ?_
    refine (hl _).use ?_
    refine ⟨fun h9 => absurd h9 (by decide), fun _ => ?_⟩
    refine EvP.wp [] 60 rfl ?_
    refine (hck _).use ?_
    refine ⟨j, rfl, hj, ?_⟩
    refine ⟨hn, ?_⟩
    exact ⟨hn, rfl, rfl, rfl, rfl, rfl⟩
theorem c_isWord {k s p t : Nat} (h1 : 1 ≤ k) (h2 : k ≤ 15) (hG0 : pw GG) (hP : PC M n B) (h6 : M 1 6 = Int32.ofNat t) (ht : t < 5) (h45 : t = 1 → M 1 5 = Int32.ofNat s ∧ M 1 4 = Int32.ofNat p ∧ s ≤ p ∧ p ≤ n) : EvR (RO9 hs len f) (d + 4) 10 [.ref 1, .ref (1000000 + 2 * k)] GG M (some (.int (zb (Nat.beq t 1 && isW B s p (kap k))))) M := by
  obtain ⟨c9, r9, rfl⟩ := hG0
  have hG : pw (gX c9 r9) := pw_X
  have hn := hP.1
  have hw := wdl5 k (by omega)
  refine EvR.of (fun Q hQ => ?_)
  by_cases t1 : t = 1
  · subst t1
    obtain ⟨h5, h4, sp, pn⟩ := h45 rfl
    have hlen := fun d => c_wLen (hs := hs) (f := f) (len := len) (d := d) (G := gX c9 r9) (M := M) h1 h2
    have yes : isW B s p (kap k) = true → Q (.inl (some (.int 1))) (gX c9 r9) M 0 0 := fun h => by
      rw [h] at hQ; exact hQ
    have no : isW B s p (kap k) = false → Q (.inl (some (.int 0))) (gX c9 r9) M 0 0 := fun h => by
      rw [h] at hQ; exact hQ
    have loop : p - s = (wdL (kap k)).length → GoP (RO9 hs len f) (d + 3) 10 [.ref 1, .ref (1000000 + 2 * k), .int (Int32.ofNat 0)] [] (gX c9 r9) M 28 0 0 Q := fun hL => by
      refine up_ind (S := (wdL (kap k)).length) (H := fun j => (∀ i, i < j → B (s + i) = (wdL (kap k)).getD i 0) → GoP (RO9 hs len f) (d + 3) 10 [.ref 1, .ref (1000000 + 2 * k), .int (Int32.ofNat j)] [] (gX c9 r9) M 28 0 0 Q) (fun hall => ?_) (fun j hj ih hall => ?_) 0 (by omega) (fun i hi => absurd hi (by omega))
      · have y := yes (isW_on hL hall)
        rcases k15 h1 h2 with rfl | rfl | rfl | rfl | rfl | rfl | rfl | rfl | rfl | rfl | rfl | rfl | rfl | rfl | rfl
        all_goals
          refine wp_sound [28] 60 _ _ _ _ _ _ _ ?_
          refine (hlen _).use ?_
          refine lt_if rfl rfl (by omega) (by omega) (fun h9 => absurd h9 (by omega)) (fun _ => ?_)
          exact ⟨by decide +kernel, y⟩
      · have hat := fun d => c_wAt (hs := hs) (f := f) (len := len) (d := d) (G := gX c9 r9) (M := M) h1 h2 hj
        have hb : ∀ d, EvR (RO9 hs len f) (d + 1) 5 [.ref 1, .int (M 1 5 + Int32.ofNat j)] (gX c9 r9) M (some (.int (Int32.ofNat (B (s + j))))) M := fun d => by
          have h9 := c_byteAt (RO := RO9 hs len f) (d := d) (j := s + j) hG hP (by omega)
          rw [bA_in (by omega)] at h9
          rw [h5, i_add]
          exact h9
        have hB := (hP.2.2 (s + j) (by omega)).2
        have hg := (wtab k (by omega) j (by omega)).2.2
        have y := fun h => no (isW_off (B := B) (s := s) (p := p) hj h)
        have ih2 : (wdL (kap k)).getD j 0 = B (s + j) → GoP (RO9 hs len f) (d + 3) 10 [.ref 1, .ref (1000000 + 2 * k), .int (Int32.ofNat j + 1)] [] (gX c9 r9) M 28 0 0 Q := fun h => by
          rw [i_inc]
          refine ih (fun i hi => ?_)
          by_cases e : i = j
          · rw [e]; exact h.symm
          · exact hall i (by omega)
        clear ih hQ yes no
        rcases k15 h1 h2 with rfl | rfl | rfl | rfl | rfl | rfl | rfl | rfl | rfl | rfl | rfl | rfl | rfl | rfl | rfl
        all_goals
          refine wp_sound [28] 60 _ _ _ _ _ _ _ ?_
          refine (hlen _).use ?_
          refine lt_if rfl rfl (by omega) (by omega) (fun _ => ?_) (fun h9 => absurd h9 (by omega))
          refine (hat _).use ?_
          refine (hb _).use ?_
          refine eq_if rfl rfl (by omega) (by omega) (fun h9 => ?_) (fun h9 => ?_)
          · exact ih2 h9
          · exact ⟨by decide +kernel, y h9⟩
    have hno := fun h => no (isW_len (B := B) (s := s) (p := p) (q := kap k) h)
    clear hQ yes no
    rcases k15 h1 h2 with rfl | rfl | rfl | rfl | rfl | rfl | rfl | rfl | rfl | rfl | rfl | rfl | rfl | rfl | rfl
    all_goals
      refine EvP.wp [28] 60 rfl ?_
      refine eq_if (b := 1) h6 rfl (by omega) (by omega) (fun _ => ?_) (fun h9 => absurd rfl h9)
      refine (hlen _).use ?_
      refine eq_if (b := p - s) rfl (by rw [h4, h5, i_sub sp]) (by omega) (by omega) (fun hl => ?_) (fun hl => ?_)
      · exact loop hl.symm
      · exact ⟨by decide +kernel, hno hl⟩
  · rw [nbf t1, Bool.false_and] at hQ
    refine EvP.wp [28] 60 rfl ?_
    refine eq_if (b := 1) h6 rfl (by omega) (by omega) (fun h9 => absurd h9 t1) (fun _ => ?_)
    exact ⟨by decide +kernel, hQ⟩
end WORD
