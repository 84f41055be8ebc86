/-! the output: a StringBuilder that grows at most three times -/
abbrev Wg (g : Nat) : List sh := gW (sbOf g) (extOf g)
def OutT (g : Nat) (M : mM) (l : List Int32) : Prop := g ≤ 3 ∧ l.length ≤ capOf g ∧ M 142 1 = 0 ∧ M 142 3 = Int32.ofNat l.length ∧ (∀ j, j < capOf g → fits .byte (.int (M (sbOf g) j)) = true) ∧ ∀ j, j < l.length → M (sbOf g) j = l.getD j 0
def FrO (M M' : mM) : Prop := ∀ q, q ≠ 142 → q ≠ 143 → q < 159 → M' q = M q
theorem FrO.refl {M : mM} : FrO M M := fun _ _ _ _ => rfl
theorem FrO.trans {M M' M'' : mM} (h : FrO M M') (h' : FrO M' M'') : FrO M M'' := fun q a b c => (h' q a b c).trans (h q a b c)
theorem g_cases {g : Nat} (h : g ≤ 3) : g = 0 ∨ g = 1 ∨ g = 2 ∨ g = 3 := by omega
theorem sbOf_lt {g : Nat} : sbOf g = 143 ∨ 159 ≤ sbOf g := by
  unfold sbOf
  split
  · exact Or.inl rfl
  · exact Or.inr (by decide)
  · exact Or.inr (by decide)
  · exact Or.inr (by decide)
theorem sh0 {x : Int32} : x <<< ((0 : Int32) &&& 31) = x := by
  rw [show ((0 : Int32) &&& 31) = 0 from by decide]
  simp
theorem sr0 {x : Int32} : x >>> ((0 : Int32) &&& 31) = x := by
  rw [show ((0 : Int32) &&& 31) = 0 from by decide]
  simp
def sgn (x : Int32) : Prop := ∃ a, a < 128 ∧ x = Int32.ofNat a
theorem byte_small : ∀ a, a < 128 → vp_nar .byte (Int32.ofNat a) = Int32.ofNat a ∧ byB (Int32.ofNat a) = Int32.ofNat a ∧ fits .byte (.int (Int32.ofNat a)) = true ∧ vp_nar .byte ((Int32.ofNat a).toInt8.toInt32) = Int32.ofNat a ∧ ((Int32.ofNat a).toUInt32 % 65536).toInt32 = Int32.ofNat a ∧ (Int32.ofNat a &&& 255) = Int32.ofNat a := by decide +kernel
theorem sgn_byB {x : Int32} (h : sgn x) : byB x = x := by
  obtain ⟨a, h1, rfl⟩ := h
  exact (byte_small a h1).2.1
theorem big_no {n : Nat} (h : n < 1000000) : ¬ (2147483639 : Int32) < Int32.ofNat n := by
  rw [Int32.lt_iff_toInt_lt, i_toInt h, show (2147483639 : Int32).toInt = 2147483639 from by decide]
  omega
section SB
variable {hs f : Nat → Int32} {d len : Nat} {RO : List mE} {M : mM} {Q : mQ} {g : Nat} {l : List Int32} {G : List sh}
theorem c_newLen {a b c : Nat} (hbc : b ≤ c) (ha : 0 < a) (hac : a + c < 100000) : EvR RO (d + 1) 352 [.int (Int32.ofNat a), .int (Int32.ofNat b), .int (Int32.ofNat c)] G M (some (.int (Int32.ofNat (a + c)))) M := by
  have hmx : (if Int32.ofNat b < Int32.ofNat c then Int32.ofNat c else Int32.ofNat b) = Int32.ofNat c := by
    by_cases h : b < c
    · rw [if_pos ((i_lt (by omega) (by omega)).mpr h)]
    · rw [if_neg (fun h2 => h ((i_lt (by omega) (by omega)).mp h2)), show b = c by omega]
  have hsum : Int32.ofNat a + (if Int32.ofNat b < Int32.ofNat c then Int32.ofNat c else Int32.ofNat b) = Int32.ofNat (a + c) := by rw [hmx, i_add]
  refine EvR.of (fun Q hQ => ?_)
  rw [← hsum] at hQ
  refine EvP.wp [] 60 rfl ?_
  refine lt_if (a := 0) (b := a + c) rfl hsum (by omega) (by omega) (fun _ => ?_) (fun h => absurd h (by omega))
  refine ⟨fun h => absurd h (by rw [hsum]; exact big_no (by omega)), fun _ => ?_⟩
  exact hQ
theorem c_isLat {sb : Nat} {ext : List sh} (h : M 142 1 = 0) : EvR RO (d + 1) 337 [.ref 142] (gW sb ext) M (some (.int 1)) M := by
  refine EvP.wp [] 60 rfl ?_
  refine ⟨fun h9 => absurd h9 (by decide), fun _ => ?_⟩
  refine ⟨fun _ => ?_, fun h9 => absurd h h9⟩
  exact ⟨by decide +kernel, rfl, rfl, rfl, rfl, rfl⟩
theorem c_canEnc {a : Nat} (ha : a < 128) : EvR RO (d + 1) 294 [.int (Int32.ofNat a)] G M (some (.int 1)) M := by
  refine EvP.wp [] 60 rfl ?_
  refine gt_if (a := a) (b := 255) rfl rfl (by omega) (by omega) (fun h => absurd h (by omega)) (fun _ => ?_)
  exact ⟨by decide +kernel, rfl, rfl, rfl, rfl, rfl⟩
theorem c_ens_no0 {q : Nat} (h : M 142 1 = 0) (hq : q ≤ 16) : EvR RO (d + 1) 332 [.ref 142, .int (Int32.ofNat q)] (Wg 0) M none M := by
  have e1 : Int32.ofNat 16 >>> (M 142 1 &&& 31) = Int32.ofNat 16 := by rw [h, sr0]
  refine EvP.wp [] 60 rfl ?_
  refine ⟨fun h9 => absurd h9 ?_, fun _ => ?_⟩
  · rw [e1, i_subpos (by omega) (by omega)]; omega
  · exact ⟨rfl, rfl, rfl, rfl, rfl⟩
theorem c_ens_no1 {q : Nat} (h : M 142 1 = 0) (hq : q ≤ 34) : EvR RO (d + 1) 332 [.ref 142, .int (Int32.ofNat q)] (Wg 1) M none M := by
  have e1 : Int32.ofNat 34 >>> (M 142 1 &&& 31) = Int32.ofNat 34 := by rw [h, sr0]
  refine EvP.wp [] 60 rfl ?_
  refine ⟨fun h9 => absurd h9 ?_, fun _ => ?_⟩
  · rw [e1, i_subpos (by omega) (by omega)]; omega
  · exact ⟨rfl, rfl, rfl, rfl, rfl⟩
theorem c_ens_no2 {q : Nat} (h : M 142 1 = 0) (hq : q ≤ 70) : EvR RO (d + 1) 332 [.ref 142, .int (Int32.ofNat q)] (Wg 2) M none M := by
  have e1 : Int32.ofNat 70 >>> (M 142 1 &&& 31) = Int32.ofNat 70 := by rw [h, sr0]
  refine EvP.wp [] 60 rfl ?_
  refine ⟨fun h9 => absurd h9 ?_, fun _ => ?_⟩
  · rw [e1, i_subpos (by omega) (by omega)]; omega
  · exact ⟨rfl, rfl, rfl, rfl, rfl⟩
theorem c_ens_no3 {q : Nat} (h : M 142 1 = 0) (hq : q ≤ 142) : EvR RO (d + 1) 332 [.ref 142, .int (Int32.ofNat q)] (Wg 3) M none M := by
  have e1 : Int32.ofNat 142 >>> (M 142 1 &&& 31) = Int32.ofNat 142 := by rw [h, sr0]
  refine EvP.wp [] 60 rfl ?_
  refine ⟨fun h9 => absurd h9 ?_, fun _ => ?_⟩
  · rw [e1, i_subpos (by omega) (by omega)]; omega
  · exact ⟨rfl, rfl, rfl, rfl, rfl⟩
theorem c_newCap0 {q : Nat} (h : M 142 1 = 0) (hq : 16 < q) (hq2 : q ≤ 16 + 4) : EvR RO (d + 2) 339 [.ref 142, .int (Int32.ofNat q)] (Wg 0) M (some (.int (Int32.ofNat 34))) M := by
  have e1 : Int32.ofNat q <<< (M 142 1 &&& 31) - Int32.ofNat 16 = Int32.ofNat (q - 16) := by rw [h, sh0, i_sub (by omega)]
  have e2 : Int32.ofNat 16 + (2 : Int32) <<< (M 142 1 &&& 31) = Int32.ofNat (16 + 2) := by rw [h, sh0]; rfl
  have e3 : Int32.ofNat 34 >>> (M 142 1 &&& 31) = Int32.ofNat 34 := by rw [h, sr0]
  have hc : ∀ d, EvR RO (d + 1) 352 [.int (Int32.ofNat 16), .int (Int32.ofNat q <<< (M 142 1 &&& 31) - Int32.ofNat 16), .int (Int32.ofNat 16 + (2 : Int32) <<< (M 142 1 &&& 31))] (Wg 0) M (some (.int (Int32.ofNat 34))) M := fun d => by
    rw [e1, e2]
    exact c_newLen (a := 16) (b := q - 16) (c := 16 + 2) (by omega) (by omega) (by omega)
  refine EvR.of (fun Q hQ => ?_)
  rw [← e3] at hQ
  refine EvP.wp [] 60 rfl ?_
  refine (hc _).use ?_
  refine ⟨fun h9 => absurd h9 (by decide), fun _ => ?_⟩
  exact hQ
theorem c_copyOf0 (hf : ∀ j, j < 16 → fits .byte (.int (M 143 j)) = true) (hQ : Q (.inl (some (.ref 159))) (Wg 0 ++ [.inl (0, 34)]) (upM (upM M 159 (fun _ => 0)) 159 (cpyF (M 143) (fun _ => 0) 16)) 1 34) : EvP RO (d + 1) 348 [.ref 143, .int (Int32.ofNat 34)] (Wg 0) M Q := by
  refine EvP.wp [] 60 rfl ?_
  refine ⟨fun h9 => absurd h9 (by decide), fun _ => ?_⟩
  refine ⟨by decide +kernel, by decide +kernel, ?_⟩
  have e1 : (Wg 0).length = 159 := rfl
  have e2 : (Int32.ofNat 34).toNatClampNeg = 34 := by decide +kernel
  have e3 : Wg 0 ++ [.inl (0, 34)] = gW 143 [.inl (0, 34)] := rfl
  rw [e3] at hQ
  rw [e1, e2, e3]
  refine ⟨by decide, ?_⟩
  refine ⟨by decide +kernel, List.all_eq_true.mpr (fun i hi => ?_), ?_⟩
  · have h9 : i < 16 := List.mem_range.mp hi
    show fits .byte (.int (M 143 (0 + i))) = true
    rw [Nat.zero_add]
    exact hf i h9
  · exact hQ
theorem c_ens_up0 {q : Nat} (h : M 142 1 = 0) (hf : ∀ j, j < 16 → fits .byte (.int (M 143 j)) = true) (hq : 16 < q) (hq2 : q ≤ 16 + 4) (hQ : Q (.inl none) (Wg 1) (upM (upM M 159 (fun _ => 0)) 159 (cpyF (M 143) (fun _ => 0) 16)) 1 34) : EvP RO (d + 3) 332 [.ref 142, .int (Int32.ofNat q)] (Wg 0) M Q := by
  have e1 : Int32.ofNat 16 >>> (M 142 1 &&& 31) = Int32.ofNat 16 := by rw [h, sr0]
  have e3 : Int32.ofNat 34 <<< (M 142 1 &&& 31) = Int32.ofNat 34 := by rw [h, sh0]
  have hn := fun d => c_newCap0 (RO := RO) (d := d) h hq hq2
  have hc : ∀ (d : Nat) (Q' : mQ), Q' (.inl (some (.ref 159))) (Wg 0 ++ [.inl (0, 34)]) (upM (upM M 159 (fun _ => 0)) 159 (cpyF (M 143) (fun _ => 0) 16)) 1 34 → EvP RO (d + 1) 348 [.ref 143, .int (Int32.ofNat 34 <<< (M 142 1 &&& 31))] (Wg 0) M Q' := fun d Q' hq' => by
    rw [e3]
    exact c_copyOf0 hf hq'
  refine EvP.wp [] 60 rfl ?_
  refine ⟨fun _ => ?_, fun h9 => absurd ?_ h9⟩
  · refine (hn _).use ?_
    refine hc _ _ ?_
    exact hQ
  · rw [e1, i_subpos (by omega) (by omega)]; omega
theorem out_up0 {l : List Int32} (hO : OutT 0 M l) : OutT 1 (upM (upM M 159 (fun _ => 0)) 159 (cpyF (M 143) (fun _ => 0) 16)) l ∧ FrO M (upM (upM M 159 (fun _ => 0)) 159 (cpyF (M 143) (fun _ => 0) 16)) := by
  obtain ⟨a1, a2, a3, a4, a5, a6⟩ := hO
  have a2 : l.length ≤ 16 := a2
  have a5 : ∀ j, j < 16 → fits .byte (.int (M 143 j)) = true := a5
  have hv : ∀ j, upM (upM M 159 (fun _ => 0)) 159 (cpyF (M 143) (fun _ => 0) 16) 159 j = if j < 16 then M 143 j else 0 := fun j => by
    rw [upM_at]
    by_cases h : j < 16
    · rw [if_pos h, cpyF_at h]
    · rw [if_neg h, cpyF, va_cpy, if_neg (by omega)]
  refine ⟨⟨by omega, show l.length ≤ 34 by omega, by rw [upM_ne (by decide), upM_ne (by decide)]; exact a3, by rw [upM_ne (by decide), upM_ne (by decide)]; exact a4, fun j _ => ?_, fun j hj => ?_⟩, fun q h1 h2 h3 => by rw [upM_ne (by omega), upM_ne (by omega)]⟩
  · show fits .byte (.int (upM (upM M 159 (fun _ => 0)) 159 (cpyF (M 143) (fun _ => 0) 16) 159 j)) = true
    rw [hv]
    by_cases h : j < 16
    · rw [if_pos h]; exact a5 j h
    · rw [if_neg h]; decide +kernel
  · show upM (upM M 159 (fun _ => 0)) 159 (cpyF (M 143) (fun _ => 0) 16) 159 j = _
    rw [hv, if_pos (by omega)]
    exact a6 j hj
theorem c_newCap1 {q : Nat} (h : M 142 1 = 0) (hq : 34 < q) (hq2 : q ≤ 34 + 4) : EvR RO (d + 2) 339 [.ref 142, .int (Int32.ofNat q)] (Wg 1) M (some (.int (Int32.ofNat 70))) M := by
  have e1 : Int32.ofNat q <<< (M 142 1 &&& 31) - Int32.ofNat 34 = Int32.ofNat (q - 34) := by rw [h, sh0, i_sub (by omega)]
  have e2 : Int32.ofNat 34 + (2 : Int32) <<< (M 142 1 &&& 31) = Int32.ofNat (34 + 2) := by rw [h, sh0]; rfl
  have e3 : Int32.ofNat 70 >>> (M 142 1 &&& 31) = Int32.ofNat 70 := by rw [h, sr0]
  have hc : ∀ d, EvR RO (d + 1) 352 [.int (Int32.ofNat 34), .int (Int32.ofNat q <<< (M 142 1 &&& 31) - Int32.ofNat 34), .int (Int32.ofNat 34 + (2 : Int32) <<< (M 142 1 &&& 31))] (Wg 1) M (some (.int (Int32.ofNat 70))) M := fun d => by
    rw [e1, e2]
    exact c_newLen (a := 34) (b := q - 34) (c := 34 + 2) (by omega) (by omega) (by omega)
  refine EvR.of (fun Q hQ => ?_)
  rw [← e3] at hQ
  refine EvP.wp [] 60 rfl ?_
  refine (hc _).use ?_
  refine ⟨fun h9 => absurd h9 (by decide), fun _ => ?_⟩
  exact hQ
theorem c_copyOf1 (hf : ∀ j, j < 34 → fits .byte (.int (M 159 j)) = true) (hQ : Q (.inl (some (.ref 160))) (Wg 1 ++ [.inl (0, 70)]) (upM (upM M 160 (fun _ => 0)) 160 (cpyF (M 159) (fun _ => 0) 34)) 1 70) : EvP RO (d + 1) 348 [.ref 159, .int (Int32.ofNat 70)] (Wg 1) M Q := by
  refine EvP.wp [] 60 rfl ?_
  refine ⟨fun h9 => absurd h9 (by decide), fun _ => ?_⟩
  refine ⟨by decide +kernel, by decide +kernel, ?_⟩
  have e1 : (Wg 1).length = 160 := rfl
  have e2 : (Int32.ofNat 70).toNatClampNeg = 70 := by decide +kernel
  have e3 : Wg 1 ++ [.inl (0, 70)] = gW 159 [.inl (0, 34), .inl (0, 70)] := rfl
  rw [e3] at hQ
  rw [e1, e2, e3]
  refine ⟨by decide, ?_⟩
  refine ⟨by decide +kernel, List.all_eq_true.mpr (fun i hi => ?_), ?_⟩
  · have h9 : i < 34 := List.mem_range.mp hi
    show fits .byte (.int (M 159 (0 + i))) = true
    rw [Nat.zero_add]
    exact hf i h9
  · exact hQ
theorem c_ens_up1 {q : Nat} (h : M 142 1 = 0) (hf : ∀ j, j < 34 → fits .byte (.int (M 159 j)) = true) (hq : 34 < q) (hq2 : q ≤ 34 + 4) (hQ : Q (.inl none) (Wg 2) (upM (upM M 160 (fun _ => 0)) 160 (cpyF (M 159) (fun _ => 0) 34)) 1 70) : EvP RO (d + 3) 332 [.ref 142, .int (Int32.ofNat q)] (Wg 1) M Q := by
  have e1 : Int32.ofNat 34 >>> (M 142 1 &&& 31) = Int32.ofNat 34 := by rw [h, sr0]
  have e3 : Int32.ofNat 70 <<< (M 142 1 &&& 31) = Int32.ofNat 70 := by rw [h, sh0]
  have hn := fun d => c_newCap1 (RO := RO) (d := d) h hq hq2
  have hc : ∀ (d : Nat) (Q' : mQ), Q' (.inl (some (.ref 160))) (Wg 1 ++ [.inl (0, 70)]) (upM (upM M 160 (fun _ => 0)) 160 (cpyF (M 159) (fun _ => 0) 34)) 1 70 → EvP RO (d + 1) 348 [.ref 159, .int (Int32.ofNat 70 <<< (M 142 1 &&& 31))] (Wg 1) M Q' := fun d Q' hq' => by
    rw [e3]
    exact c_copyOf1 hf hq'
  refine EvP.wp [] 60 rfl ?_
  refine ⟨fun _ => ?_, fun h9 => absurd ?_ h9⟩
  · refine (hn _).use ?_
    refine hc _ _ ?_
    exact hQ
  · rw [e1, i_subpos (by omega) (by omega)]; omega
theorem out_up1 {l : List Int32} (hO : OutT 1 M l) : OutT 2 (upM (upM M 160 (fun _ => 0)) 160 (cpyF (M 159) (fun _ => 0) 34)) l ∧ FrO M (upM (upM M 160 (fun _ => 0)) 160 (cpyF (M 159) (fun _ => 0) 34)) := by
  obtain ⟨a1, a2, a3, a4, a5, a6⟩ := hO
  have a2 : l.length ≤ 34 := a2
  have a5 : ∀ j, j < 34 → fits .byte (.int (M 159 j)) = true := a5
  have hv : ∀ j, upM (upM M 160 (fun _ => 0)) 160 (cpyF (M 159) (fun _ => 0) 34) 160 j = if j < 34 then M 159 j else 0 := fun j => by
    rw [upM_at]
    by_cases h : j < 34
    · rw [if_pos h, cpyF_at h]
    · rw [if_neg h, cpyF, va_cpy, if_neg (by omega)]
  refine ⟨⟨by omega, show l.length ≤ 70 by omega, by rw [upM_ne (by decide), upM_ne (by decide)]; exact a3, by rw [upM_ne (by decide), upM_ne (by decide)]; exact a4, fun j _ => ?_, fun j hj => ?_⟩, fun q h1 h2 h3 => by rw [upM_ne (by omega), upM_ne (by omega)]⟩
  · show fits .byte (.int (upM (upM M 160 (fun _ => 0)) 160 (cpyF (M 159) (fun _ => 0) 34) 160 j)) = true
    rw [hv]
    by_cases h : j < 34
    · rw [if_pos h]; exact a5 j h
    · rw [if_neg h]; decide +kernel
  · show upM (upM M 160 (fun _ => 0)) 160 (cpyF (M 159) (fun _ => 0) 34) 160 j = _
    rw [hv, if_pos (by omega)]
    exact a6 j hj
theorem c_newCap2 {q : Nat} (h : M 142 1 = 0) (hq : 70 < q) (hq2 : q ≤ 70 + 4) : EvR RO (d + 2) 339 [.ref 142, .int (Int32.ofNat q)] (Wg 2) M (some (.int (Int32.ofNat 142))) M := by
  have e1 : Int32.ofNat q <<< (M 142 1 &&& 31) - Int32.ofNat 70 = Int32.ofNat (q - 70) := by rw [h, sh0, i_sub (by omega)]
  have e2 : Int32.ofNat 70 + (2 : Int32) <<< (M 142 1 &&& 31) = Int32.ofNat (70 + 2) := by rw [h, sh0]; rfl
  have e3 : Int32.ofNat 142 >>> (M 142 1 &&& 31) = Int32.ofNat 142 := by rw [h, sr0]
  have hc : ∀ d, EvR RO (d + 1) 352 [.int (Int32.ofNat 70), .int (Int32.ofNat q <<< (M 142 1 &&& 31) - Int32.ofNat 70), .int (Int32.ofNat 70 + (2 : Int32) <<< (M 142 1 &&& 31))] (Wg 2) M (some (.int (Int32.ofNat 142))) M := fun d => by
    rw [e1, e2]
    exact c_newLen (a := 70) (b := q - 70) (c := 70 + 2) (by omega) (by omega) (by omega)
  refine EvR.of (fun Q hQ => ?_)
  rw [← e3] at hQ
  refine EvP.wp [] 60 rfl ?_
  refine (hc _).use ?_
  refine ⟨fun h9 => absurd h9 (by decide), fun _ => ?_⟩
  exact hQ
theorem c_copyOf2 (hf : ∀ j, j < 70 → fits .byte (.int (M 160 j)) = true) (hQ : Q (.inl (some (.ref 161))) (Wg 2 ++ [.inl (0, 142)]) (upM (upM M 161 (fun _ => 0)) 161 (cpyF (M 160) (fun _ => 0) 70)) 1 142) : EvP RO (d + 1) 348 [.ref 160, .int (Int32.ofNat 142)] (Wg 2) M Q := by
  refine EvP.wp [] 60 rfl ?_
  refine ⟨fun h9 => absurd h9 (by decide), fun _ => ?_⟩
  refine ⟨by decide +kernel, by decide +kernel, ?_⟩
  have e1 : (Wg 2).length = 161 := rfl
  have e2 : (Int32.ofNat 142).toNatClampNeg = 142 := by decide +kernel
  have e3 : Wg 2 ++ [.inl (0, 142)] = gW 160 [.inl (0, 34), .inl (0, 70), .inl (0, 142)] := rfl
  rw [e3] at hQ
  rw [e1, e2, e3]
  refine ⟨by decide, ?_⟩
  refine ⟨by decide +kernel, List.all_eq_true.mpr (fun i hi => ?_), ?_⟩
  · have h9 : i < 70 := List.mem_range.mp hi
    show fits .byte (.int (M 160 (0 + i))) = true
    rw [Nat.zero_add]
    exact hf i h9
  · exact hQ
theorem c_ens_up2 {q : Nat} (h : M 142 1 = 0) (hf : ∀ j, j < 70 → fits .byte (.int (M 160 j)) = true) (hq : 70 < q) (hq2 : q ≤ 70 + 4) (hQ : Q (.inl none) (Wg 3) (upM (upM M 161 (fun _ => 0)) 161 (cpyF (M 160) (fun _ => 0) 70)) 1 142) : EvP RO (d + 3) 332 [.ref 142, .int (Int32.ofNat q)] (Wg 2) M Q := by
  have e1 : Int32.ofNat 70 >>> (M 142 1 &&& 31) = Int32.ofNat 70 := by rw [h, sr0]
  have e3 : Int32.ofNat 142 <<< (M 142 1 &&& 31) = Int32.ofNat 142 := by rw [h, sh0]
  have hn := fun d => c_newCap2 (RO := RO) (d := d) h hq hq2
  have hc : ∀ (d : Nat) (Q' : mQ), Q' (.inl (some (.ref 161))) (Wg 2 ++ [.inl (0, 142)]) (upM (upM M 161 (fun _ => 0)) 161 (cpyF (M 160) (fun _ => 0) 70)) 1 142 → EvP RO (d + 1) 348 [.ref 160, .int (Int32.ofNat 142 <<< (M 142 1 &&& 31))] (Wg 2) M Q' := fun d Q' hq' => by
    rw [e3]
    exact c_copyOf2 hf hq'
  refine EvP.wp [] 60 rfl ?_
  refine ⟨fun _ => ?_, fun h9 => absurd ?_ h9⟩
  · refine (hn _).use ?_
    refine hc _ _ ?_
    exact hQ
  · rw [e1, i_subpos (by omega) (by omega)]; omega
theorem out_up2 {l : List Int32} (hO : OutT 2 M l) : OutT 3 (upM (upM M 161 (fun _ => 0)) 161 (cpyF (M 160) (fun _ => 0) 70)) l ∧ FrO M (upM (upM M 161 (fun _ => 0)) 161 (cpyF (M 160) (fun _ => 0) 70)) := by
  obtain ⟨a1, a2, a3, a4, a5, a6⟩ := hO
  have a2 : l.length ≤ 70 := a2
  have a5 : ∀ j, j < 70 → fits .byte (.int (M 160 j)) = true := a5
  have hv : ∀ j, upM (upM M 161 (fun _ => 0)) 161 (cpyF (M 160) (fun _ => 0) 70) 161 j = if j < 70 then M 160 j else 0 := fun j => by
    rw [upM_at]
    by_cases h : j < 70
    · rw [if_pos h, cpyF_at h]
    · rw [if_neg h, cpyF, va_cpy, if_neg (by omega)]
  refine ⟨⟨by omega, show l.length ≤ 142 by omega, by rw [upM_ne (by decide), upM_ne (by decide)]; exact a3, by rw [upM_ne (by decide), upM_ne (by decide)]; exact a4, fun j _ => ?_, fun j hj => ?_⟩, fun q h1 h2 h3 => by rw [upM_ne (by omega), upM_ne (by omega)]⟩
  · show fits .byte (.int (upM (upM M 161 (fun _ => 0)) 161 (cpyF (M 160) (fun _ => 0) 70) 161 j)) = true
    rw [hv]
    by_cases h : j < 70
    · rw [if_pos h]; exact a5 j h
    · rw [if_neg h]; decide +kernel
  · show upM (upM M 161 (fun _ => 0)) 161 (cpyF (M 160) (fun _ => 0) 70) 161 j = _
    rw [hv, if_pos (by omega)]
    exact a6 j hj
/-- room for q letters -/
theorem c_ens {q : Nat} (hO : OutT g M l) (hlq : l.length ≤ q) (hq4 : q ≤ l.length + 4) (hq : q ≤ 120) (hQ : ∀ g' M' mc ms, OutT g' M' l → q ≤ capOf g' → FrO M M' → mc + g = g' → ms + 150 * g ≤ 150 * g' → Q (.inl none) (Wg g') M' mc ms) : EvP RO (d + 3) 332 [.ref 142, .int (Int32.ofNat q)] (Wg g) M Q := by
  have hg := hO.1
  have hc := hO.2.2.1
  rcases g_cases hg with rfl | rfl | rfl | rfl
  · have hl : l.length ≤ 16 := hO.2.1
    by_cases h : q ≤ 16
    · exact (c_ens_no0 hc h).use (hQ 0 M 0 0 hO h FrO.refl rfl (by omega))
    · exact c_ens_up0 hc hO.2.2.2.2.1 (by omega) (by omega) (hQ 1 _ 1 34 (out_up0 hO).1 (show q ≤ 34 by omega) (out_up0 hO).2 rfl (by omega))
  · have hl : l.length ≤ 34 := hO.2.1
    by_cases h : q ≤ 34
    · exact (c_ens_no1 hc h).use (hQ 1 M 0 0 hO h FrO.refl rfl (by omega))
    · exact c_ens_up1 hc hO.2.2.2.2.1 (by omega) (by omega) (hQ 2 _ 1 70 (out_up1 hO).1 (show q ≤ 70 by omega) (out_up1 hO).2 rfl (by omega))
  · have hl : l.length ≤ 70 := hO.2.1
    by_cases h : q ≤ 70
    · exact (c_ens_no2 hc h).use (hQ 2 M 0 0 hO h FrO.refl rfl (by omega))
    · exact c_ens_up2 hc hO.2.2.2.2.1 (by omega) (by omega) (hQ 3 _ 1 142 (out_up2 hO).1 (show q ≤ 142 by omega) (out_up2 hO).2 rfl (by omega))
  · have hl : l.length ≤ 142 := hO.2.1
    exact (c_ens_no3 hc (by omega)).use (hQ 3 M 0 0 hO (show q ≤ 142 by omega) FrO.refl rfl (by omega))
theorem out_push {x : Int32} (hO : OutT g M l) (hx : sgn x) (hl : l.length + 1 ≤ capOf g) : OutT g (upM (upM M 142 (upd (M 142) 3 (Int32.ofNat (l.length + 1)))) (sbOf g) (upd (M (sbOf g)) l.length x)) (l ++ [x]) ∧ FrO M (upM (upM M 142 (upd (M 142) 3 (Int32.ofNat (l.length + 1)))) (sbOf g) (upd (M (sbOf g)) l.length x)) := by
  obtain ⟨a1, a2, a3, a4, a5, a6⟩ := hO
  have hne : 142 ≠ sbOf g := by
    have := sbOf_lt (g := g)
    omega
  refine ⟨⟨a1, by rw [List.length_append]; exact hl, by rw [upM_ne hne, upM_at, upd_ne (by decide)]; exact a3, by rw [upM_ne hne, upM_at, upd_at, List.length_append]; rfl, fun j hj => ?_, fun j hj => ?_⟩, fun q h1 h2 h3 => ?_⟩
  · rw [upM_at]
    by_cases e : j = l.length
    · obtain ⟨a, ha, rfl⟩ := hx
      rw [e, upd_at]; exact (byte_small a ha).2.2.1
    · rw [upd_ne e]; exact a5 j hj
  · rw [List.length_append] at hj
    rw [upM_at]
    by_cases e : j = l.length
    · subst e
      rw [upd_at, List.getD_eq_getElem?_getD, List.getElem?_append_right (Nat.le_refl _), Nat.sub_self]; rfl
    · have hj2 : j < l.length := by
        have : ([x] : List Int32).length = 1 := rfl
        omega
      rw [upd_ne e, a6 j hj2, List.getD_eq_getElem?_getD, List.getD_eq_getElem?_getD, List.getElem?_append_left hj2]
  · have := sbOf_lt (g := g)
    rw [upM_ne (by omega), upM_ne h1]
def aQ (Q : mQ) (g : Nat) (M : mM) (l : List Int32) : Prop := ∀ g' M' mc ms, OutT g' M' l → FrO M M' → mc + g = g' → ms + 150 * g ≤ 150 * g' → Q (.inl (some (.ref 142))) (Wg g') M' mc ms
/-- one sign more -/
theorem c_appC {x : Int32} (hO : OutT g M l) (hx : sgn x) (hl : l.length + 1 ≤ 120) (hQ : aQ Q g M (l ++ [x])) : EvP RO (d + 6) 321 [.ref 142, .int x] (Wg g) M Q := by
  obtain ⟨a, ha, rfl⟩ := id hx
  have hg := hO.1
  have hcnt : M 142 3 + 1 = Int32.ofNat (l.length + 1) := by rw [hO.2.2.2.1, i_inc]
  have en : ∀ (d : Nat) (Q' : mQ), (∀ g' M' mc ms, OutT g' M' l → l.length + 1 ≤ capOf g' → FrO M M' → mc + g = g' → ms + 150 * g ≤ 150 * g' → Q' (.inl none) (Wg g') M' mc ms) → EvP RO (d + 3) 332 [.ref 142, .int (M 142 3 + 1)] (Wg g) M Q' := fun d Q' h => by
    rw [hcnt]
    exact c_ens hO (by omega) (by omega) hl h
  have fin : ∀ g' M' mc ms, OutT g' M' l → l.length + 1 ≤ capOf g' → FrO M M' → mc + g = g' → ms + 150 * g ≤ 150 * g' → Q (.inl (some (.ref 142))) (Wg g') (upM (upM M' 142 (upd (M' 142) 3 (M' 142 3 + 1))) (sbOf g') (upd (M' (sbOf g')) l.length (vp_nar .byte ((Int32.ofNat a).toInt8.toInt32)))) (0 + (0 + mc)) (0 + (0 + ms)) ∧ M' 142 3 = Int32.ofNat l.length ∧ M' 142 1 = 0 := fun g' M' mc ms x1 x2 x3 x4 x5 => by
    obtain ⟨p1, p2⟩ := out_push x1 hx x2
    rw [x1.2.2.2.1, i_inc, (byte_small a ha).2.2.2.1]
    rw [Nat.zero_add, Nat.zero_add, Nat.zero_add, Nat.zero_add]
    exact ⟨hQ g' _ mc ms p1 (x3.trans p2) x4 x5, rfl, x1.2.2.1⟩
  clear hQ
  rcases g_cases hg with rfl | rfl | rfl | rfl
  all_goals
    refine EvP.wp [] 60 rfl ?_
    refine EvP.wp [] 60 rfl ?_
    refine en _ _ (fun g' M' mc ms x1 x2 x3 x4 x5 => ?_)
    obtain ⟨f1, f2, f3⟩ := fin g' M' mc ms x1 x2 x3 x4 x5
    have hcap := x2
    rcases g_cases x1.1 with rfl | rfl | rfl | rfl
    all_goals
      refine (c_isLat f3).use ?_
      refine ⟨fun h9 => absurd h9 (by decide), fun _ => ?_⟩
      refine (c_canEnc ha).use ?_
      refine ⟨fun h9 => absurd h9 (by decide), fun _ => ?_⟩
      refine ⟨l.length, f2, hcap, ?_⟩
      exact f1
end SB
