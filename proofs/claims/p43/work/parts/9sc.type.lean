/-! the law types a text, and loads it -/
theorem low_8 {z c : Nat} (h : z % 256 = c) (hc : c < 128) : byB (Int32.ofNat z) = Int32.ofNat c := by
  rw [← (byte_small c hc).2.1]
  have e : (Int32.ofNat z).toInt8 = (Int32.ofNat c).toInt8 := by
    apply Int8.toBitVec_inj.mp
    rw [Int32.toBitVec_toInt8, Int32.toBitVec_toInt8, BitVec.signExtend_eq_setWidth_of_le _ (by omega), BitVec.signExtend_eq_setWidth_of_le _ (by omega)]
    apply BitVec.eq_of_toNat_eq
    rw [BitVec.toNat_setWidth, BitVec.toNat_setWidth, Int32.toBitVec_ofNat', Int32.toBitVec_ofNat', BitVec.toNat_ofNat, BitVec.toNat_ofNat]
    omega
  rw [byB, byB, e]
theorem shr_nat {y k : Nat} (hy : y < 2147483648) (hk : k < 32) : Int32.ofNat y >>> (Int32.ofNat k &&& 31) = Int32.ofNat (y / 2 ^ k) := by
  have h1 : y / 2 ^ k ≤ y := Nat.div_le_self _ _
  have e : Int32.ofNat k &&& 31 = Int32.ofNat k := by
    have : ∀ k, k < 32 → Int32.ofNat k &&& 31 = Int32.ofNat k := by decide +kernel
    exact this k hk
  rw [e]
  apply Int32.toInt_inj.mp
  rw [Int32.toInt_ofNat_of_lt (by omega)]
  have e2 : (Int32.ofNat y >>> Int32.ofNat k).toBitVec = (BitVec.ofNat 32 y).sshiftRight k := by
    rw [Int32.toBitVec_shiftRight]
    have : ∀ k, k < 32 → ((Int32.ofNat k).toBitVec.smod 32).toNat = k := by decide +kernel
    simp only [BitVec.sshiftRight_eq', this k hk]
    rfl
  rw [← Int32.toInt_toBitVec, e2, BitVec.toInt_sshiftRight, show (BitVec.ofNat 32 y).toInt = (y : Int) from Int32.toInt_ofNat_of_lt (by omega), Int.shiftRight_eq_div_pow]
  rfl
theorem shl_or (a : Int32) {c : Nat} (hc : c < 256) : a <<< ((8 : Int32) &&& 31) ||| Int32.ofNat c = a * 256 + Int32.ofNat c := by
  apply Int32.toBitVec_inj.mp
  rw [show ((8 : Int32) &&& 31) = 8 from by decide]
  rw [Int32.toBitVec_or, Int32.toBitVec_add, Int32.toBitVec_mul, Int32.toBitVec_shiftLeft]
  rw [show (Int32.toBitVec 8).smod 32 = 8#32 from by decide, show Int32.toBitVec 256 = 256#32 from rfl]
  have e : a.toBitVec <<< 8#32 = a.toBitVec * 256#32 := by
    rw [show (a.toBitVec <<< 8#32) = a.toBitVec <<< 8 from rfl, BitVec.shiftLeft_eq_mul_twoPow]
    rfl
  rw [← e]
  refine (BitVec.add_eq_or_of_and_eq_zero _ _ ?_).symm
  apply BitVec.eq_of_getLsbD_eq
  intro i hi
  rw [BitVec.getLsbD_and, show (a.toBitVec <<< 8#32) = a.toBitVec <<< 8 from rfl, BitVec.getLsbD_shiftLeft]
  by_cases h : i < 8
  · simp [h]
  · rw [show (Int32.ofNat c).toBitVec = BitVec.ofNat 32 c from rfl, BitVec.getLsbD_ofNat, Nat.testBit_lt_two_pow (Nat.lt_of_lt_of_le hc (show 256 ≤ 2 ^ i from Nat.pow_le_pow_right (n := 2) (by omega) (by omega : 8 ≤ i)))]
    simp
def pk4 (o : Int32) (a b c e : Int32) : Int32 := (((o <<< ((8 : Int32) &&& 31) ||| a) <<< ((8 : Int32) &&& 31) ||| b) <<< ((8 : Int32) &&& 31) ||| c) <<< ((8 : Int32) &&& 31) ||| e
theorem pk4_eq (o : Int32) {a b c e : Nat} (ha : a < 128) (hb : b < 128) (hc : c < 128) (he : e < 128) : pk4 o (Int32.ofNat a) (Int32.ofNat b) (Int32.ofNat c) (Int32.ofNat e) = Int32.ofNat (a * 16777216 + b * 65536 + c * 256 + e) := by
  rw [pk4, shl_or _ (by omega), shl_or _ (by omega), shl_or _ (by omega), shl_or _ (by omega)]
  rw [← i_add, ← i_add, ← i_add, ← i_mul, ← i_mul, ← i_mul]
  rw [show Int32.ofNat 16777216 = 16777216 from rfl, show Int32.ofNat 65536 = 65536 from rfl, show Int32.ofNat 256 = 256 from rfl]
  generalize Int32.ofNat a = a
  generalize Int32.ofNat b = b
  generalize Int32.ofNat c = c
  generalize Int32.ofNat e = e
  grind
theorem pk4_by (o : Int32) {a b c e : Nat} (ha : a < 128) (hb : b < 128) (hc : c < 128) (he : e < 128) : byB (pk4 o (Int32.ofNat a) (Int32.ofNat b) (Int32.ofNat c) (Int32.ofNat e) >>> (24 &&& 31)) = Int32.ofNat a ∧ byB (pk4 o (Int32.ofNat a) (Int32.ofNat b) (Int32.ofNat c) (Int32.ofNat e) >>> (16 &&& 31)) = Int32.ofNat b ∧ byB (pk4 o (Int32.ofNat a) (Int32.ofNat b) (Int32.ofNat c) (Int32.ofNat e) >>> (8 &&& 31)) = Int32.ofNat c ∧ byB (pk4 o (Int32.ofNat a) (Int32.ofNat b) (Int32.ofNat c) (Int32.ofNat e)) = Int32.ofNat e := by
  rw [pk4_eq o ha hb hc he]
  refine ⟨?_, ?_, ?_, low_8 (by omega) he⟩
  · rw [show (24 : Int32) = Int32.ofNat 24 from rfl, shr_nat (by omega) (by omega)]
    exact low_8 (by omega) ha
  · rw [show (16 : Int32) = Int32.ofNat 16 from rfl, shr_nat (by omega) (by omega)]
    exact low_8 (by omega) hb
  · rw [show (8 : Int32) = Int32.ofNat 8 from rfl, shr_nat (by omega) (by omega)]
    exact low_8 (by omega) hc
def vA (O bs : Nat → Int32) : Nat → (Nat → Int32)
  | 0 => O
  | u + 1 => upd (vA O bs u) (u / 4) (vA O bs u (u / 4) <<< ((8 : Int32) &&& 31) ||| bs u)
theorem vA_20 {O bs : Nat → Int32} : ∀ i, i < 5 → vA O bs 20 i = pk4 (O i) (bs (4 * i)) (bs (4 * i + 1)) (bs (4 * i + 2)) (bs (4 * i + 3)) := by
  intro i hi
  rcases (show i = 0 ∨ i = 1 ∨ i = 2 ∨ i = 3 ∨ i = 4 by omega) with rfl | rfl | rfl | rfl | rfl <;> rfl
theorem feed1_v {I : Nat → Int32} {n : Nat} {x : Int32} : feed1 I n x n = byB (x >>> (24 &&& 31)) ∧ feed1 I n x (n + 1) = byB (x >>> (16 &&& 31)) ∧ feed1 I n x (n + 2) = byB (x >>> (8 &&& 31)) ∧ feed1 I n x (n + 3) = byB x := by
  refine ⟨?_, ?_, ?_, upd_at⟩
  · rw [feed1, upd_ne (by omega), upd_ne (by omega), upd_ne (by omega), upd_at]
  · rw [feed1, upd_ne (by omega), upd_ne (by omega), upd_at]
  · rw [feed1, upd_ne (by omega), upd_at]
theorem feed1_far {I : Nat → Int32} {n j : Nat} {x : Int32} (h : j < n ∨ n + 3 < j) : feed1 I n x j = I j := by
  rw [feed1, upd_ne (by omega), upd_ne (by omega), upd_ne (by omega), upd_ne (by omega)]
theorem fd20_lo {O : Nat → Int32} {n j : Nat} {a b c e f : Int32} (h : j < n) : fd20 O n a b c e f j = O j := by
  rw [fd20, feed1_far (by omega), feed1_far (by omega), feed1_far (by omega), feed1_far (by omega), feed1_far (by omega)]
theorem fd20_at {O O9 : Nat → Int32} {n : Nat} {bs : Nat → Int32} (hb : ∀ u, u < 20 → ∃ c, c < 128 ∧ bs u = Int32.ofNat c) : ∀ r, r < 20 → fd20 O n (vA O9 bs 20 0) (vA O9 bs 20 1) (vA O9 bs 20 2) (vA O9 bs 20 3) (vA O9 bs 20 4) (n + r) = bs r := by
  have key : ∀ t, t < 5 → ∀ (I : Nat → Int32) (n' : Nat), feed1 I n' (vA O9 bs 20 t) n' = bs (4 * t) ∧ feed1 I n' (vA O9 bs 20 t) (n' + 1) = bs (4 * t + 1) ∧ feed1 I n' (vA O9 bs 20 t) (n' + 2) = bs (4 * t + 2) ∧ feed1 I n' (vA O9 bs 20 t) (n' + 3) = bs (4 * t + 3) := by
    intro t ht I n'
    obtain ⟨c0, a0, b0⟩ := hb (4 * t) (by omega)
    obtain ⟨c1, a1, b1⟩ := hb (4 * t + 1) (by omega)
    obtain ⟨c2, a2, b2⟩ := hb (4 * t + 2) (by omega)
    obtain ⟨c3, a3, b3⟩ := hb (4 * t + 3) (by omega)
    obtain ⟨p0, p1, p2, p3⟩ := pk4_by (O9 t) a0 a1 a2 a3
    obtain ⟨f0, f1, f2, f3⟩ := feed1_v (I := I) (n := n') (x := vA O9 bs 20 t)
    rw [f0, f1, f2, f3, vA_20 t ht, b0, b1, b2, b3]
    exact ⟨p0, p1, p2, p3⟩
  intro r hr
  have hsplit : ∃ t u, t < 5 ∧ u < 4 ∧ r = 4 * t + u := ⟨r / 4, r % 4, by omega, by omega, by omega⟩
  obtain ⟨t, u, ht, hu, rfl⟩ := hsplit
  rcases (show t = 0 ∨ t = 1 ∨ t = 2 ∨ t = 3 ∨ t = 4 by omega) with rfl | rfl | rfl | rfl | rfl
  · rw [fd20, feed1_far (by omega), feed1_far (by omega), feed1_far (by omega), feed1_far (by omega)]
    obtain ⟨q0, q1, q2, q3⟩ := key 0 (by omega) (O) (n + 0)
    rcases (show u = 0 ∨ u = 1 ∨ u = 2 ∨ u = 3 by omega) with rfl | rfl | rfl | rfl
    · exact q0
    · exact q1
    · exact q2
    · exact q3
  · rw [fd20, feed1_far (by omega), feed1_far (by omega), feed1_far (by omega)]
    obtain ⟨q0, q1, q2, q3⟩ := key 1 (by omega) (feed1 O n (vA O9 bs 20 0)) (n + 4)
    rcases (show u = 0 ∨ u = 1 ∨ u = 2 ∨ u = 3 by omega) with rfl | rfl | rfl | rfl
    · exact q0
    · exact q1
    · exact q2
    · exact q3
  · rw [fd20, feed1_far (by omega), feed1_far (by omega)]
    obtain ⟨q0, q1, q2, q3⟩ := key 2 (by omega) (feed1 (feed1 O n (vA O9 bs 20 0)) (n + 4) (vA O9 bs 20 1)) (n + 8)
    rcases (show u = 0 ∨ u = 1 ∨ u = 2 ∨ u = 3 by omega) with rfl | rfl | rfl | rfl
    · exact q0
    · exact q1
    · exact q2
    · exact q3
  · rw [fd20, feed1_far (by omega)]
    obtain ⟨q0, q1, q2, q3⟩ := key 3 (by omega) (feed1 (feed1 (feed1 O n (vA O9 bs 20 0)) (n + 4) (vA O9 bs 20 1)) (n + 8) (vA O9 bs 20 2)) (n + 12)
    rcases (show u = 0 ∨ u = 1 ∨ u = 2 ∨ u = 3 by omega) with rfl | rfl | rfl | rfl
    · exact q0
    · exact q1
    · exact q2
    · exact q3
  · rw [fd20]
    obtain ⟨q0, q1, q2, q3⟩ := key 4 (by omega) (feed1 (feed1 (feed1 (feed1 O n (vA O9 bs 20 0)) (n + 4) (vA O9 bs 20 1)) (n + 8) (vA O9 bs 20 2)) (n + 12) (vA O9 bs 20 3)) (n + 16)
    rcases (show u = 0 ∨ u = 1 ∨ u = 2 ∨ u = 3 by omega) with rfl | rfl | rfl | rfl
    · exact q0
    · exact q1
    · exact q2
    · exact q3
section TYP
variable {RO : List mE} {d k pc c s op nx : Nat} {L st : List Value} {G : List sh} {x : List Nat} {v : Value} {X : List sh} {M : mM} {Q : mQ} {w : Nat} {fq : Nat → Int32}
theorem g_iald {n q j : Nat} {i : Int32} {f : Nat → Int32} {r : List Value} (hcd : cd k pc = some (2, 5, nx, x, v)) (hw : wrd RO G M q = some (1, n, f)) (hn : n ≤ 1000000) (hi : i = Int32.ofNat j) (hj : j < n) (h : GoP RO d k L (.int (f j) :: r) G M nx c s Q) : GoP RO d k L (.int i :: .ref q :: r) G M pc c s Q := by
  refine wG_sound (K := fun L' st' G' M' pc' c' s' => GoP RO d k L' st' G' M' pc' c' s' Q) hcd ?_ (fun _ _ _ _ _ _ _ h9 => h9)
  show (match wrd RO G M q with
      | some (1, n, f) => bif Nat.ble n 1000000 then (∃ j : Nat, i = Int32.ofNat j ∧ j < n ∧ GoP RO d k L (.int (f j) :: r) G M nx c s Q) else False
      | _ => False)
  rw [hw]
  show bif Nat.ble n 1000000 then _ else False
  rw [Nat.ble_eq_true_of_le hn]
  exact ⟨j, hi, hj, h⟩
theorem g_iast {n q j : Nat} {i y : Int32} {r : List Value} (hcd : cd k pc = some (2, 10, nx, x, v)) (hq : q < 1000000) (hg : G[q]? = some (.inl (1, n))) (hn : n ≤ 1000000) (hi : i = Int32.ofNat j) (hj : j < n) (h : GoP RO d k L r G (upM M q (upd (M q) j y)) nx c s Q) : GoP RO d k L (.int y :: .int i :: .ref q :: r) G M pc c s Q := by
  refine wG_sound (K := fun L' st' G' M' pc' c' s' => GoP RO d k L' st' G' M' pc' c' s' Q) hcd ?_ (fun _ _ _ _ _ _ _ h9 => h9)
  show bif Nat.blt q 1000000 then (match G[q]? with
      | some (.inl (1, n)) => bif Nat.ble n 1000000 then (∃ j : Nat, i = Int32.ofNat j ∧ j < n ∧ GoP RO d k L r G (upM M q (upd (M q) j y)) nx c s Q) else False
      | _ => False) else False
  rw [show Nat.blt q 1000000 = true from Nat.ble_eq_true_of_le hq, cond_true, hg]
  show bif Nat.ble n 1000000 then _ else False
  rw [Nat.ble_eq_true_of_le hn]
  exact ⟨j, hi, hj, h⟩
def TyI (X : List sh) (M : mM) (s w : Nat) (fq : Nat → Int32) (j : Nat) (M1 : mM) : Prop := (∀ q, q < 146 → q ≠ 1 → q ≠ 2 → M1 q = M q) ∧ (∀ i, i ≠ 2 → M1 1 i = M 1 i) ∧ M1 1 2 = Int32.ofNat (20 * j) ∧ (∀ i, i < 20 * j → M1 2 i = if i < w then fq i else 32) ∧ StrB 146 (gW 143 (.inl (1, 1) :: (X ++ [.inl (1, 5)]))) M1 s w fq
theorem c_type {s : Nat} (hB : StrB 146 (gW 143 (.inl (1, 1) :: X)) M s w fq) (hf : ∀ i, i < w → ∃ c, c < 128 ∧ fq i = Int32.ofNat c) (h1 : M 1 2 = 0) (hw : w ≤ 300) (hX : X.length ≤ 3000) (hQ : ∀ (M' : mM) (nf : Nat), (∀ q, q < 146 → q ≠ 1 → q ≠ 2 → M' q = M q) → (∀ i, i ≠ 2 → M' 1 i = M 1 i) → M' 1 2 = Int32.ofNat nf → w ≤ nf → nf ≤ 320 → (∀ i, i < nf → M' 2 i = if i < w then fq i else 32) → Q (.inl (some (.int (Int32.ofNat w)))) (gW 143 (.inl (1, 1) :: (X ++ [.inl (1, 5)]))) M' 1 5) : EvP RO (d + 10) 368 [.ref 0, .ref s] (gW 143 (.inl (1, 1) :: X)) M Q := by
  have hsl := (List.getElem?_eq_some_iff.mp hB.2.1).1
  have hsl2 := (List.getElem?_eq_some_iff.mp hB.2.2.1).1
  rw [gX_len] at hsl hsl2
  have hcat : (gW 143 (.inl (1, 1) :: X)) ++ ([.inl (1, 5)] : List sh) = (gW 143 (.inl (1, 1) :: (X ++ [.inl (1, 5)]))) := by
    rw [gX_app (X := X), gX_app (X := X ++ ([.inl (1, 5)] : List sh)), List.append_assoc]
  have hga : (gW 143 (.inl (1, 1) :: (X ++ [.inl (1, 5)])))[146 + X.length]? = some (.inl (1, 5)) := by
    rw [← hcat]; exact get_last gX_len
  have hgx : ∀ q y, 146 ≤ q → (gW 143 (.inl (1, 1) :: X))[q]? = some y → (gW 143 (.inl (1, 1) :: (X ++ [.inl (1, 5)])))[q]? = some y := fun q y _ h => by
    rw [← hcat]; exact get_push h
  refine EvP.of rfl ?_
  refine wp_sound [3] 10 _ _ _ _ _ _ _ ?_
  refine g_arr (n := 146 + X.length) (m := 5) (G2 := (gW 143 (.inl (1, 1) :: (X ++ [.inl (1, 5)])))) rfl (by decide) rfl (by omega) gX_len (by omega) hcat ?_
  refine wp_sound [9] 10 _ _ _ _ _ _ _ ?_
  refine up_ind (S := (w + 19) / 20) (H := fun j => ∀ (M1 : mM) (n2 : Int32) (L5 : Value), TyI X M s w fq j M1 → GoP RO (d + 9) 368 [.ref 0, .ref s, .int n2, .ref (146 + X.length), .int (Int32.ofNat (20 * j)), L5] [] (gW 143 (.inl (1, 1) :: (X ++ [.inl (1, 5)]))) M1 9 (0 + 1) (0 + 5) Q) ?_ (fun j hj ih => ?_) 0 (by omega) _ _ _ ?_
  · intro M1 n2 L5 ⟨i1, i2, i3, i4, i5⟩
    refine wp_sound [12] 10 _ _ _ _ _ _ _ ?_
    refine g_call rfl rfl rfl (wrecv_v (wcls_o (by omega) i5.2.1)) rfl ?_
    refine (c_strLen i5.A).use ?_
    refine wp_sound [103] 20 _ _ _ _ _ _ _ ?_
    refine lt_if (a := 20 * ((w + 19) / 20)) (b := w) rfl rfl (by omega) (by omega) (fun h => absurd h (by omega)) (fun _ => ?_)
    refine g_call rfl rfl rfl (wrecv_v (wcls_o (by omega) i5.2.1)) rfl ?_
    refine (c_strLen i5.A).use ?_
    refine wp_sound [] 10 _ _ _ _ _ _ _ ?_
    exact hQ M1 (20 * ((w + 19) / 20)) i1 i2 i3 (by omega) (by omega) i4
  · intro M1 n2 L5 ⟨i1, i2, i3, i4, i5⟩
    have hb : ∀ u, u < 20 → ∃ c, c < 128 ∧ (fun u => if 20 * j + u < w then fq (20 * j + u) else (32 : Int32)) u = Int32.ofNat c := fun u hu => by
      show ∃ c, c < 128 ∧ (if 20 * j + u < w then fq (20 * j + u) else (32 : Int32)) = Int32.ofNat c
      split
      · rename_i h; exact hf _ h
      · exact ⟨32, by omega, rfl⟩
    generalize hbs : (fun u => if 20 * j + u < w then fq (20 * j + u) else (32 : Int32)) = bs at hb
    have hbs' : ∀ u, bs u = if 20 * j + u < w then fq (20 * j + u) else (32 : Int32) := fun u => by rw [← hbs]
    have keep : ∀ F : Nat → Int32, StrB 146 (gW 143 (.inl (1, 1) :: (X ++ [.inl (1, 5)]))) (upM M1 (146 + X.length) F) s w fq := fun F => by
      obtain ⟨z1, z2, z3, z4, z5⟩ := i5
      exact ⟨z1, z2, z3, by rw [upM_ne (by omega)]; exact z4, by rw [upM_ne (by omega)]; exact z5⟩
    refine wp_sound [12] 10 _ _ _ _ _ _ _ ?_
    refine g_call rfl rfl rfl (wrecv_v (wcls_o (by omega) i5.2.1)) rfl ?_
    refine (c_strLen i5.A).use ?_
    refine wp_sound [21] 20 _ _ _ _ _ _ _ ?_
    refine lt_if (a := 20 * j) (b := w) rfl rfl (by omega) (by omega) (fun _ => ?_) (fun h => absurd h (by omega))
    refine GoP.eq2 (M := upM M1 (146 + X.length) (vA (M1 (146 + X.length)) bs 0)) ?_ rfl upM_self.symm
    refine up_ind (S := 20) (H := fun u => GoP RO (d + 9) 368 [.ref 0, .ref s, .int n2, .ref (146 + X.length), .int (Int32.ofNat (20 * j)), .int (Int32.ofNat u)] [] (gW 143 (.inl (1, 1) :: (X ++ [.inl (1, 5)]))) (upM M1 (146 + X.length) (vA (M1 (146 + X.length)) bs u)) 21 (0 + 1) (0 + 5) Q) ?_ (fun u hu ih2 => ?_) 0 (by omega)
    · have rd : ∀ F : Nat → Int32, wrd RO (gW 143 (.inl (1, 1) :: (X ++ [.inl (1, 5)]))) (upM M1 (146 + X.length) F) (146 + X.length) = some (1, 5, F) := fun F => by
        rw [wrd_o (by omega) (by omega) hga, upM_at]
      refine wp_sound [79] 20 _ _ _ _ _ _ _ ?_
      refine lt_if (a := 20) (b := 20) rfl rfl (by omega) (by omega) (fun h => absurd h (by omega)) (fun _ => ?_)
      refine g_iald rfl (rd _) (by omega) (j := 0) rfl (by omega) ?_
      refine wp_sound [82] 10 _ _ _ _ _ _ _ ?_
      refine g_iald rfl (rd _) (by omega) (j := 1) rfl (by omega) ?_
      refine wp_sound [85] 10 _ _ _ _ _ _ _ ?_
      refine g_iald rfl (rd _) (by omega) (j := 2) rfl (by omega) ?_
      refine wp_sound [88] 10 _ _ _ _ _ _ _ ?_
      refine g_iald rfl (rd _) (by omega) (j := 3) rfl (by omega) ?_
      refine wp_sound [91] 10 _ _ _ _ _ _ _ ?_
      refine g_iald rfl (rd _) (by omega) (j := 4) rfl (by omega) ?_
      refine wp_sound [9] 10 _ _ _ _ _ _ _ ?_
      refine (q_feed (n := 20 * j) (by omega) (by rw [upM_ne (by omega)]; exact i3)).use ?_
      have hI : TyI X M s w fq (j + 1) (wF20 (upM M1 (146 + X.length) (vA (M1 (146 + X.length)) bs 20)) (20 * j) (vA (M1 (146 + X.length)) bs 20 0) (vA (M1 (146 + X.length)) bs 20 1) (vA (M1 (146 + X.length)) bs 20 2) (vA (M1 (146 + X.length)) bs 20 3) (vA (M1 (146 + X.length)) bs 20 4)) := by
        refine ⟨fun q hq h1 h2 => by rw [wF20_q h1 h2, upM_ne (by omega)]; exact i1 q hq h1 h2, fun i hi => by rw [wF20_1, upd_ne hi, upM_ne (by omega)]; exact i2 i hi, by rw [wF20_1, upd_at]; exact congrArg Int32.ofNat (by omega), fun i hi => ?_, ?_⟩
        · rw [wF20_2, upM_ne (by omega)]
          by_cases h9 : i < 20 * j
          · rw [fd20_lo h9]; exact i4 i h9
          · have e := fd20_at (O := M1 2) (O9 := M1 (146 + X.length)) (n := 20 * j) hb (i - 20 * j) (by omega)
            rw [show 20 * j + (i - 20 * j) = i by omega] at e
            rw [e, hbs', show 20 * j + (i - 20 * j) = i by omega]
        · obtain ⟨z1, z2, z3, z4, z5⟩ := keep (vA (M1 (146 + X.length)) bs 20)
          exact ⟨z1, z2, z3, by rw [wF20_q (by omega) (by omega)]; exact z4, by rw [wF20_q (by omega) (by omega)]; exact z5⟩
      refine GoP.eq2 (ih _ (Int32.ofNat (20 * j + 20)) (.int (Int32.ofNat 20)) hI) ?_ rfl
      rw [show 20 * (j + 1) = 20 * j + 20 by omega, ← i_add (20 * j) 20]; rfl
    · have rd : wrd RO (gW 143 (.inl (1, 1) :: (X ++ [.inl (1, 5)]))) (upM M1 (146 + X.length) (vA (M1 (146 + X.length)) bs u)) (146 + X.length) = some (1, 5, vA (M1 (146 + X.length)) bs u) := by
        rw [wrd_o (by omega) (by omega) hga, upM_at]
      have hdv : Int32.ofNat u / 4 = Int32.ofNat (u / 4) := div_nat (k := 4) (by omega) (by omega) (by omega)
      have hkk := keep (vA (M1 (146 + X.length)) bs u)
      have r69 : ∀ z : Int32, z = bs u → GoP RO (d + 9) 368 [.ref 0, .ref s, .int n2, .ref (146 + X.length), .int (Int32.ofNat (20 * j)), .int (Int32.ofNat u)] [.int z, .int (vA (M1 (146 + X.length)) bs u (u / 4) <<< ((8 : Int32) &&& 31)), .int (Int32.ofNat u / 4), .ref (146 + X.length)] (gW 143 (.inl (1, 1) :: (X ++ [.inl (1, 5)]))) (upM M1 (146 + X.length) (vA (M1 (146 + X.length)) bs u)) 68 (0 + 1) (0 + 5) Q := by
        intro z hz
        subst hz
        refine wp_sound [69] 10 _ _ _ _ _ _ _ ?_
        refine g_iast rfl (by omega) hga (by omega) hdv (by omega) ?_
        refine wp_sound [21] 10 _ _ _ _ _ _ _ ?_
        refine GoP.eq2 ih2 (by rw [i_inc]) ?_
        rw [upM_upM, upM_at]
        rfl
      refine wp_sound [38] 20 _ _ _ _ _ _ _ ?_
      refine lt_if (a := u) (b := 20) rfl rfl (by omega) (by omega) (fun _ => ?_) (fun h => absurd h (by omega))
      refine ⟨by decide, ?_⟩
      refine ⟨by decide, ?_⟩
      refine g_iald rfl rd (by omega) hdv (by omega) ?_
      refine wp_sound [48] 20 _ _ _ _ _ _ _ ?_
      refine g_call rfl rfl rfl (wrecv_v (wcls_o (by omega) hkk.2.1)) rfl ?_
      refine (c_strLen hkk.A).use ?_
      refine wp_sound [60, 68] 20 _ _ _ _ _ _ _ ?_
      refine lt_if (a := 20 * j + u) (b := w) (i_add _ _) rfl (by omega) (by omega) (fun h9 => ?_) (fun h9 => ?_)
      · obtain ⟨c9, c1, c2⟩ := hf _ h9
        refine GoP.eqs (st := [.int (Int32.ofNat (20 * j + u)), .ref s, .int (vA (M1 (146 + X.length)) bs u (u / 4) <<< ((8 : Int32) &&& 31)), .int (Int32.ofNat u / 4), .ref (146 + X.length)]) ?_ (by rw [← i_add])
        refine g_call rfl rfl rfl (wrecv_v (wcls_o (by omega) hkk.2.1)) rfl ?_
        refine (c_charAt hkk.A h9 (by omega) c1 c2).use ?_
        refine wp_sound [68] 10 _ _ _ _ _ _ _ ?_
        exact r69 _ (by rw [hbs', if_pos h9, c2])
      · exact r69 32 (by rw [hbs', if_neg (by omega)])
  · refine ⟨fun q hq _ _ => upM_ne (by omega), fun i _ => by rw [upM_ne (by omega)], by rw [upM_ne (by omega)]; exact h1, fun i hi => absurd hi (Nat.not_lt_zero i), ?_⟩
    exact hB.keep hgx (fun q y _ h => upM_ne (fun e => by
      subst e
      have := (List.getElem?_eq_some_iff.mp h).1
      rw [gX_len] at this
      omega))
end TYP
