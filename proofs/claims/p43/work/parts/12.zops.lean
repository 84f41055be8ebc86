/-! constants, statics that nobody writes -/
def ck_ldcI : mCk := fun k i len x v => match i, x, v with
  | .ldc index, [n], .int c => wck n (.constant (mnm k).cls index c) && Nat.beq len 2
  | _, _, _ => false
def sf_ldcI : mSf := fun _ _ v L st W9 => some (L, v :: st, W9)
theorem sim_ldcI : SimS (ck_ldcI, sf_ldcI) := by
  intro X cells slots ad L st W9 pc nx i len x v L' st' W' hX hY hro hce hsl hd hnx hc h kk
  subst hnx
  simp only [ck_ldcI, sf_ldcI] at hc h
  split at hc
  · simp only [Bool.and_eq_true] at hc
    obtain ⟨h1, hl0⟩ := hc
    cases Nat.eq_of_beq_eq_true hl0
    cases h
    obtain ⟨p, l, e, R, s, m, args, below, meth, c, Q, A, dC, dI, dA, adR, RO, k⟩ := X
    obtain ⟨hx, hb, hml, hown, ⟨hwA, hwN⟩, hA, hK, hRO, hROA, hlk, hrt, hfr, hlo, hini⟩ := hX
    obtain ⟨hE, -, -⟩ := hY
    intro H locs ls hP hD hS hn hw hL hs hl

    exact lv_ldc hx hb hown (mwd hwN (wck_1 h1) (wck_2 h1)) hd (kk H locs ls hP hD hS hn hw hL (wv_int hs) hl)
  · cases hc
def ck_ldcwI : mCk := fun k i len x v => match i, x, v with
  | .ldc_w index, [n], .int c => wck n (.constant (mnm k).cls index c) && Nat.beq len 3
  | _, _, _ => false
def sf_ldcwI : mSf := fun _ _ v L st W9 => some (L, v :: st, W9)
theorem sim_ldcwI : SimS (ck_ldcwI, sf_ldcwI) := by
  intro X cells slots ad L st W9 pc nx i len x v L' st' W' hX hY hro hce hsl hd hnx hc h kk
  subst hnx
  simp only [ck_ldcwI, sf_ldcwI] at hc h
  split at hc
  · simp only [Bool.and_eq_true] at hc
    obtain ⟨h1, hl0⟩ := hc
    cases Nat.eq_of_beq_eq_true hl0
    cases h
    obtain ⟨p, l, e, R, s, m, args, below, meth, c, Q, A, dC, dI, dA, adR, RO, k⟩ := X
    obtain ⟨hx, hb, hml, hown, ⟨hwA, hwN⟩, hA, hK, hRO, hROA, hlk, hrt, hfr, hlo, hini⟩ := hX
    obtain ⟨hE, -, -⟩ := hY
    intro H locs ls hP hD hS hn hw hL hs hl

    exact lv_ldcw hx hb hown (mwd hwN (wck_1 h1) (wck_2 h1)) hd (kk H locs ls hP hD hS hn hw hL (wv_int hs) hl)
  · cases hc
def ck_gsZ : mCk := fun k i len x v => match i, x, v with
  | .getstatic index, [n], _ => wck n (.fieldLink (mnm k).cls index "java/lang/String" "COMPACT_STRINGS" "Z") && Nat.beq len 3
  | _, _, _ => false
def sf_gsZ : mSf := fun _ _ v L st W9 => some (L, .int 1 :: st, W9)
theorem sim_gsZ : SimS (ck_gsZ, sf_gsZ) := by
  intro X cells slots ad L st W9 pc nx i len x v L' st' W' hX hY hro hce hsl hd hnx hc h kk
  subst hnx
  simp only [ck_gsZ, sf_gsZ] at hc h
  split at hc
  · simp only [Bool.and_eq_true] at hc
    obtain ⟨h1, hl0⟩ := hc
    cases Nat.eq_of_beq_eq_true hl0
    cases h
    obtain ⟨p, l, e, R, s, m, args, below, meth, c, Q, A, dC, dI, dA, adR, RO, k⟩ := X
    obtain ⟨hx, hb, hml, hown, ⟨hwA, hwN⟩, hA, hK, hRO, hROA, hlk, hrt, hfr, hlo, hini⟩ := hX
    obtain ⟨hE, -, -⟩ := hY
    intro H locs ls hP hD hS hn hw hL hs hl

    exact va_gets hx hb hE.2.2.2.2.2.1 hS hown (mwd hwN (wck_1 h1) (wck_2 h1)) (fun _ h9 => h9) hd (kk H locs ls hP hD hS hn hw hL (wv_int hs) hl)
  · cases hc
def ck_gsO : mCk := fun k i len x v => match i, x, v with
  | .getstatic index, [n], _ => wck n (.fieldLink (mnm k).cls index "java/lang/Integer" "DigitOnes" "[B") && Nat.beq len 3
  | _, _, _ => false
def sf_gsO : mSf := fun _ _ v L st W9 => some (L, .ref 1000106 :: st, W9)
theorem sim_gsO : SimS (ck_gsO, sf_gsO) := by
  intro X cells slots ad L st W9 pc nx i len x v L' st' W' hX hY hro hce hsl hd hnx hc h kk
  subst hnx
  simp only [ck_gsO, sf_gsO] at hc h
  split at hc
  · simp only [Bool.and_eq_true] at hc
    obtain ⟨h1, hl0⟩ := hc
    cases Nat.eq_of_beq_eq_true hl0
    cases h
    obtain ⟨p, l, e, R, s, m, args, below, meth, c, Q, A, dC, dI, dA, adR, RO, k⟩ := X
    obtain ⟨hx, hb, hml, hown, ⟨hwA, hwN⟩, hA, hK, hRO, hROA, hlk, hrt, hfr, hlo, hini⟩ := hX
    obtain ⟨hE, -, -⟩ := hY
    intro H locs ls hP hD hS hn hw hL hs hl
    have k9 := kk H locs ls hP hD hS hn hw hL (wv_cons (fun r9 e9 => Or.inr (by cases e9; exact Nat.le_of_ble_eq_true rfl)) hs) hl
    rw [List.map_cons, show cz (mz adR ad) (.ref 1000106) = .ref (adR 106) from rfl] at k9
    exact va_gets hx hb hE.2.2.2.2.2.2.1 hS hown (mwd hwN (wck_1 h1) (wck_2 h1)) (fun _ h9 => h9) hd k9
  · cases hc
def ck_gsT : mCk := fun k i len x v => match i, x, v with
  | .getstatic index, [n], _ => wck n (.fieldLink (mnm k).cls index "java/lang/Integer" "DigitTens" "[B") && Nat.beq len 3
  | _, _, _ => false
def sf_gsT : mSf := fun _ _ v L st W9 => some (L, .ref 1000107 :: st, W9)
theorem sim_gsT : SimS (ck_gsT, sf_gsT) := by
  intro X cells slots ad L st W9 pc nx i len x v L' st' W' hX hY hro hce hsl hd hnx hc h kk
  subst hnx
  simp only [ck_gsT, sf_gsT] at hc h
  split at hc
  · simp only [Bool.and_eq_true] at hc
    obtain ⟨h1, hl0⟩ := hc
    cases Nat.eq_of_beq_eq_true hl0
    cases h
    obtain ⟨p, l, e, R, s, m, args, below, meth, c, Q, A, dC, dI, dA, adR, RO, k⟩ := X
    obtain ⟨hx, hb, hml, hown, ⟨hwA, hwN⟩, hA, hK, hRO, hROA, hlk, hrt, hfr, hlo, hini⟩ := hX
    obtain ⟨hE, -, -⟩ := hY
    intro H locs ls hP hD hS hn hw hL hs hl
    have k9 := kk H locs ls hP hD hS hn hw hL (wv_cons (fun r9 e9 => Or.inr (by cases e9; exact Nat.le_of_ble_eq_true rfl)) hs) hl
    rw [List.map_cons, show cz (mz adR ad) (.ref 1000107) = .ref (adR 107) from rfl] at k9
    exact va_gets hx hb hE.2.2.2.2.2.2.2.1 hS hown (mwd hwN (wck_1 h1) (wck_2 h1)) (fun _ h9 => h9) hd k9
  · cases hc
def ck_ldc2L : mCk := fun k i len x v => match i, x, v with
  | .ldc2_w index, [n], .long c => wck n (.constantLong (mnm k).cls index c) && Nat.beq len 3
  | _, _, _ => false
def sf_ldc2L : mSf := fun _ _ v L st W9 => some (L, v :: st, W9)
theorem sim_ldc2L : SimS (ck_ldc2L, sf_ldc2L) := by
  intro X cells slots ad L st W9 pc nx i len x v L' st' W' hX hY hro hce hsl hd hnx hc h kk
  subst hnx
  simp only [ck_ldc2L, sf_ldc2L] at hc h
  split at hc
  · simp only [Bool.and_eq_true] at hc
    obtain ⟨h1, hl0⟩ := hc
    cases Nat.eq_of_beq_eq_true hl0
    cases h
    obtain ⟨p, l, e, R, s, m, args, below, meth, c, Q, A, dC, dI, dA, adR, RO, k⟩ := X
    obtain ⟨hx, hb, hml, hown, ⟨hwA, hwN⟩, hA, hK, hRO, hROA, hlk, hrt, hfr, hlo, hini⟩ := hX
    obtain ⟨hE, -, -⟩ := hY
    intro H locs ls hP hD hS hn hw hL hs hl

    exact lv_ldc2 hx hb hown (mwd hwN (wck_1 h1) (wck_2 h1)) hd (kk H locs ls hP hD hS hn hw hL (wv_cons (fun _ e => by cases e) hs) hl)
  · cases hc
def ck_anull : mCk := fun _ i len _ _ => decide (i = .aconst_null) && Nat.beq len 1
def sf_anull : mSf := fun _ _ _ L st W9 => some (L, .null :: st, W9)
theorem sim_anull : SimS (ck_anull, sf_anull) := by
  intro X cells slots ad L st W9 pc nx i len x v L' st' W' hX hY hro hce hsl hd hnx hc h kk
  subst hnx
  simp only [ck_anull, sf_anull] at hc h
  simp only [Bool.and_eq_true, decide_eq_true_eq] at hc
  obtain ⟨rfl, hl0⟩ := hc
  cases Nat.eq_of_beq_eq_true hl0
  cases h
  obtain ⟨p, l, e, R, s, m, args, below, meth, c, Q, A, dC, dI, dA, adR, RO, k⟩ := X
  obtain ⟨hx, hb, hml, hown, ⟨hwA, hwN⟩, hA, hK, hRO, hROA, hlk, hrt, hfr, hlo, hini⟩ := hX
  intro H locs ls hP hD hS hn hw hL hs hl
  exact lv_null hx hb hd (kk H locs ls hP hD hS hn hw hL (wv_cons (fun _ e => by cases e) hs) hl)
def mZt : List (mCk × mSf) := [(ck_ldcI, sf_ldcI), (ck_ldcwI, sf_ldcwI), (ck_gsZ, sf_gsZ), (ck_gsO, sf_gsO), (ck_gsT, sf_gsT), (ck_ldc2L, sf_ldc2L), (ck_anull, sf_anull)]
theorem mZt_ok : ∀ q ∈ mZt, SimS q := List.forall_mem_cons.mpr ⟨sim_ldcI, List.forall_mem_cons.mpr ⟨sim_ldcwI, List.forall_mem_cons.mpr ⟨sim_gsZ, List.forall_mem_cons.mpr ⟨sim_gsO, List.forall_mem_cons.mpr ⟨sim_gsT, List.forall_mem_cons.mpr ⟨sim_ldc2L, List.forall_mem_cons.mpr ⟨sim_anull, fun _ h => absurd h List.not_mem_nil⟩⟩⟩⟩⟩⟩⟩
