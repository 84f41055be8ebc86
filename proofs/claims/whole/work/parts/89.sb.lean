/-! numbers and words into the output -/
theorem i_neglt {a b : Nat} (ha : a < 1000000) (hb : b < 1000000) : -Int32.ofNat a < -Int32.ofNat b ↔ b < a := by
  rw [Int32.lt_iff_toInt_lt, Int32.toInt_neg, Int32.toInt_neg, i_toInt ha, i_toInt hb, Int.bmod_eq_of_le (by omega) (by omega), Int.bmod_eq_of_le (by omega) (by omega)]
  omega
theorem div_100 : ∀ n, n < 1000 → (-Int32.ofNat n) / 100 = -Int32.ofNat (n / 100) ∧ (-Int32.ofNat (n / 100)) * 100 - (-Int32.ofNat n) = Int32.ofNat (n % 100) := by decide +kernel
theorem dig_tab : ∀ r, r < 100 → strF [48, 49, 50, 51, 52, 53, 54, 55, 56, 57, 48, 49, 50, 51, 52, 53, 54, 55, 56, 57, 48, 49, 50, 51, 52, 53, 54, 55, 56, 57, 48, 49, 50, 51, 52, 53, 54, 55, 56, 57, 48, 49, 50, 51, 52, 53, 54, 55, 56, 57, 48, 49, 50, 51, 52, 53, 54, 55, 56, 57, 48, 49, 50, 51, 52, 53, 54, 55, 56, 57, 48, 49, 50, 51, 52, 53, 54, 55, 56, 57, 48, 49, 50, 51, 52, 53, 54, 55, 56, 57, 48, 49, 50, 51, 52, 53, 54, 55, 56, 57] r = Int32.ofNat (48 + r % 10) ∧ strF [48, 48, 48, 48, 48, 48, 48, 48, 48, 48, 49, 49, 49, 49, 49, 49, 49, 49, 49, 49, 50, 50, 50, 50, 50, 50, 50, 50, 50, 50, 51, 51, 51, 51, 51, 51, 51, 51, 51, 51, 52, 52, 52, 52, 52, 52, 52, 52, 52, 52, 53, 53, 53, 53, 53, 53, 53, 53, 53, 53, 54, 54, 54, 54, 54, 54, 54, 54, 54, 54, 55, 55, 55, 55, 55, 55, 55, 55, 55, 55, 56, 56, 56, 56, 56, 56, 56, 56, 56, 56, 57, 57, 57, 57, 57, 57, 57, 57, 57, 57] r = Int32.ofNat (48 + r / 10) := by decide +kernel
theorem out_app {g : Nat} {M M' : mM} {l ds : List Int32} (hO : OutT g M l) (hd : ∀ x ∈ ds, sgn x) (hl : l.length + ds.length ≤ capOf g) (h142 : M' 142 = upd (M 142) 3 (Int32.ofNat (l.length + ds.length))) (hin : ∀ j, j < ds.length → M' (sbOf g) (l.length + j) = ds.getD j 0) (hout : ∀ j, (j < l.length ∨ l.length + ds.length ≤ j) → M' (sbOf g) j = M (sbOf g) j) : OutT g M' (l ++ ds) := by
  obtain ⟨a1, a2, a3, a4, a5, a6⟩ := hO
  refine ⟨a1, by rw [List.length_append]; exact hl, by rw [h142, upd_ne (by decide)]; exact a3, by rw [h142, upd_at, List.length_append], fun j hj => ?_, fun j hj => ?_⟩
  · by_cases h : j < l.length ∨ l.length + ds.length ≤ j
    · rw [hout j h]; exact a5 j hj
    · have h9 := hin (j - l.length) (by omega)
      rw [show l.length + (j - l.length) = j by omega] at h9
      have hlt : j - l.length < ds.length := by omega
      rw [h9, List.getD_eq_getElem?_getD, List.getElem?_eq_getElem hlt]
      obtain ⟨a, ha, hx⟩ := hd _ (List.getElem_mem hlt)
      show fits .byte (.int (ds[j - l.length])) = true
      rw [hx]
      exact (byte_small a ha).2.2.1
  · rw [List.length_append] at hj
    by_cases h : j < l.length
    · rw [hout j (Or.inl h), a6 j h, List.getD_eq_getElem?_getD, List.getD_eq_getElem?_getD, List.getElem?_append_left h]
    · have h9 := hin (j - l.length) (by omega)
      rw [show l.length + (j - l.length) = j by omega] at h9
      rw [h9, List.getD_eq_getElem?_getD, List.getD_eq_getElem?_getD, List.getElem?_append_right (by omega)]
theorem digs_sgn {n : Nat} (h : n < 1000) : ∀ x ∈ digs n, sgn x := by
  intro x hx
  unfold digs at hx
  split at hx
  · rcases List.mem_cons.mp hx with rfl | hx
    · exact ⟨_, by omega, rfl⟩
    · cases hx
  · split at hx
    · rcases List.mem_cons.mp hx with rfl | hx
      · exact ⟨_, by omega, rfl⟩
      · rcases List.mem_cons.mp hx with rfl | hx
        · exact ⟨_, by omega, rfl⟩
        · cases hx
    · rcases List.mem_cons.mp hx with rfl | hx
      · exact ⟨_, by omega, rfl⟩
      · rcases List.mem_cons.mp hx with rfl | hx
        · exact ⟨_, by omega, rfl⟩
        · rcases List.mem_cons.mp hx with rfl | hx
          · exact ⟨_, by omega, rfl⟩
          · cases hx
section SB
variable {hs f : Nat → Int32} {d len : Nat} {RO : List mE} {M : mM} {Q : mQ} {g n : Nat} {l : List Int32} {G : List sh}
theorem c_strSize (hn : n < 1000) : EvR RO (d + 1) 344 [.int (Int32.ofNat n)] G M (some (.int (Int32.ofNat (digs n).length))) M := by
  refine EvR.of (fun Q hQ => ?_)
  have k1 : (-10 : Int32) = -Int32.ofNat 10 := by decide
  have k2 : (10 : Int32) * -10 = -Int32.ofNat 100 := by decide
  have k3 : (10 : Int32) * (10 * -10) = -Int32.ofNat 1000 := by decide
  refine EvP.wp [] 120 rfl ?_
  refine nn_if rfl (by omega) ?_
  refine ⟨fun _ => ?_, fun h => absurd (by decide) h⟩
  by_cases h1 : n < 10
  · rw [digs, if_pos h1] at hQ
    refine ⟨fun _ => ?_, fun h => absurd (by rw [k1, i_neglt (by omega) (by omega)]; omega) h⟩
    exact hQ
  refine ⟨fun h => absurd h (by rw [k1, i_neglt (by omega) (by omega)]; omega), fun _ => ?_⟩
  refine ⟨fun _ => ?_, fun h => absurd (by decide) h⟩
  by_cases h2 : n < 100
  · rw [digs, if_neg h1, if_pos h2] at hQ
    refine ⟨fun _ => ?_, fun h => absurd (by rw [k2, i_neglt (by omega) (by omega)]; omega) h⟩
    exact hQ
  refine ⟨fun h => absurd h (by rw [k2, i_neglt (by omega) (by omega)]; omega), fun _ => ?_⟩
  refine ⟨fun _ => ?_, fun h => absurd (by decide) h⟩
  rw [digs, if_neg h1, if_neg h2] at hQ
  refine ⟨fun _ => ?_, fun h => absurd (by rw [k3, i_neglt (by omega) (by omega)]; omega) h⟩
  exact hQ
/-- the row of digits behind place L -/
def digF (O : Nat → Int32) (L n : Nat) : Nat → Int32 := if n < 10 then upd O L (Int32.ofNat (48 + n)) else if n < 100 then upd (upd O (L + 1) (Int32.ofNat (48 + n % 10))) L (Int32.ofNat (48 + n / 10)) else upd (upd (upd O (L + 2) (Int32.ofNat (48 + n % 10))) (L + 1) (Int32.ofNat (48 + n / 10 % 10))) L (Int32.ofNat (48 + n / 100))
theorem c_getChars {L : Nat} (hg : g ≤ 3) (hn : n < 1000) (hL : L + (digs n).length ≤ capOf g) : EvR (RO9 hs len f) (d + 1) 343 [.int (Int32.ofNat n), .int (Int32.ofNat (L + (digs n).length)), .ref (sbOf g)] (Wg g) M (some (.int (Int32.ofNat L))) (upM M (sbOf g) (digF (M (sbOf g)) L n)) := by
  have k1 : (-100 : Int32) = -Int32.ofNat 100 := by decide
  have k2 : (-9 : Int32) = -Int32.ofNat 9 := by decide
  have nn : ∀ x : Nat, -(-Int32.ofNat x) = Int32.ofNat x := fun x => Int32.neg_neg
  have hc : capOf g ≤ 142 := by
    rcases g_cases hg with rfl | rfl | rfl | rfl <;> decide
  have nar : ∀ r, r < 100 → vp_nar .byte (strF [48, 49, 50, 51, 52, 53, 54, 55, 56, 57, 48, 49, 50, 51, 52, 53, 54, 55, 56, 57, 48, 49, 50, 51, 52, 53, 54, 55, 56, 57, 48, 49, 50, 51, 52, 53, 54, 55, 56, 57, 48, 49, 50, 51, 52, 53, 54, 55, 56, 57, 48, 49, 50, 51, 52, 53, 54, 55, 56, 57, 48, 49, 50, 51, 52, 53, 54, 55, 56, 57, 48, 49, 50, 51, 52, 53, 54, 55, 56, 57, 48, 49, 50, 51, 52, 53, 54, 55, 56, 57, 48, 49, 50, 51, 52, 53, 54, 55, 56, 57] r) = Int32.ofNat (48 + r % 10) ∧ vp_nar .byte (strF [48, 48, 48, 48, 48, 48, 48, 48, 48, 48, 49, 49, 49, 49, 49, 49, 49, 49, 49, 49, 50, 50, 50, 50, 50, 50, 50, 50, 50, 50, 51, 51, 51, 51, 51, 51, 51, 51, 51, 51, 52, 52, 52, 52, 52, 52, 52, 52, 52, 52, 53, 53, 53, 53, 53, 53, 53, 53, 53, 53, 54, 54, 54, 54, 54, 54, 54, 54, 54, 54, 55, 55, 55, 55, 55, 55, 55, 55, 55, 55, 56, 56, 56, 56, 56, 56, 56, 56, 56, 56, 57, 57, 57, 57, 57, 57, 57, 57, 57, 57] r) = Int32.ofNat (48 + r / 10) := fun r hr => by
    rw [(dig_tab r hr).1, (dig_tab r hr).2]
    exact ⟨(byte_small _ (by omega)).1, (byte_small _ (by omega)).1⟩
  refine EvR.of (fun Q hQ => ?_)
  rw [digF] at hQ
  by_cases h1 : n < 10
  · rw [digs, if_pos h1] at hL ⊢
    have hL : L + 1 ≤ capOf g := hL
    rw [if_pos h1, show 48 + n = 48 + n % 10 by omega, ← (nar n (by omega)).1] at hQ
    rcases g_cases hg with rfl | rfl | rfl | rfl
    all_goals
      simp only [show capOf 0 = 16 from rfl, show capOf 1 = 34 from rfl, show capOf 2 = 70 from rfl, show capOf 3 = 142 from rfl] at hL
      refine EvP.wp [] 120 rfl ?_
      refine nn_if rfl (by omega) ?_
      refine ⟨fun _ => ?_, fun h => absurd rfl h⟩
      refine ⟨fun _ => ?_, fun h => absurd (by rw [k1, i_neglt (by omega) (by omega)]; omega) h⟩
      refine ⟨n, nn n, by omega, ?_⟩
      refine ⟨L, i_dec, hL, ?_⟩
      refine ⟨fun h => absurd h (by rw [k2, i_neglt (by omega) (by omega)]; omega), fun _ => ?_⟩
      refine ⟨fun _ => ?_, fun h => absurd rfl h⟩
      refine Q_of hQ ?_ rfl
      rw [← (i_dec (n := L))]; rfl
  by_cases h2 : n < 100
  · rw [digs, if_neg h1, if_pos h2] at hL ⊢
    have hL : L + 2 ≤ capOf g := hL
    rw [if_neg h1, if_pos h2, ← (nar n h2).1, ← (nar n h2).2] at hQ
    rcases g_cases hg with rfl | rfl | rfl | rfl
    all_goals
      simp only [show capOf 0 = 16 from rfl, show capOf 1 = 34 from rfl, show capOf 2 = 70 from rfl, show capOf 3 = 142 from rfl] at hL
      refine EvP.wp [] 120 rfl ?_
      refine nn_if rfl (by omega) ?_
      refine ⟨fun _ => ?_, fun h => absurd rfl h⟩
      refine ⟨fun _ => ?_, fun h => absurd (by rw [k1, i_neglt (by omega) (by omega)]; omega) h⟩
      refine ⟨n, nn n, by omega, ?_⟩
      refine ⟨L + 1, i_dec, hL, ?_⟩
      refine ⟨fun _ => ?_, fun h => absurd (by rw [k2, i_neglt (by omega) (by omega)]; omega) h⟩
      refine ⟨n, nn n, by omega, ?_⟩
      refine ⟨L, (congrArg (· + (-1 : Int32)) (i_dec (n := L + 1))).trans i_dec, by omega, ?_⟩
      refine ⟨fun _ => ?_, fun h => absurd rfl h⟩
      refine Q_of hQ ?_ ?_
      · rw [show Int32.ofNat (L + [Int32.ofNat (48 + n / 10), Int32.ofNat (48 + n % 10)].length) + -1 + -1 = Int32.ofNat L from (congrArg (· + (-1 : Int32)) (i_dec (n := L + 1))).trans i_dec]
      · simp only [upM_at, upM_upM]
  · rw [digs, if_neg h1, if_neg h2] at hL ⊢
    have hL : L + 3 ≤ capOf g := hL
    have d1 := (div_100 n hn).1
    have d2 := (div_100 n hn).2
    rw [if_neg h1, if_neg h2, show 48 + n / 100 = 48 + n / 100 % 10 by omega, ← (nar (n / 100) (by omega)).1, show 48 + n / 10 % 10 = 48 + n % 100 / 10 by omega, ← (nar (n % 100) (by omega)).2, show 48 + n % 10 = 48 + n % 100 % 10 by omega, ← (nar (n % 100) (by omega)).1] at hQ
    rw [← d1] at d2
    rcases g_cases hg with rfl | rfl | rfl | rfl
    all_goals
      simp only [show capOf 0 = 16 from rfl, show capOf 1 = 34 from rfl, show capOf 2 = 70 from rfl, show capOf 3 = 142 from rfl] at hL
      refine EvP.wp [] 160 rfl ?_
      refine nn_if rfl (by omega) ?_
      refine ⟨fun _ => ?_, fun h => absurd rfl h⟩
      refine ⟨fun h => absurd h (by rw [k1, i_neglt (by omega) (by omega)]; omega), fun _ => ?_⟩
      refine ⟨by decide, ?_⟩
      refine ⟨n % 100, d2, by omega, ?_⟩
      refine ⟨L + 2, i_dec, hL, ?_⟩
      refine ⟨n % 100, d2, by omega, ?_⟩
      refine ⟨L + 1, (congrArg (· + (-1 : Int32)) (i_dec (n := L + 2))).trans i_dec, by omega, ?_⟩
      refine ⟨fun _ => ?_, fun h => absurd (by rw [d1, k1, i_neglt (by omega) (by omega)]; omega) h⟩
      refine ⟨n / 100, by rw [d1]; exact nn _, by omega, ?_⟩
      refine ⟨L, (congrArg (· + (-1 : Int32)) ((congrArg (· + (-1 : Int32)) (i_dec (n := L + 2))).trans i_dec)).trans i_dec, by omega, ?_⟩
      refine ⟨fun h => absurd h (by rw [d1, k2, i_neglt (by omega) (by omega)]; omega), fun _ => ?_⟩
      refine ⟨fun _ => ?_, fun h => absurd rfl h⟩
      refine Q_of hQ ?_ ?_
      · rw [show Int32.ofNat (L + [Int32.ofNat (48 + n / 100), Int32.ofNat (48 + n / 10 % 10), Int32.ofNat (48 + n % 10)].length) + -1 + -1 + -1 = Int32.ofNat L from (congrArg (· + (-1 : Int32)) ((congrArg (· + (-1 : Int32)) (i_dec (n := L + 2))).trans i_dec)).trans i_dec]
      · simp only [upM_at, upM_upM]
theorem out_digs {M' : mM} (hO : OutT g M l) (hn : n < 1000) (hl : l.length + (digs n).length ≤ capOf g) : OutT g (upM (upM M (sbOf g) (digF (M (sbOf g)) l.length n)) 142 (upd (M 142) 3 (Int32.ofNat (l.length + (digs n).length)))) (l ++ digs n) := by
  have hs := sbOf_lt (g := g)
  refine out_app hO (digs_sgn hn) hl (by rw [upM_at]) (fun j hj => ?_) (fun j hj => ?_)
  · rw [upM_ne (by omega), upM_at, digF]
    unfold digs at hj ⊢
    by_cases h1 : n < 10
    · rw [if_pos h1] at hj ⊢
      rw [if_pos h1, show j = 0 from Nat.lt_one_iff.mp hj, Nat.add_zero, upd_at]; rfl
    · rw [if_neg h1] at hj ⊢
      rw [if_neg h1]
      by_cases h2 : n < 100
      · rw [if_pos h2] at hj ⊢
        rw [if_pos h2]
        have hj : j < 2 := hj
        rcases (show j = 0 ∨ j = 1 by omega) with rfl | rfl
        · rw [show l.length + 0 = l.length from rfl, upd_at]; rfl
        · rw [upd_ne (by omega), upd_at]; rfl
      · rw [if_neg h2] at hj ⊢
        rw [if_neg h2]
        have hj : j < 3 := hj
        rcases (show j = 0 ∨ j = 1 ∨ j = 2 by omega) with rfl | rfl | rfl
        · rw [show l.length + 0 = l.length from rfl, upd_at]; rfl
        · rw [upd_ne (by omega), upd_at]; rfl
        · rw [upd_ne (by omega), upd_ne (by omega), upd_at]; rfl
  · rw [upM_ne (by omega), upM_at, digF]
    unfold digs at hj
    by_cases h1 : n < 10
    · rw [if_pos h1] at hj
      have hj : j < l.length ∨ l.length + 1 ≤ j := hj
      rw [if_pos h1, upd_ne (by omega)]
    · rw [if_neg h1] at hj
      rw [if_neg h1]
      by_cases h2 : n < 100
      · rw [if_pos h2] at hj
        have hj : j < l.length ∨ l.length + 2 ≤ j := hj
        rw [if_pos h2, upd_ne (by omega), upd_ne (by omega)]
      · rw [if_neg h2] at hj
        have hj : j < l.length ∨ l.length + 3 ≤ j := hj
        rw [if_neg h2, upd_ne (by omega), upd_ne (by omega), upd_ne (by omega)]
theorem c_appI (hO : OutT g M l) (hn : n < 1000) (hl : l.length + (digs n).length ≤ 120) (hQ : aQ Q g M (l ++ digs n)) : EvP (RO9 hs len f) (d + 6) 320 [.ref 142, .int (Int32.ofNat n)] (Wg g) M Q := by
  have hg := hO.1
  have hd3 := digs_len (n := n)
  have ss := fun d => c_strSize (RO := RO9 hs len f) (d := d) (G := Wg g) (M := M) hn
  have hcnt : M 142 3 + Int32.ofNat (digs n).length = Int32.ofNat (l.length + (digs n).length) := by rw [hO.2.2.2.1, i_add]
  have en : ∀ (d : Nat) (Q' : mQ), (∀ g' M' mc ms, OutT g' M' l → l.length + (digs n).length ≤ capOf g' → FrO M M' → mc + g = g' → ms + 150 * g ≤ 150 * g' → Q' (.inl none) (Wg g') M' mc ms) → EvP (RO9 hs len f) (d + 3) 332 [.ref 142, .int (M 142 3 + Int32.ofNat (digs n).length)] (Wg g) M Q' := fun d Q' h => by
    rw [hcnt]
    exact c_ens hO (by omega) (by omega) hl h
  have fin : ∀ g' M' mc ms, OutT g' M' l → l.length + (digs n).length ≤ capOf g' → FrO M M' → mc + g = g' → ms + 150 * g ≤ 150 * g' → Q (.inl (some (.ref 142))) (Wg g') (upM (upM M' (sbOf g') (digF (M' (sbOf g')) l.length n)) 142 (upd (M' 142) 3 (M 142 3 + Int32.ofNat (digs n).length))) (0 + (0 + mc)) (0 + (0 + ms)) ∧ M' 142 1 = 0 ∧ ∀ d, EvR (RO9 hs len f) (d + 1) 343 [.int (Int32.ofNat n), .int (M 142 3 + Int32.ofNat (digs n).length), .ref (sbOf g')] (Wg g') M' (some (.int (Int32.ofNat l.length))) (upM M' (sbOf g') (digF (M' (sbOf g')) l.length n)) := fun g' M' mc ms x1 x2 x3 x4 x5 => by
    rw [hcnt]
    have hs := sbOf_lt (g := g')
    rw [Nat.zero_add, Nat.zero_add, Nat.zero_add, Nat.zero_add]
    exact ⟨hQ g' _ mc ms (out_digs (M' := M') x1 hn x2) (x3.trans (fun q h1 h2 h3 => by rw [upM_ne h1, upM_ne (by omega)])) x4 x5, x1.2.2.1, fun d => c_getChars x1.1 hn x2⟩
  clear hQ
  rcases g_cases hg with rfl | rfl | rfl | rfl
  all_goals
    refine EvP.wp [] 60 rfl ?_
    refine EvP.wp [] 60 rfl ?_
    refine (ss _).use ?_
    refine en _ _ (fun g' M' mc ms x1 x2 x3 x4 x5 => ?_)
    obtain ⟨f1, f2, f3⟩ := fin g' M' mc ms x1 x2 x3 x4 x5
    rcases g_cases x1.1 with rfl | rfl | rfl | rfl
    all_goals
      refine (c_isLat f2).use ?_
      refine ⟨fun h9 => absurd h9 (by decide), fun _ => ?_⟩
      refine (f3 _).use ?_
      exact f1
theorem c_coder {i : Nat} (hi : i = 1000044 ∨ i = 1000046 ∨ i = 1000048) : EvR (RO9 hs len f) (d + 1) 288 [.ref i] G M (some (.int 0)) M := by
  rcases hi with rfl | rfl | rfl
  all_goals
    refine EvP.wp [] 60 rfl ?_
    refine ⟨fun h9 => absurd h9 (by decide), fun _ => ?_⟩
    exact ⟨by decide +kernel, rfl, rfl, rfl, rfl, rfl⟩
theorem c_strLen {i : Nat} (hi : i = 1000044 ∨ i = 1000046 ∨ i = 1000048) : EvR (RO9 hs len f) (d + 2) 293 [.ref i] G M (some (.int 4)) M := by
  have hc := fun d => c_coder (hs := hs) (f := f) (len := len) (d := d) (G := G) (M := M) hi
  rcases hi with rfl | rfl | rfl
  all_goals
    refine EvP.wp [] 60 rfl ?_
    refine (hc _).use ?_
    refine ⟨?_, rfl, rfl, rfl, rfl⟩
    rw [sr0]; rfl
def wordF (k : Nat) : Nat → Int32 := if k = 0 then strF [114, 111, 97, 100] else if k = 1 then strF [102, 111, 114, 100] else strF [99, 97, 109, 112]
theorem wordF_ok : ∀ k, k < 3 → ∀ j, j < 4 → wordF k j = (wordL k).getD j 0 ∧ fits .byte (.int (wordF k j)) = true := by decide +kernel
theorem wordL_sgn : ∀ k, k < 3 → ∀ x ∈ wordL k, sgn x := by
  intro k hk x hx
  rcases (show k = 0 ∨ k = 1 ∨ k = 2 by omega) with rfl | rfl | rfl
  all_goals
    rcases List.mem_cons.mp hx with rfl | hx
    · exact ⟨_, by decide, rfl⟩
    · rcases List.mem_cons.mp hx with rfl | hx
      · exact ⟨_, by decide, rfl⟩
      · rcases List.mem_cons.mp hx with rfl | hx
        · exact ⟨_, by decide, rfl⟩
        · rcases List.mem_cons.mp hx with rfl | hx
          · exact ⟨_, by decide, rfl⟩
          · cases hx
theorem c_putStr {k L : Nat} (hg : g ≤ 3) (hk : k < 3) (h1 : M 142 1 = 0) (hL : L + 4 ≤ capOf g) : EvR (RO9 hs len f) (d + 3) 340 [.ref 142, .int (Int32.ofNat L), .ref (1000044 + 2 * k)] (Wg g) M none (upM M (sbOf g) (va_cpy (wordF k) (M (sbOf g)) 0 L 4)) := by
  have hc : capOf g ≤ 142 := by
    rcases g_cases hg with rfl | rfl | rfl | rfl <;> decide
  have hco := fun d => c_coder (hs := hs) (f := f) (len := len) (d := d) (G := Wg g) (M := M) (i := 1000044 + 2 * k) (by omega)
  have hsh : Int32.ofNat L <<< (M 142 1 &&& 31) = Int32.ofNat L := by rw [h1, sh0]
  have hcl : (Int32.ofNat L <<< (M 142 1 &&& 31)).toNatClampNeg = L := by rw [hsh, clamp_nn (by omega)]
  have hcp : cpb 0 (Int32.ofNat L <<< (M 142 1 &&& 31)) (Int32.ofNat 4) 4 (capOf g) = true := by
    have e4 : (Int32.ofNat 4).toNatClampNeg = 4 := by decide
    have e0 : (0 : Int32).toNatClampNeg = 0 := by decide
    rw [hsh, cpb, show (Int32.ofNat L).toNatClampNeg = L from clamp_nn (by omega), e4, e0, decide_eq_false (i_nonneg (a := L) (by omega)), Nat.ble_eq_true_of_le hL]
    decide
  have hfit : ((List.range (Int32.ofNat 4).toNatClampNeg).all (fun i => fits .byte (.int (wordF k ((0 : Int32).toNatClampNeg + i))))) = true := by
    refine List.all_eq_true.mpr (fun i hi => ?_)
    have h9 : i < 4 := List.mem_range.mp hi
    show fits .byte (.int (wordF k (0 + i))) = true
    rw [Nat.zero_add]
    exact (wordF_ok k hk i h9).2
  refine EvR.of (fun Q hQ => ?_)
  rw [← hcl] at hQ
  rcases g_cases hg with rfl | rfl | rfl | rfl
  all_goals
    rcases (show k = 0 ∨ k = 1 ∨ k = 2 by omega) with rfl | rfl | rfl
    all_goals
      refine EvP.wp [] 60 rfl ?_
      refine EvP.wp [] 60 rfl ?_
      refine ⟨fun h9 => absurd h9 (by decide), fun _ => ?_⟩
      refine (hco _).use ?_
      refine ⟨fun _ => ?_, fun h9 => absurd h1 h9⟩
      refine EvP.wp [] 60 rfl ?_
      refine (hco _).use ?_
      refine ⟨fun _ => ?_, fun h9 => absurd h1.symm h9⟩
      refine ⟨hcp, hfit, ?_⟩
      exact hQ
theorem out_word {k : Nat} (hO : OutT g M l) (hk : k < 3) (hl : l.length + 4 ≤ capOf g) : OutT g (upM (upM M (sbOf g) (va_cpy (wordF k) (M (sbOf g)) 0 l.length 4)) 142 (upd (M 142) 3 (Int32.ofNat (l.length + 4)))) (l ++ wordL k) := by
  have hs := sbOf_lt (g := g)
  have hw := wordL_len (k := k)
  refine out_app hO (wordL_sgn k hk) (by rw [hw]; exact hl) (by rw [upM_at, hw]) (fun j hj => ?_) (fun j hj => ?_)
  · rw [hw] at hj
    rw [upM_ne (by omega), upM_at, va_cpy, if_pos (by omega), show 0 + (l.length + j - l.length) = j by omega]
    exact (wordF_ok k hk j hj).1
  · rw [hw] at hj
    rw [upM_ne (by omega), upM_at, va_cpy, if_neg (by omega)]
theorem c_appS {k : Nat} (hO : OutT g M l) (hk : k < 3) (hl : l.length + 4 ≤ 120) (hQ : aQ Q g M (l ++ wordL k)) : EvP (RO9 hs len f) (d + 6) 319 [.ref 142, .ref (1000044 + 2 * k)] (Wg g) M Q := by
  have hg := hO.1
  have hln := fun d M' g' => c_strLen (hs := hs) (f := f) (len := len) (d := d) (G := Wg g') (M := M') (i := 1000044 + 2 * k) (by omega)
  have hcnt : ∀ M' g', OutT g' M' l → M' 142 3 + 4 = Int32.ofNat (l.length + 4) := fun M' g' h => by rw [h.2.2.2.1]; exact i_add _ 4
  have en : ∀ (d : Nat) (Q' : mQ), (∀ g' M' mc ms, OutT g' M' l → l.length + 4 ≤ capOf g' → FrO M M' → mc + g = g' → ms + 150 * g ≤ 150 * g' → Q' (.inl none) (Wg g') M' mc ms) → EvP (RO9 hs len f) (d + 3) 332 [.ref 142, .int (M 142 3 + 4)] (Wg g) M Q' := fun d Q' h => by
    rw [hcnt M g hO]
    exact c_ens hO (by omega) (by omega) hl h
  have fin : ∀ g' M' mc ms, OutT g' M' l → l.length + 4 ≤ capOf g' → FrO M M' → mc + g = g' → ms + 150 * g ≤ 150 * g' → Q (.inl (some (.ref 142))) (Wg g') (upM (upM M' (sbOf g') (va_cpy (wordF k) (M' (sbOf g')) 0 l.length 4)) 142 (upd (M' 142) 3 (M' 142 3 + 4))) (0 + (0 + mc)) (0 + (0 + ms)) ∧ ∀ d, EvR (RO9 hs len f) (d + 3) 340 [.ref 142, .int (M' 142 3), .ref (1000044 + 2 * k)] (Wg g') M' none (upM M' (sbOf g') (va_cpy (wordF k) (M' (sbOf g')) 0 l.length 4)) := fun g' M' mc ms x1 x2 x3 x4 x5 => by
    have hs := sbOf_lt (g := g')
    rw [hcnt M' g' x1, x1.2.2.2.1]
    rw [Nat.zero_add, Nat.zero_add, Nat.zero_add, Nat.zero_add]
    exact ⟨hQ g' _ mc ms (out_word x1 hk x2) (x3.trans (fun q h1 h2 h3 => by rw [upM_ne h1, upM_ne (by omega)])) x4 x5, fun d => c_putStr x1.1 hk x1.2.2.1 x2⟩
  clear hQ
  rcases g_cases hg with rfl | rfl | rfl | rfl
  all_goals
    rcases (show k = 0 ∨ k = 1 ∨ k = 2 by omega) with rfl | rfl | rfl
    all_goals
      refine EvP.wp [] 60 rfl ?_
      refine EvP.wp [] 60 rfl ?_
      refine (hln _ _ _).use ?_
      refine en _ _ (fun g' M' mc ms x1 x2 x3 x4 x5 => ?_)
      obtain ⟨f1, f2⟩ := fin g' M' mc ms x1 x2 x3 x4 x5
      rcases g_cases x1.1 with rfl | rfl | rfl | rfl
      all_goals
        refine (f2 _).use ?_
        exact f1
theorem c_setLen (hO : OutT g M l) (hQ : ∀ M', OutT g M' [] → FrO M M' → Q (.inl none) (Wg g) M' 0 0) : EvP RO (d + 5) 325 [.ref 142, .int 0] (Wg g) M Q := by
  have hg := hO.1
  have hc := hO.2.2.1
  have hl : l.length ≤ 142 := by
    have := hO.2.1
    rcases g_cases hg with rfl | rfl | rfl | rfl <;> exact Nat.le_trans this (by decide)
  have e0 : ∀ d, EvR RO (d + 1) 332 [.ref 142, .int 0] (Wg g) M none M := fun d => by
    rcases g_cases hg with rfl | rfl | rfl | rfl
    · exact c_ens_no0 (q := 0) hc (by omega)
    · exact c_ens_no1 (q := 0) hc (by omega)
    · exact c_ens_no2 (q := 0) hc (by omega)
    · exact c_ens_no3 (q := 0) hc (by omega)
  have fin : ∀ f : Nat → Int32, f 1 = M 142 1 → f 3 = 0 → Q (.inl none) (Wg g) (upM M 142 f) 0 0 := fun f h1 h3 => by
    have hne : sbOf g ≠ 142 := by
      have := sbOf_lt (g := g)
      omega
    refine hQ _ ⟨hg, Nat.zero_le _, by rw [upM_at, h1]; exact hc, by rw [upM_at, h3]; rfl, fun j hj => by rw [upM_ne hne]; exact hO.2.2.2.2.1 j hj, fun j hj => absurd hj (Nat.not_lt_zero _)⟩ (fun q h1 h2 h3 => upM_ne h1)
  clear hQ
  have f1 := fin (upd (upd (M 142) 2 1) 3 0) (by rw [upd_ne (by decide), upd_ne (by decide)]) (by rw [upd_at])
  have f2 := fin (upd (M 142) 3 0) (by rw [upd_ne (by decide)]) (by rw [upd_at])
  rcases g_cases hg with rfl | rfl | rfl | rfl
  all_goals
    refine EvP.wp [] 60 rfl ?_
    refine EvP.wp [] 60 rfl ?_
    refine ⟨fun h9 => absurd h9 (by decide), fun _ => ?_⟩
    refine (e0 _).use ?_
    refine lt_if (a := l.length) (b := 0) hO.2.2.2.1 rfl (by omega) (by omega) (fun h => absurd h (by omega)) (fun _ => ?_)
    refine gt_if (a := l.length) (b := 0) hO.2.2.2.1 rfl (by omega) (by omega) (fun h => ?_) (fun h => ?_)
    · exact Q_of f1 rfl (by simp only [upM_at, upM_upM])
    · exact f2
theorem c_len {sb : Nat} {ext : List sh} : EvR RO (d + 2) 324 [.ref 142] (gW sb ext) M (some (.int (M 142 3))) M := by
  refine EvP.wp [] 60 rfl ?_
  refine EvP.wp [] 60 rfl ?_
  exact ⟨rfl, rfl, rfl, rfl, rfl⟩
theorem c_check {i n : Int32} (h0 : ¬ i < 0) (h1 : i < n) : EvR RO (d + 1) 287 [.int i, .int n] G M none M := by
  refine ⟨.inl none, G, M, 0, 0, 0, ?_, rfl, rfl, rfl, rfl, rfl⟩
  rw [mrun_s]
  show (bif !decide (i < 0) && decide (i < n) then some ((.inl none : mO), wof G M, 0, 0) else none) = _
  rw [decide_eq_false h0, decide_eq_true h1]; rfl
theorem char_small : ∀ a, a < 128 → narrow .char (.int (Int32.ofNat a)) = .int (Int32.ofNat a) := by decide +kernel
theorem c_charAt {i a : Nat} (hO : OutT g M l) (hi : i < l.length) (ha : a < 128) (hx : M (sbOf g) i = Int32.ofNat a) : EvR RO (d + 3) 322 [.ref 142, .int (Int32.ofNat i)] (Wg g) M (some (.int (Int32.ofNat a))) M := by
  have hg := hO.1
  have hc := hO.2.2.1
  have hcap : l.length ≤ capOf g := hO.2.1
  have hc142 : capOf g ≤ 142 := by
    rcases g_cases hg with rfl | rfl | rfl | rfl <;> decide
  have hmn : (if Int32.ofNat (capOf g) >>> (M 142 1 &&& 31) < M 142 3 then Int32.ofNat (capOf g) >>> (M 142 1 &&& 31) else M 142 3) = Int32.ofNat l.length := by
    rw [hc, sr0, hO.2.2.2.1, if_neg]
    rw [i_lt (by omega) (by omega)]
    omega
  have hck : ∀ d, EvR RO (d + 1) 287 [.int (Int32.ofNat i), .int (if Int32.ofNat (capOf g) >>> (M 142 1 &&& 31) < M 142 3 then Int32.ofNat (capOf g) >>> (M 142 1 &&& 31) else M 142 3)] (Wg g) M none M := fun d => by
    rw [hmn]
    exact c_check (i_nonneg (by omega)) ((i_lt (by omega) (by omega)).mpr hi)
  have hv : ((M (sbOf g) i &&& 255).toUInt32 % 65536).toInt32 = Int32.ofNat a := by
    rw [hx, (byte_small a ha).2.2.2.2.2, (byte_small a ha).2.2.2.2.1]
  have hn : narrow .char (.int (((M (sbOf g) i &&& 255).toUInt32 % 65536).toInt32)) = .int (((M (sbOf g) i &&& 255).toUInt32 % 65536).toInt32) := by
    rw [hv]; exact char_small a ha
  rw [← hv]
  rcases g_cases hg with rfl | rfl | rfl | rfl
  all_goals
    refine EvP.wp [] 60 rfl ?_
    refine EvP.wp [] 60 rfl ?_
    refine (hck _).use ?_
    refine ⟨fun _ => ?_, fun h9 => absurd hc h9⟩
    refine ⟨i, rfl, Nat.lt_of_lt_of_le hi hcap, ?_⟩
    refine ⟨hn, ?_⟩
    exact ⟨hn, rfl, rfl, rfl, rfl, rfl⟩
end SB
