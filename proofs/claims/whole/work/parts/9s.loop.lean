/-! the law's loop -/
theorem i_sub6 {a b : Nat} (ha : a < 1000000) (hb : b < 1000000) : Int32.ofNat a - 6 < Int32.ofNat b ↔ a < b + 6 := by
  by_cases h : 6 ≤ a
  · rw [show Int32.ofNat a - 6 = Int32.ofNat (a - 6) from i_sub h, i_lt (by omega) hb]
    omega
  · rw [Int32.lt_iff_toInt_lt, i_toInt hb]
    have h9 : (Int32.ofNat a - 6).toInt = (a : Int) - 6 := by
      rcases (show a = 0 ∨ a = 1 ∨ a = 2 ∨ a = 3 ∨ a = 4 ∨ a = 5 by omega) with rfl | rfl | rfl | rfl | rfl | rfl <;> decide
    rw [h9]
    omega
section LOOP
variable {hs : Nat → Int32} {d len : Nat} {f : Nat → Int32} {Q : mQ}
theorem law_back {i c s sb : Nat} {ext : List sh} {M : mM} {v6 v7 v8 v9 : Value} (h : GoP (RO9 hs len f) d 358 (lawL (i + 6) v6 v7 v8 v9) [] (gW sb ext) M 28 c s Q) : GoP (RO9 hs len f) d 358 (lawL i v6 v7 v8 v9) [] (gW sb ext) M 2408 c s Q := by
  refine wp_sound [28] 2 _ _ _ _ _ _ _ ?_
  show GoP (RO9 hs len f) d 358 [.ref 1000108, .ref 0, .ref 145, .ref 157, .ref 158, .int (Int32.ofNat i + 6), v6, v7, v8, v9] [] (gW sb ext) M 28 c s Q
  rw [show Int32.ofNat i + 6 = Int32.ofNat (i + 6) from i_add i 6]
  exact h
theorem law_sw {i c s sb : Nat} {ext : List sh} {M : mM} {v6 v7 v8 v9 : Value} (hI : Inv sb ext M) (hi : i + 6 ≤ len) (hlen : len ≤ 3072) (hK : Lcont (RO9 hs len f) (d + 30) Q ext i c s) : GoP (RO9 hs len f) (d + 30) 358 (lawL i v6 v7 v8 v9) [] (gW sb ext) M 38 c s Q := by
  refine wp_sound [41] 4 _ _ _ _ _ _ _ ?_
  refine go_ald (j := i) rfl rfl (by omega) (by omega) ?_
  refine wp_sound [] 3 _ _ _ _ _ _ _ ?_
  refine ⟨fun _ => law_feed hI hi hlen hK, fun _ => ?_⟩
  refine ⟨fun _ => law_load hI hi hlen hK, fun _ => ?_⟩
  refine ⟨fun _ => law_errorCode hI hi hlen hK, fun _ => ?_⟩
  refine ⟨fun _ => law_errorPosition hI hi hlen hK, fun _ => ?_⟩
  refine ⟨fun _ => law_value hI hi hlen hK, fun _ => ?_⟩
  refine ⟨fun _ => law_setting hI hi hlen hK, fun _ => ?_⟩
  refine ⟨fun _ => law_count hI hi hlen hK, fun _ => ?_⟩
  refine ⟨fun _ => law_mule hI hi hlen hK, fun _ => ?_⟩
  refine ⟨fun _ => law_nameByte hI hi hlen hK, fun _ => ?_⟩
  refine ⟨fun _ => law_sack hI hi hlen hK, fun _ => ?_⟩
  refine ⟨fun _ => law_stage hI hi hlen hK, fun _ => ?_⟩
  refine ⟨fun _ => law_gap hI hi hlen hK, fun _ => ?_⟩
  refine ⟨fun _ => law_whyNot hI hi hlen hK, fun _ => ?_⟩
  refine ⟨fun _ => law_whyNoTrip hI hi hlen hK, fun _ => ?_⟩
  refine ⟨fun _ => law_tripBrings hI hi hlen hK, fun _ => ?_⟩
  refine ⟨fun _ => law_fate hI hi hlen hK, fun _ => ?_⟩
  refine ⟨fun _ => law_tiredBy hI hi hlen hK, fun _ => ?_⟩
  refine ⟨fun _ => law_bestWorth hI hi hlen hK, fun _ => ?_⟩
  refine ⟨fun _ => law_bestSack hI hi hlen hK, fun _ => ?_⟩
  refine ⟨fun _ => law_lighter hI hi hlen hK, fun _ => ?_⟩
  refine ⟨fun _ => law_freshIn hI hi hlen hK, fun _ => ?_⟩
  refine ⟨fun _ => law_deepest hI hi hlen hK, fun _ => ?_⟩
  refine ⟨fun _ => law_worthOfLoads hI hi hlen hK, fun _ => ?_⟩
  refine ⟨fun _ => law_filled hI hi hlen hK, fun _ => ?_⟩
  refine ⟨fun _ => law_pack hI hi hlen hK, fun _ => ?_⟩
  refine ⟨fun _ => law_unpack hI hi hlen hK, fun _ => ?_⟩
  refine ⟨fun _ => law_fill hI hi hlen hK, fun _ => ?_⟩
  refine ⟨fun _ => law_shift hI hi hlen hK, fun _ => ?_⟩
  refine ⟨fun _ => law_trip hI hi hlen hK, fun _ => ?_⟩
  refine ⟨fun _ => law_rest hI hi hlen hK, fun _ => ?_⟩
  refine ⟨fun _ => law_addSack hI hi hlen hK, fun _ => ?_⟩
  refine ⟨fun _ => law_addStage hI hi hlen hK, fun _ => ?_⟩
  refine ⟨fun _ => law_dropStage hI hi hlen hK, fun _ => ?_⟩
  refine ⟨fun _ => law_set hI hi hlen hK, fun _ => ?_⟩
  refine ⟨fun _ => law_restore hI hi hlen hK, fun _ => ?_⟩
  refine ⟨fun _ => law_undo hI hi hlen hK, fun _ => ?_⟩
  refine ⟨fun _ => law_save hI hi hlen hK, fun _ => ?_⟩
  refine ⟨fun _ => law_writeMule hI hi hlen hK, fun _ => ?_⟩
  refine ⟨fun _ => law_writeWay hI hi hlen hK, fun _ => ?_⟩
  refine ⟨fun _ => law_outputByte hI hi hlen hK, fun _ => ?_⟩
  exact hK _ _ _ _ _ _ _ _ _ hI (by omega) (by omega)
theorem law_loop {c0 s0 : Nat} (hlen : len ≤ 3072) (hQ : ∀ G' M' mc ms, mc ≤ c0 + 515 → ms ≤ s0 + 3522 → Q (.inl (some (.int 1))) G' M' mc ms) : ∀ (m n : Nat), len < 6 * n + 6 * m + 6 → n ≤ 512 → ∀ (sb : Nat) (ext : List sh) (M : mM) (c s : Nat) (v6 v7 v8 v9 : Value), Inv sb ext M → c ≤ c0 + n + ext.length → s ≤ s0 + 6 * n + 150 * ext.length → GoP (RO9 hs len f) (d + 30) 358 (lawL (6 * n) v6 v7 v8 v9) [] (gW sb ext) M 28 c s Q := by
  intro m
  induction m with
  | zero =>
    intro n hm hn sb ext M c s v6 v7 v8 v9 hI hc hs9
    refine wp_sound [38, 2414] 40 _ _ _ _ _ _ _ ?_
    refine ⟨fun _ => ?_, fun h => absurd ((i_sub6 (by omega) (by omega)).mpr (by omega)) h⟩
    refine wp_sound [] 2 _ _ _ _ _ _ _ ?_
    have h3 : ext.length ≤ 3 := by
      obtain ⟨p, hp⟩ := hI.2.2.2.2.2.2.1
      exact hp.2.2.1
    refine ⟨rfl, ?_⟩
    exact hQ _ _ _ _ (by omega) (by omega)
  | succ m ih =>
    intro n hm hn sb ext M c s v6 v7 v8 v9 hI hc hs9
    refine wp_sound [38, 2414] 40 _ _ _ _ _ _ _ ?_
    refine ⟨fun _ => ?_, fun h => ?_⟩
    · refine wp_sound [] 2 _ _ _ _ _ _ _ ?_
      have h3 : ext.length ≤ 3 := by
        obtain ⟨p, hp⟩ := hI.2.2.2.2.2.2.1
        exact hp.2.2.1
      refine ⟨rfl, ?_⟩
      exact hQ _ _ _ _ (by omega) (by omega)
    · have h6 : 6 * n + 6 ≤ len := Nat.le_of_not_lt (fun h9 => h ((i_sub6 (by omega) (by omega)).mpr h9))
      refine law_sw hI h6 hlen (fun sb' ext' M' c' s' w6 w7 w8 w9 hI' hc' hs' => law_back ?_)
      exact ih (n + 1) (by omega) (by omega) sb' ext' M' c' s' w6 w7 w8 w9 hI' (by omega) (by omega)
end LOOP
