/-! texts: what stands in the world or is only read; numbers and texts into a StringBuilder -/
/-- a text of w signs f, one byte each -/
def StrA (RO : List mE) (G : List sh) (M : mM) (s w : Nat) (f : Nat → Int32) : Prop := ∃ y, wget RO G M 0 0 s = some (.ref y) ∧ wget RO G M 0 1 s = some (.int 0) ∧ wcls RO G s = some 0 ∧ wrd RO G M y = some (0, w, f) ∧ wlen RO G y = some w
section STR
variable {RO : List mE} {d k pc c s op nx : Nat} {L st : List Value} {G G2 : List sh} {M : mM} {Q : mQ} {x : List Nat} {v : Value}
theorem g_getW {ci kf n q : Nat} {u : Value} {r : List Value} (hcd : cd k pc = some (0, 37, nx, [ci, kf, n], v)) (hw : wget RO G M ci kf q = some u) (h : GoP RO d k L (u :: r) G M nx c s Q) : GoP RO d k L (.ref q :: r) G M pc c s Q := by
  refine wS_sound (K := fun L' st' G' M' pc' c' s' => GoP RO d k L' st' G' M' pc' c' s' Q) hcd ?_ (fun _ _ _ _ _ _ _ h9 => h9)
  show (match wget RO G M ci kf q with
      | some v => GoP RO d k L (v :: r) G M nx c s Q
      | none => False)
  rw [hw]
  exact h
theorem g_alenW {n q : Nat} {r : List Value} (hcd : cd k pc = some (0, 42, nx, x, v)) (hw : wlen RO G q = some n) (h : GoP RO d k L (.int (Int32.ofNat n) :: r) G M nx c s Q) : GoP RO d k L (.ref q :: r) G M pc c s Q := by
  refine wS_sound (K := fun L' st' G' M' pc' c' s' => GoP RO d k L' st' G' M' pc' c' s' Q) hcd ?_ (fun _ _ _ _ _ _ _ h9 => h9)
  show (match wlen RO G q with
      | some n => GoP RO d k L (.int (Int32.ofNat n) :: r) G M nx c s Q
      | none => False)
  rw [hw]
  exact h
end STR
section STR
variable {RO : List mE} {d b o p cap w s : Nat} {G : List sh} {M : mM} {Q : mQ} {l : List Int32} {f : Nat → Int32}
theorem c_coder (h : StrA RO G M s w f) : EvR RO (d + 1) 288 [.ref s] G M (some (.int 0)) M := by
  obtain ⟨y, h1, h2, h3, h4, h5⟩ := h
  refine EvR.of (fun Q hQ => ?_)
  refine EvP.of rfl ?_
  refine wp_sound [7] 40 _ _ _ _ _ _ _ ?_
  refine ⟨fun h9 => absurd h9 (by decide), fun _ => ?_⟩
  refine g_getW rfl h2 ?_
  refine wp_sound [] 40 _ _ _ _ _ _ _ ?_
  exact ⟨by decide +kernel, hQ⟩
theorem c_strLat (h : StrA RO G M s w f) : EvR RO (d + 1) 292 [.ref s] G M (some (.int 1)) M := by
  obtain ⟨y, h1, h2, h3, h4, h5⟩ := h
  refine EvR.of (fun Q hQ => ?_)
  refine EvP.of rfl ?_
  refine wp_sound [7] 40 _ _ _ _ _ _ _ ?_
  refine ⟨fun h9 => absurd h9 (by decide), fun _ => ?_⟩
  refine g_getW rfl h2 ?_
  refine wp_sound [] 40 _ _ _ _ _ _ _ ?_
  refine ⟨fun _ => ?_, fun h9 => absurd rfl h9⟩
  exact ⟨by decide +kernel, hQ⟩
theorem c_strLen (h : StrA RO G M s w f) : EvR RO (d + 2) 293 [.ref s] G M (some (.int (Int32.ofNat w))) M := by
  have hc := fun d => c_coder (d := d) h
  obtain ⟨y, h1, h2, h3, h4, h5⟩ := h
  refine EvR.of (fun Q hQ => ?_)
  rw [← sr0 (x := Int32.ofNat w)] at hQ
  refine EvP.of rfl ?_
  refine wp_sound [1] 40 _ _ _ _ _ _ _ ?_
  refine g_getW rfl h1 ?_
  refine g_alenW rfl h5 ?_
  refine wp_sound [6] 40 _ _ _ _ _ _ _ ?_
  refine g_call rfl rfl rfl (wrecv_v h3) rfl ?_
  refine (hc _).use ?_
  refine wp_sound [] 40 _ _ _ _ _ _ _ ?_
  exact hQ
theorem c_charAt {i a : Nat} (h : StrA RO G M s w f) (hi : i < w) (hw : w < 100000) (ha : a < 128) (hf : f i = Int32.ofNat a) : EvR RO (d + 3) 284 [.ref s, .int (Int32.ofNat i)] G M (some (.int (Int32.ofNat a))) M := by
  have hc := fun d => c_strLat (d := d) h
  obtain ⟨y, h1, h2, h3, h4, h5⟩ := h
  have hch : ((Int32.ofNat a &&& 255).toUInt32 % 65536).toInt32 = Int32.ofNat a := by rw [(byte_small a ha).2.2.2.2.2, (byte_small a ha).2.2.2.2.1]
  have hnr : narrow .char (.int (Int32.ofNat a)) = .int (Int32.ofNat a) := by
    have : ∀ a, a < 128 → narrow .char (.int (Int32.ofNat a)) = .int (Int32.ofNat a) := by decide +kernel
    exact this a ha
  refine EvR.of (fun Q hQ => ?_)
  refine EvP.of rfl ?_
  refine wp_sound [1] 40 _ _ _ _ _ _ _ ?_
  refine g_call rfl rfl rfl (wrecv_v h3) rfl ?_
  refine (hc _).use ?_
  refine wp_sound [8] 40 _ _ _ _ _ _ _ ?_
  refine ⟨fun h9 => absurd h9 (by decide), fun _ => ?_⟩
  refine g_getW rfl h1 ?_
  refine wp_sound [] 40 _ _ _ _ _ _ _ ?_
  refine EvP.of rfl ?_
  refine wp_sound [2] 40 _ _ _ _ _ _ _ ?_
  refine g_alenW rfl h5 ?_
  refine wp_sound [8] 40 _ _ _ _ _ _ _ ?_
  refine (ev_checkIndex (i_nonneg (by omega)) ((i_lt (by omega) (by omega)).mpr hi)).use ?_
  refine g_bald rfl h4 (by omega) rfl hi ?_
  rw [hf]
  refine wp_sound [] 40 _ _ _ _ _ _ _ ?_
  rw [← hch] at hQ hnr
  refine ⟨?_, ?_⟩
  · rw [hch] at hnr ⊢; exact hnr
  · refine ⟨?_, hQ⟩
    rw [hch] at hnr ⊢; exact hnr
/-- the row of digits behind place L, in any row -/
theorem c_getChars {hs fs : Nat → Int32} {len n L : Nat} (hp : p < 1000000) (g2 : G[p]? = some (.inl (0, cap))) (hcap : cap ≤ 1000) (hn : n < 1000) (hL : L + (digs n).length ≤ cap) : EvR (RO9 hs len fs) (d + 1) 343 [.int (Int32.ofNat n), .int (Int32.ofNat (L + (digs n).length)), .ref p] G M (some (.int (Int32.ofNat L))) (upM M p (digF (M p) L n)) := by
  have k1 : (-100 : Int32) = -Int32.ofNat 100 := by decide
  have k2 : (-9 : Int32) = -Int32.ofNat 9 := by decide
  have nn : ∀ x : Nat, -(-Int32.ofNat x) = Int32.ofNat x := fun x => Int32.neg_neg
  have nar : ∀ r, r < 100 → vp_nar .byte (strF [48, 49, 50, 51, 52, 53, 54, 55, 56, 57, 48, 49, 50, 51, 52, 53, 54, 55, 56, 57, 48, 49, 50, 51, 52, 53, 54, 55, 56, 57, 48, 49, 50, 51, 52, 53, 54, 55, 56, 57, 48, 49, 50, 51, 52, 53, 54, 55, 56, 57, 48, 49, 50, 51, 52, 53, 54, 55, 56, 57, 48, 49, 50, 51, 52, 53, 54, 55, 56, 57, 48, 49, 50, 51, 52, 53, 54, 55, 56, 57, 48, 49, 50, 51, 52, 53, 54, 55, 56, 57, 48, 49, 50, 51, 52, 53, 54, 55, 56, 57] r) = Int32.ofNat (48 + r % 10) ∧ vp_nar .byte (strF [48, 48, 48, 48, 48, 48, 48, 48, 48, 48, 49, 49, 49, 49, 49, 49, 49, 49, 49, 49, 50, 50, 50, 50, 50, 50, 50, 50, 50, 50, 51, 51, 51, 51, 51, 51, 51, 51, 51, 51, 52, 52, 52, 52, 52, 52, 52, 52, 52, 52, 53, 53, 53, 53, 53, 53, 53, 53, 53, 53, 54, 54, 54, 54, 54, 54, 54, 54, 54, 54, 55, 55, 55, 55, 55, 55, 55, 55, 55, 55, 56, 56, 56, 56, 56, 56, 56, 56, 56, 56, 57, 57, 57, 57, 57, 57, 57, 57, 57, 57] r) = Int32.ofNat (48 + r / 10) := fun r hr => by
    rw [(dig_tab r hr).1, (dig_tab r hr).2]
    exact ⟨(byte_small _ (by omega)).1, (byte_small _ (by omega)).1⟩
  refine EvR.of (fun Q hQ => ?_)
  rw [digF] at hQ
  by_cases h1 : n < 10
  · rw [digs, if_pos h1] at hL ⊢
    have hL : L + 1 ≤ cap := hL
    rw [if_pos h1, show 48 + n = 48 + n % 10 by omega, ← (nar n (by omega)).1] at hQ
    refine EvP.of rfl ?_
    refine wp_sound [84] 120 _ _ _ _ _ _ _ ?_
    refine nn_if rfl (by omega) ?_
    refine ⟨fun _ => ?_, fun h => absurd rfl h⟩
    refine ⟨fun _ => ?_, fun h => absurd (by rw [k1, i_neglt (by omega) (by omega)]; omega) h⟩
    refine ⟨n, nn n, by omega, ?_⟩
    refine g_bast (j := L) rfl hp g2 (by omega) i_dec (by omega) ?_
    refine wp_sound [] 60 _ _ _ _ _ _ _ ?_
    refine ⟨fun h => absurd h (by rw [k2, i_neglt (by omega) (by omega)]; omega), fun _ => ?_⟩
    refine ⟨fun _ => ?_, fun h => absurd rfl h⟩
    refine Q_of hQ ?_ rfl
    rw [← (i_dec (n := L))]; rfl
  by_cases h2 : n < 100
  · rw [digs, if_neg h1, if_pos h2] at hL ⊢
    have hL : L + 2 ≤ cap := hL
    rw [if_neg h1, if_pos h2, ← (nar n h2).1, ← (nar n h2).2] at hQ
    refine EvP.of rfl ?_
    refine wp_sound [84] 120 _ _ _ _ _ _ _ ?_
    refine nn_if rfl (by omega) ?_
    refine ⟨fun _ => ?_, fun h => absurd rfl h⟩
    refine ⟨fun _ => ?_, fun h => absurd (by rw [k1, i_neglt (by omega) (by omega)]; omega) h⟩
    refine ⟨n, nn n, by omega, ?_⟩
    refine g_bast (j := L + 1) rfl hp g2 (by omega) i_dec (by omega) ?_
    refine wp_sound [103] 60 _ _ _ _ _ _ _ ?_
    refine ⟨fun _ => ?_, fun h => absurd (by rw [k2, i_neglt (by omega) (by omega)]; omega) h⟩
    refine ⟨n, nn n, by omega, ?_⟩
    refine g_bast (j := L) rfl hp g2 (by omega) ((congrArg (· + (-1 : Int32)) (i_dec (n := L + 1))).trans i_dec) (by omega) ?_
    refine wp_sound [] 60 _ _ _ _ _ _ _ ?_
    refine ⟨fun _ => ?_, fun h => absurd rfl h⟩
    refine Q_of hQ ?_ ?_
    · rw [show Int32.ofNat (L + [Int32.ofNat (48 + n / 10), Int32.ofNat (48 + n % 10)].length) + -1 + -1 = Int32.ofNat L from (congrArg (· + (-1 : Int32)) (i_dec (n := L + 1))).trans i_dec]
    · simp only [upM_at, upM_upM]
  · rw [digs, if_neg h1, if_neg h2] at hL ⊢
    have hL : L + 3 ≤ cap := hL
    have d1 := (div_100 n hn).1
    have d2 := (div_100 n hn).2
    rw [if_neg h1, if_neg h2, show 48 + n / 100 = 48 + n / 100 % 10 by omega, ← (nar (n / 100) (by omega)).1, show 48 + n / 10 % 10 = 48 + n % 100 / 10 by omega, ← (nar (n % 100) (by omega)).2, show 48 + n % 10 = 48 + n % 100 % 10 by omega, ← (nar (n % 100) (by omega)).1] at hQ
    rw [← d1] at d2
    refine EvP.of rfl ?_
    refine wp_sound [55] 160 _ _ _ _ _ _ _ ?_
    refine nn_if rfl (by omega) ?_
    refine ⟨fun _ => ?_, fun h => absurd rfl h⟩
    refine ⟨fun h => absurd h (by rw [k1, i_neglt (by omega) (by omega)]; omega), fun _ => ?_⟩
    refine ⟨by decide, ?_⟩
    refine ⟨n % 100, d2, by omega, ?_⟩
    refine g_bast (j := L + 2) rfl hp g2 (by omega) i_dec (by omega) ?_
    refine wp_sound [68] 60 _ _ _ _ _ _ _ ?_
    refine ⟨n % 100, d2, by omega, ?_⟩
    refine g_bast (j := L + 1) rfl hp g2 (by omega) ((congrArg (· + (-1 : Int32)) (i_dec (n := L + 2))).trans i_dec) (by omega) ?_
    refine wp_sound [84] 60 _ _ _ _ _ _ _ ?_
    refine ⟨fun _ => ?_, fun h => absurd (by rw [d1, k1, i_neglt (by omega) (by omega)]; omega) h⟩
    refine ⟨n / 100, by rw [d1]; exact nn _, by omega, ?_⟩
    refine g_bast (j := L) rfl hp g2 (by omega) ((congrArg (· + (-1 : Int32)) ((congrArg (· + (-1 : Int32)) (i_dec (n := L + 2))).trans i_dec)).trans i_dec) (by omega) ?_
    refine wp_sound [] 60 _ _ _ _ _ _ _ ?_
    refine ⟨fun h => absurd h (by rw [d1, k2, i_neglt (by omega) (by omega)]; omega), fun _ => ?_⟩
    refine ⟨fun _ => ?_, fun h => absurd rfl h⟩
    refine Q_of hQ ?_ ?_
    · rw [show Int32.ofNat (L + [Int32.ofNat (48 + n / 100), Int32.ofNat (48 + n / 10 % 10), Int32.ofNat (48 + n % 10)].length) + -1 + -1 + -1 = Int32.ofNat L from (congrArg (· + (-1 : Int32)) ((congrArg (· + (-1 : Int32)) (i_dec (n := L + 2))).trans i_dec)).trans i_dec]
    · simp only [upM_at, upM_upM]
end STR
