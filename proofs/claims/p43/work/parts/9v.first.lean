/-! the first text -/
def t0L : List Nat := [116, 114, 97, 105, 110, 32, 50, 48, 32, 49, 48, 32, 51, 59, 32, 109, 117, 108, 101, 32, 106, 101, 110, 32, 49, 48, 48, 59, 32, 109, 117, 108, 101, 32, 109, 111, 108, 108, 32, 54, 48, 59, 32, 115, 97, 99, 107, 32, 103, 114, 97, 105, 110, 32, 51, 48, 32, 52, 48, 59, 32, 115, 97, 99, 107, 32, 99, 108, 111, 116, 104, 32, 50, 48, 32, 54, 48, 59, 32, 115, 97, 99, 107, 32, 105, 114, 111, 110, 32, 53, 48, 32, 51, 48, 59, 32, 115, 97, 99, 107, 32, 103, 108, 97, 115, 115, 32, 49, 48, 32, 57, 48, 59, 32, 115, 97, 99, 107, 32, 103, 114, 97, 105, 110, 32, 50, 53, 32, 50, 48, 59, 32, 114, 111, 97, 100, 32, 52, 48, 59, 32, 102, 111, 114, 100, 32, 53, 59, 32, 99, 97, 109, 112, 32, 56, 59, 32, 112, 97, 99, 107, 32, 48, 32, 106, 101, 110, 32, 108, 101, 102, 116, 59, 32, 112, 97, 99, 107, 32, 51, 32, 106, 101, 110, 32, 114, 105, 103, 104, 116, 59, 32, 112, 97, 99, 107, 32, 49, 32, 109, 111, 108, 108, 32, 108, 101, 102, 116]
def t0B (j : Nat) : Nat := t0L.getD j 0
theorem t0_len : t0L.length = 208 := by decide +kernel
theorem t0_tab : ∀ j, j < 208 → ((strF t0L j &&& 255).toUInt32 % 65536).toInt32 = Int32.ofNat (t0B j) ∧ narrow .char (.int (((strF t0L j &&& 255).toUInt32 % 65536).toInt32)) = .int (((strF t0L j &&& 255).toUInt32 % 65536).toInt32) ∧ t0B j < 128 := by decide +kernel
theorem byB_t0 : ∀ a, a < 128 → byB (Int32.ofNat a) &&& 255 = Int32.ofNat a := by decide +kernel
section FIRST
variable {hs f : Nat → Int32} {d len n : Nat} {M : mM} {Q : mQ} {G GG : List sh}
theorem c_tCoder : EvR (RO9 hs len f) (d + 1) 288 [.ref 1000000] G M (some (.int 0)) M := by
  refine EvP.wp [] 60 rfl ?_
  refine ⟨fun h9 => absurd h9 (by decide), fun _ => ?_⟩
  exact ⟨by decide +kernel, rfl, rfl, rfl, rfl, rfl⟩
theorem c_tLen : EvR (RO9 hs len f) (d + 2) 293 [.ref 1000000] G M (some (.int (Int32.ofNat 208))) M := by
  have hc := fun d => c_tCoder (hs := hs) (f := f) (len := len) (d := d) (G := G) (M := M)
  refine EvP.wp [] 60 rfl ?_
  refine (hc _).use ?_
  refine ⟨?_, rfl, rfl, rfl, rfl⟩
  rw [sr0]
theorem c_tLat : EvR (RO9 hs len f) (d + 1) 292 [.ref 1000000] G M (some (.int 1)) M := by
  refine EvP.wp [] 60 rfl ?_
  refine ⟨fun h9 => absurd h9 (by decide), fun _ => ?_⟩
  refine ⟨fun _ => ?_, fun h9 => absurd rfl h9⟩
  exact ⟨by decide +kernel, rfl, rfl, rfl, rfl, rfl⟩
theorem c_tAt {j : Nat} (hj : j < 208) : EvR (RO9 hs len f) (d + 3) 284 [.ref 1000000, .int (Int32.ofNat j)] G M (some (.int (Int32.ofNat (t0B j)))) M := by
  have hl := fun d => c_tLat (hs := hs) (f := f) (len := len) (d := d) (G := G) (M := M)
  obtain ⟨hv, hn, -⟩ := t0_tab j hj
  have hck : ∀ d, EvR (RO9 hs len f) (d + 1) 287 [.int (Int32.ofNat j), .int (Int32.ofNat 208)] G M none M := fun d => c_check (i_nonneg (by omega)) ((i_lt (by omega) (by omega)).mpr hj)
  rw [← hv]
  clear hv
  refine EvP.wp [] 60 rfl ?_
  refine (hl _).use ?_
  refine ⟨fun h9 => absurd h9 (by decide), fun _ => ?_⟩
  refine EvP.wp [] 60 rfl ?_
  refine (hck _).use ?_
  refine ⟨j, rfl, hj, ?_⟩
  refine ⟨hn, ?_⟩
  exact ⟨hn, rfl, rfl, rfl, rfl, rfl⟩
/-- the text is written into the parser's row -/
theorem c_writeText (hG : pw GG) (h0 : M 1 2 = 0) (hQ : ∀ M' : mM, (∀ q, q ≠ 1 → q ≠ 2 → M' q = M q) → (∀ j, j ≠ 2 → M' 1 j = M 1 j) → (∀ j, j < 208 → M' 2 j &&& 255 = Int32.ofNat (t0B j) ∧ t0B j < 256) → Q (.inl none) GG M' 0 0) : EvP (RO9 hs len f) (d + 4) 30 [.ref 1, .ref 1000000] GG M Q := by
  obtain ⟨c9, r9, rfl⟩ := hG
  have hG : pw (gX c9 r9) := pw_X
  refine EvP.wp [2] 60 rfl ?_
  have key : ∀ n i, i + n = 208 → ∀ M1 : mM, M1 1 2 = Int32.ofNat i → (∀ q, q ≠ 1 → q ≠ 2 → M1 q = M q) → (∀ j, j ≠ 2 → M1 1 j = M 1 j) → (∀ j, j < i → M1 2 j &&& 255 = Int32.ofNat (t0B j) ∧ t0B j < 256) → GoP (RO9 hs len f) (d + 3) 30 [.ref 1, .ref 1000000, .int (Int32.ofNat i)] [] (gX c9 r9) M1 2 0 0 Q := by
    intro n
    induction n with
    | zero =>
      intro i hi M1 h1 h2 h3 h4
      have hi : i = 208 := by omega
      subst hi
      refine wp_sound [2] 60 _ _ _ _ _ _ _ ?_
      refine c_tLen.use ?_
      refine lt_if (b := 208) rfl rfl (by omega) (by omega) (fun h => absurd h (by omega)) (fun _ => ?_)
      exact hQ M1 h2 h3 h4
    | succ n ih =>
      intro i hi M1 h1 h2 h3 h4
      refine wp_sound [2] 60 _ _ _ _ _ _ _ ?_
      refine c_tLen.use ?_
      refine lt_if (b := 208) rfl rfl (by omega) (by omega) (fun _ => ?_) (fun h => absurd h (by omega))
      refine (c_tAt (by omega)).use ?_
      refine (c_writeByte (n := i) hG (by omega) h1).use ?_
      have h9 := ih (i + 1) (by omega) (wF1 M1 i (Int32.ofNat (t0B i))) wF1_f (fun q a b => by rw [wF1, upM_ne a, upM_ne b]; exact h2 q a b) (fun j hj => by rw [wF1, upM_at, upd_ne hj]; exact h3 j hj) (fun j hj => by
        rw [wF1, upM_ne (by decide), upM_at]
        obtain ⟨-, -, hb⟩ := t0_tab i (by omega)
        by_cases hji : j = i
        · subst hji
          rw [upd_at]
          exact ⟨byB_t0 _ hb, by omega⟩
        · rw [upd_ne hji]
          exact h4 j (by omega))
      rw [← i_inc] at h9
      exact h9
  exact key 208 0 rfl M h0 (fun _ _ _ => rfl) (fun _ _ => rfl) (fun j hj => absurd hj (by omega))
end FIRST
