/-! the constructors of rows and trains -/
def trS (b : Nat) : List sh := [.inr (.inl (5, [.ref (b + 1), .ref (b + 3), .ref (b + 5), .ref (b + 7), .ref (b + 8), .int 0, .int 0])), .inr (.inl (4, [.int 0, .ref (b + 2), .int 0])), .inl (1, 128), .inr (.inl (4, [.int 0, .ref (b + 4), .int 0])), .inl (1, 54), .inr (.inl (4, [.int 0, .ref (b + 6), .int 0])), .inl (1, 16), .inl (1, 3), .inl (1, 7)]
section CTOR
variable {RO : List mE} {d : Nat} {G G2 P : List sh} {M : mM} {Q : mQ}
theorem c_rows0 {b n w m : Nat} (hb : P.length = b) (hbn : b + 1 < 1000000) (hn : n < 1000) (hw : w < 1000) (hm : n * w = m) (hG : P ++ [.inr (.inl (4, [.int 0, .null, .int 0]))] = G) (hG2 : P ++ [.inr (.inl (4, [.int 0, .ref (b + 1), .int 0])), .inl (1, m)] = G2) (hQ : Q (.inl none) G2 (upM (upM M b (upd (M b) 0 (Int32.ofNat w))) (b + 1) (fun _ => 0)) 1 m) : EvP RO (d + 1) 35 [.ref b, .int (Int32.ofNat n), .int (Int32.ofNat w)] G M Q := by
  subst hG
  have hm9 : m ≤ 1000000 := by
    rw [← hm]
    exact Nat.le_trans (Nat.mul_le_mul (Nat.le_of_lt hn) (Nat.le_of_lt hw)) (by decide)
  refine EvP.of rfl ?_
  refine wp_sound [6] 40 _ _ _ _ _ _ _ ?_
  refine g_putI (z := 0) (Or.inr (Or.inr rfl)) rfl (by omega) rfl (p_at (i := 0) hb) rfl ?_
  refine wp_sound [25] 40 _ _ _ _ _ _ _ ?_
  refine nn_if rfl (by omega) ?_
  refine nn_if rfl (by omega) ?_
  refine g_arr (m := m) (n := b + 1) (G2 := P ++ [.inr (.inl (4, [.int 0, .null, .int 0])), .inl (1, m)]) rfl (by decide) (by rw [i_mul, hm]) hm9 (by simp [hb]) hbn (by rw [List.append_assoc]; rfl) ?_
  refine g_putR (G2 := G2) (Or.inr (Or.inr rfl)) rfl (by omega) rfl (p_at (i := 0) hb) (Nat.le_of_ble_eq_true rfl) (fun a e => by cases e) ?_ ?_
  · rw [← hG2]
    exact p_set (i := 0) hb
  · refine wp_sound [] 1 _ _ _ _ _ _ _ ?_
    have h9 := hQ
    rw [← Nat.zero_add m] at h9
    exact h9
theorem c_tr0 {b : Nat} (hb : P.length = b) (hbn : b + 9 < 1000000) (hG : P ++ [.inr (.inl (5, [.null, .null, .null, .null, .null, .int 0, .int 0]))] = G) (hG2 : P ++ trS b = G2) (hQ : ∀ M' : mM, (∀ q, q ≤ b ∨ b + 8 < q → M' q = M q) → widOk M' b → Q (.inl none) G2 M' 8 217) : EvP RO (d + 2) 49 [.ref b] G M Q := by
  subst hG
  refine EvP.of rfl ?_
  refine wp_sound [5] 40 _ _ _ _ _ _ _ ?_
  refine g_new (n := b + 1) (G2 := P ++ [.inr (.inl (5, [.null, .null, .null, .null, .null, .int 0, .int 0])), .inr (.inl (4, [.int 0, .null, .int 0]))]) rfl (by decide) (by simp [hb]) (by omega) (by rw [List.append_assoc]; rfl) ?_
  refine wp_sound [16] 40 _ _ _ _ _ _ _ ?_
  refine c_rows0 (P := P ++ [.inr (.inl (5, [.null, .null, .null, .null, .null, .int 0, .int 0]))]) (b := b + 1) (n := 16) (w := 8) (m := 128) (G2 := P ++ [.inr (.inl (5, [.null, .null, .null, .null, .null, .int 0, .int 0])), .inr (.inl (4, [.int 0, .ref (b + 2), .int 0])), .inl (1, 128)]) (by simp [hb]) (by omega) (by decide) (by decide) rfl (by rw [List.append_assoc]; rfl) (by rw [List.append_assoc]; rfl) ?_
  refine g_putR (G2 := P ++ [.inr (.inl (5, [.ref (b + 1), .null, .null, .null, .null, .int 0, .int 0])), .inr (.inl (4, [.int 0, .ref (b + 2), .int 0])), .inl (1, 128)]) (Or.inr (Or.inr rfl)) rfl (by omega) rfl (p_at (i := 0) hb) (Nat.le_of_ble_eq_true rfl) (fun a e => by cases e) (p_set (i := 0) hb) ?_
  refine wp_sound [20] 40 _ _ _ _ _ _ _ ?_
  refine g_new (n := b + 3) (G2 := P ++ [.inr (.inl (5, [.ref (b + 1), .null, .null, .null, .null, .int 0, .int 0])), .inr (.inl (4, [.int 0, .ref (b + 2), .int 0])), .inl (1, 128), .inr (.inl (4, [.int 0, .null, .int 0]))]) rfl (by decide) (by simp [hb]) (by omega) (by rw [List.append_assoc]; rfl) ?_
  refine wp_sound [31] 40 _ _ _ _ _ _ _ ?_
  refine c_rows0 (P := P ++ [.inr (.inl (5, [.ref (b + 1), .null, .null, .null, .null, .int 0, .int 0])), .inr (.inl (4, [.int 0, .ref (b + 2), .int 0])), .inl (1, 128)]) (b := b + 3) (n := 6) (w := 9) (m := 54) (G2 := P ++ [.inr (.inl (5, [.ref (b + 1), .null, .null, .null, .null, .int 0, .int 0])), .inr (.inl (4, [.int 0, .ref (b + 2), .int 0])), .inl (1, 128), .inr (.inl (4, [.int 0, .ref (b + 4), .int 0])), .inl (1, 54)]) (by simp [hb]) (by omega) (by decide) (by decide) rfl (by rw [List.append_assoc]; rfl) (by rw [List.append_assoc]; rfl) ?_
  refine g_putR (G2 := P ++ [.inr (.inl (5, [.ref (b + 1), .ref (b + 3), .null, .null, .null, .int 0, .int 0])), .inr (.inl (4, [.int 0, .ref (b + 2), .int 0])), .inl (1, 128), .inr (.inl (4, [.int 0, .ref (b + 4), .int 0])), .inl (1, 54)]) (Or.inr (Or.inr rfl)) rfl (by omega) rfl (p_at (i := 0) hb) (Nat.le_of_ble_eq_true rfl) (fun a e => by cases e) (p_set (i := 0) hb) ?_
  refine wp_sound [35] 40 _ _ _ _ _ _ _ ?_
  refine g_new (n := b + 5) (G2 := P ++ [.inr (.inl (5, [.ref (b + 1), .ref (b + 3), .null, .null, .null, .int 0, .int 0])), .inr (.inl (4, [.int 0, .ref (b + 2), .int 0])), .inl (1, 128), .inr (.inl (4, [.int 0, .ref (b + 4), .int 0])), .inl (1, 54), .inr (.inl (4, [.int 0, .null, .int 0]))]) rfl (by decide) (by simp [hb]) (by omega) (by rw [List.append_assoc]; rfl) ?_
  refine wp_sound [45] 40 _ _ _ _ _ _ _ ?_
  refine c_rows0 (P := P ++ [.inr (.inl (5, [.ref (b + 1), .ref (b + 3), .null, .null, .null, .int 0, .int 0])), .inr (.inl (4, [.int 0, .ref (b + 2), .int 0])), .inl (1, 128), .inr (.inl (4, [.int 0, .ref (b + 4), .int 0])), .inl (1, 54)]) (b := b + 5) (n := 8) (w := 2) (m := 16) (G2 := P ++ [.inr (.inl (5, [.ref (b + 1), .ref (b + 3), .null, .null, .null, .int 0, .int 0])), .inr (.inl (4, [.int 0, .ref (b + 2), .int 0])), .inl (1, 128), .inr (.inl (4, [.int 0, .ref (b + 4), .int 0])), .inl (1, 54), .inr (.inl (4, [.int 0, .ref (b + 6), .int 0])), .inl (1, 16)]) (by simp [hb]) (by omega) (by decide) (by decide) rfl (by rw [List.append_assoc]; rfl) (by rw [List.append_assoc]; rfl) ?_
  refine g_putR (G2 := P ++ [.inr (.inl (5, [.ref (b + 1), .ref (b + 3), .ref (b + 5), .null, .null, .int 0, .int 0])), .inr (.inl (4, [.int 0, .ref (b + 2), .int 0])), .inl (1, 128), .inr (.inl (4, [.int 0, .ref (b + 4), .int 0])), .inl (1, 54), .inr (.inl (4, [.int 0, .ref (b + 6), .int 0])), .inl (1, 16)]) (Or.inr (Or.inr rfl)) rfl (by omega) rfl (p_at (i := 0) hb) (Nat.le_of_ble_eq_true rfl) (fun a e => by cases e) (p_set (i := 0) hb) ?_
  refine wp_sound [50] 40 _ _ _ _ _ _ _ ?_
  refine g_arr (m := 3) (n := b + 7) (G2 := P ++ [.inr (.inl (5, [.ref (b + 1), .ref (b + 3), .ref (b + 5), .null, .null, .int 0, .int 0])), .inr (.inl (4, [.int 0, .ref (b + 2), .int 0])), .inl (1, 128), .inr (.inl (4, [.int 0, .ref (b + 4), .int 0])), .inl (1, 54), .inr (.inl (4, [.int 0, .ref (b + 6), .int 0])), .inl (1, 16), .inl (1, 3)]) rfl (by decide) rfl (by decide) (by simp [hb]) (by omega) (by rw [List.append_assoc]; rfl) ?_
  refine g_putR (G2 := P ++ [.inr (.inl (5, [.ref (b + 1), .ref (b + 3), .ref (b + 5), .ref (b + 7), .null, .int 0, .int 0])), .inr (.inl (4, [.int 0, .ref (b + 2), .int 0])), .inl (1, 128), .inr (.inl (4, [.int 0, .ref (b + 4), .int 0])), .inl (1, 54), .inr (.inl (4, [.int 0, .ref (b + 6), .int 0])), .inl (1, 16), .inl (1, 3)]) (Or.inr (Or.inr rfl)) rfl (by omega) rfl (p_at (i := 0) hb) (Nat.le_of_ble_eq_true rfl) (fun a e => by cases e) (p_set (i := 0) hb) ?_
  refine wp_sound [58] 40 _ _ _ _ _ _ _ ?_
  refine g_arr (m := 7) (n := b + 8) (G2 := P ++ [.inr (.inl (5, [.ref (b + 1), .ref (b + 3), .ref (b + 5), .ref (b + 7), .null, .int 0, .int 0])), .inr (.inl (4, [.int 0, .ref (b + 2), .int 0])), .inl (1, 128), .inr (.inl (4, [.int 0, .ref (b + 4), .int 0])), .inl (1, 54), .inr (.inl (4, [.int 0, .ref (b + 6), .int 0])), .inl (1, 16), .inl (1, 3), .inl (1, 7)]) rfl (by decide) rfl (by decide) (by simp [hb]) (by omega) (by rw [List.append_assoc]; rfl) ?_
  refine g_putR (G2 := G2) (Or.inr (Or.inr rfl)) rfl (by omega) rfl (p_at (i := 0) hb) (Nat.le_of_ble_eq_true rfl) (fun a e => by cases e) ((p_set (i := 0) hb).trans hG2) ?_
  refine wp_sound [] 1 _ _ _ _ _ _ _ ?_
  refine hQ _ (fun q hq => ?_) ⟨?_, ?_, ?_⟩
  · rw [upM_ne (by omega), upM_ne (by omega), upM_ne (by omega), upM_ne (by omega), upM_ne (by omega), upM_ne (by omega), upM_ne (by omega), upM_ne (by omega), upM_ne (by omega), upM_ne (by omega), upM_ne (by omega)]
  · rw [upM_ne (by omega), upM_ne (by omega), upM_ne (by omega), upM_ne (by omega), upM_ne (by omega), upM_ne (by omega), upM_ne (by omega), upM_ne (by omega), upM_ne (by omega), upM_at, upd_at]; rfl
  · rw [upM_ne (by omega), upM_ne (by omega), upM_ne (by omega), upM_ne (by omega), upM_ne (by omega), upM_ne (by omega), upM_at, upd_at]; rfl
  · rw [upM_ne (by omega), upM_ne (by omega), upM_ne (by omega), upM_at, upd_at]; rfl
end CTOR
/-! the ring of what was -/
def hf (h : Nat) : Nat → Nat → Option Nat
  | 0 => fun _ => none
  | i + 1 => va_up (hf h i) i (some (h + 2 + 9 * i))
def trs (h : Nat) : Nat → List sh
  | 0 => []
  | i + 1 => trs h i ++ trS (h + 2 + 9 * i)
theorem trs_len {h : Nat} : ∀ i, (trs h i).length = 9 * i := by
  intro i
  induction i with
  | zero => rfl
  | succ i ih => rw [trs, List.length_append, ih]; show 9 * i + 9 = _; omega
def hisS (h : Nat) (f : Nat → Option Nat) : List sh := [.inr (.inl (2, [.ref (h + 1), .int 0, .int 0])), .inr (.inr (.inl (3, 10, .inr (.inr (.inr (.inr f))))))]
section HIS
variable {RO : List mE} {d : Nat} {G G2 P : List sh} {M : mM} {Q : mQ}
theorem c_his0 {h : Nat} (hb : P.length = h) (hbn : h + 100 < 1000000) (hG : P ++ [.inr (.inl (2, [.null, .int 0, .int 0]))] = G) (hG2 : P ++ (hisS h (hf h 10) ++ trs h 10) = G2) (hQ : ∀ M' : mM, (∀ q, q ≤ h → M' q = M q) → (∀ i, i < 10 → widOk M' (h + 2 + 9 * i)) → Q (.inl none) G2 M' 91 2250) : EvP RO (d + 3) 2 [.ref h] G M Q := by
  subst hG
  refine EvP.of rfl ?_
  refine wp_sound [7] 40 _ _ _ _ _ _ _ ?_
  refine g_anew (m := 10) (n := h + 1) (G2 := P ++ [.inr (.inl (2, [.null, .int 0, .int 0])), .inr (.inr (.inl (3, 10, .inr (.inr (.inr (.inr (fun _ => none)))))))]) rfl rfl (by decide) (by simp [hb]) (by omega) (by rw [List.append_assoc]; rfl) ?_
  refine g_putR (G2 := P ++ (hisS h (hf h 0) ++ trs h 0)) (Or.inr (Or.inr rfl)) rfl (by omega) rfl (p_at (i := 0) hb) (Nat.le_of_ble_eq_true rfl) (fun a e => by cases e) (p_set (i := 0) hb) ?_
  refine wp_sound [15] 40 _ _ _ _ _ _ _ ?_
  have key : ∀ n i, i + n = 10 → ∀ M1 : mM, (∀ q, q ≤ h → M1 q = M q) → (∀ j, j < i → widOk M1 (h + 2 + 9 * j)) → GoP RO (d + 2) 2 [.ref h, .int (Int32.ofNat i)] [] (P ++ (hisS h (hf h i) ++ trs h i)) M1 15 (1 + 9 * i) (10 + 224 * i) Q := by
    intro n
    induction n with
    | zero =>
      intro i hi M1 h1 h2
      have hi : i = 10 := by omega
      subst hi
      refine wp_sound [] 40 _ _ _ _ _ _ _ ?_
      refine lt_if (b := 10) rfl rfl (by omega) (by omega) (fun h => absurd h (by omega)) (fun _ => ?_)
      rw [hG2]
      exact hQ M1 h1 h2
    | succ n ih =>
      intro i hi M1 h1 h2
      refine wp_sound [22] 40 _ _ _ _ _ _ _ ?_
      refine lt_if (b := 10) rfl rfl (by omega) (by omega) (fun _ => ?_) (fun h => absurd h (by omega))
      refine g_get rfl (by omega) (p_at (i := 0) hb) rfl ?_
      refine wp_sound [26] 40 _ _ _ _ _ _ _ ?_
      have hl : (P ++ (hisS h (hf h i) ++ trs h i)).length = h + 2 + 9 * i := by
        rw [List.length_append, List.length_append, trs_len, hb]
        show h + (2 + 9 * i) = _
        omega
      refine g_new (n := h + 2 + 9 * i) (G2 := (P ++ (hisS h (hf h i) ++ trs h i)) ++ [.inr (.inl (5, [.null, .null, .null, .null, .null, .int 0, .int 0]))]) rfl (by decide) hl (by omega) rfl ?_
      refine wp_sound [33] 40 _ _ _ _ _ _ _ ?_
      refine c_tr0 (P := P ++ (hisS h (hf h i) ++ trs h i)) hl (by omega) rfl rfl (fun M2 f2 w2 => ?_)
      have e1 : (P ++ (hisS h (hf h i) ++ trs h i)) ++ trS (h + 2 + 9 * i) = P ++ (hisS h (hf h i) ++ trs h (i + 1)) := by
        rw [List.append_assoc, List.append_assoc]; rfl
      refine g_aast (j := i) (n := 10) (f := hf h i) (G2 := P ++ (hisS h (hf h (i + 1)) ++ trs h (i + 1))) rfl (by omega) (by omega) rfl (by omega) (by decide) ?_ (p_at (i := 0) hl) ?_ ?_
      · rw [e1]
        exact p_at (i := 1) hb
      · rw [e1]
        exact p_set (i := 1) hb
      · refine wp_sound [15] 40 _ _ _ _ _ _ _ ?_
        have h9 := ih (i + 1) (by omega) M2 (fun q hq => by rw [f2 q (by omega), upM_ne (by omega)]; exact h1 q hq) (fun j hj => by
          by_cases hji : j = i
          · subst hji; exact w2
          · obtain ⟨a1, a2, a3⟩ := h2 j (by omega)
            refine ⟨?_, ?_, ?_⟩
            · rw [f2 _ (by omega), upM_ne (by omega)]; exact a1
            · rw [f2 _ (by omega), upM_ne (by omega)]; exact a2
            · rw [f2 _ (by omega), upM_ne (by omega)]; exact a3)
        rw [← i_inc] at h9
        rw [show 1 + 9 * (i + 1) = 1 + 9 * i + 1 + 8 by omega, show 10 + 224 * (i + 1) = 10 + 224 * i + 7 + 217 by omega] at h9
        exact h9
  refine key 10 0 rfl _ (fun q hq => ?_) (fun j hj => absurd hj (by omega))
  rw [upM_ne (by omega)]
end HIS
