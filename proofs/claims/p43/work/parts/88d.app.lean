/-! numbers and texts appended; a new StringBuilder; its text -/
section APP
variable {RO : List mE} {hs fs : Nat → Int32} {len d b o p cap n w s : Nat} {G : List sh} {M : mM} {Q : mQ} {l : List Int32} {f : Nat → Int32}
theorem app_digs (hT : SbT b G M o p cap l) (hn : n < 1000) (hl : l.length + (digs n).length ≤ cap) : SbT b G (upM (upM M p (digF (M p) l.length n)) o (upd (M o) 3 (Int32.ofNat (l.length + (digs n).length)))) o p cap (l ++ digs n) := by
  have hop := hT.1.2.2
  refine SbT.app hT (digs_sgn hn) hl (fun q h1 h2 => by rw [upM_ne h1, upM_ne h2]) (by rw [upM_at, upd_ne (by decide)]) (by rw [upM_at, upd_at]) (fun j hj => ?_) (fun j hj => ?_)
  · rw [upM_ne (by omega), upM_at, digF]
    unfold digs at hj ⊢
    by_cases h1 : n < 10
    · rw [if_pos h1] at hj ⊢
      rw [if_pos h1, show j = 0 from Nat.lt_one_iff.mp hj, Nat.add_zero, upd_at]; rfl
    · rw [if_neg h1] at hj ⊢
      rw [if_neg h1]
      by_cases h2 : n < 100
      · rw [if_pos h2] at hj ⊢
        rw [if_pos h2]
        have hj : j < 2 := hj
        rcases (show j = 0 ∨ j = 1 by omega) with rfl | rfl
        · rw [show l.length + 0 = l.length from rfl, upd_at]; rfl
        · rw [upd_ne (by omega), upd_at]; rfl
      · rw [if_neg h2] at hj ⊢
        rw [if_neg h2]
        have hj : j < 3 := hj
        rcases (show j = 0 ∨ j = 1 ∨ j = 2 by omega) with rfl | rfl | rfl
        · rw [show l.length + 0 = l.length from rfl, upd_at]; rfl
        · rw [upd_ne (by omega), upd_at]; rfl
        · rw [upd_ne (by omega), upd_ne (by omega), upd_at]; rfl
  · rw [upM_ne (by omega), upM_at, digF]
    unfold digs at hj
    by_cases h1 : n < 10
    · rw [if_pos h1] at hj
      have hj : j < l.length ∨ l.length + 1 ≤ j := hj
      rw [if_pos h1, upd_ne (by omega)]
    · rw [if_neg h1] at hj
      rw [if_neg h1]
      by_cases h2 : n < 100
      · rw [if_pos h2] at hj
        have hj : j < l.length ∨ l.length + 2 ≤ j := hj
        rw [if_pos h2, upd_ne (by omega), upd_ne (by omega)]
      · rw [if_neg h2] at hj
        have hj : j < l.length ∨ l.length + 3 ≤ j := hj
        rw [if_neg h2, upd_ne (by omega), upd_ne (by omega), upd_ne (by omega)]
theorem c_appI (hT : SbT b G M o p cap l) (hb : b ≤ G.length) (hL : G.length < 800000) (hn : n < 1000) (hl : l.length + (digs n).length ≤ 400) (hQ : aQ Q b o G M (l ++ digs n)) : EvP (RO9 hs len fs) (d + 6) 320 [.ref o, .int (Int32.ofNat n)] G M Q := by
  have hd3 := digs_len (n := n)
  have ho := hT.o_lt (by omega)
  have hcls := wcls_o (RO := RO9 hs len fs) ho hT.2.1.1
  have hg1 := hT.2.1.1
  have m3 := hT.2.2.2.2.1.2
  have ss := fun d => c_strSize (RO := RO9 hs len fs) (d := d) (G := G) (M := M) hn
  have en : ∀ (d : Nat) (Q' : mQ), (∀ G' M' p' cap' mc ms, SbT b G' M' o p' cap' l → l.length + (digs n).length ≤ cap' → FrW b G M G' M' mc → mc ≤ 1 → ms ≤ 1000 → Q' (.inl none) G' M' mc ms) → EvP (RO9 hs len fs) (d + 3) 332 [.ref o, .int (Int32.ofNat l.length + Int32.ofNat (digs n).length)] G M Q' := fun d Q' h => by
    rw [i_add]
    exact c_ens hT hb (by omega) hl (by omega) h
  refine EvP.of rfl ?_
  refine wp_sound [2] 40 _ _ _ _ _ _ _ ?_
  refine g_call rfl rfl rfl (wrecv_s hcls) rfl ?_
  refine EvP.of rfl ?_
  refine wp_sound [1] 40 _ _ _ _ _ _ _ ?_
  refine g_getI rfl ho hg1 rfl ?_
  rw [m3]
  refine wp_sound [14] 40 _ _ _ _ _ _ _ ?_
  refine (ss _).use ?_
  refine g_call rfl rfl rfl (wrecv_u hcls) rfl ?_
  refine en _ _ (fun G1 M1 p1 cap1 mc ms t1 t2 t3 t4 t5 => ?_)
  have hL1 : G1.length < 900000 := by have := t3.2.2; omega
  have hp1 := t1.p_lt hL1
  have hcl1 := wcls_o (RO := RO9 hs len fs) ho t1.2.1.1
  have hop := t1.1.2.2
  refine wp_sound [18] 40 _ _ _ _ _ _ _ ?_
  refine g_call rfl rfl rfl (wrecv_u hcl1) rfl ?_
  refine (c_isLatS t1 hL1).use ?_
  refine wp_sound [27] 40 _ _ _ _ _ _ _ ?_
  refine ⟨fun h9 => absurd h9 (by decide), fun _ => ?_⟩
  refine g_get rfl ho t1.2.1.1 rfl ?_
  have gc : ∀ d, EvR (RO9 hs len fs) (d + 1) 343 [.int (Int32.ofNat n), .int (Int32.ofNat l.length + Int32.ofNat (digs n).length), .ref p1] G1 M1 (some (.int (Int32.ofNat l.length))) (upM M1 p1 (digF (M1 p1) l.length n)) := fun d => by
    rw [i_add]
    exact c_getChars hp1 t1.2.1.2 t1.2.2.1.2 hn t2
  refine wp_sound [50] 40 _ _ _ _ _ _ _ ?_
  refine (gc _).use ?_
  refine g_putI (z := 0) (Or.inl rfl) rfl ho rfl t1.2.1.1 rfl ?_
  refine wp_sound [] 10 _ _ _ _ _ _ _ ?_
  refine wp_sound [] 10 _ _ _ _ _ _ _ ?_
  refine hQ G1 _ p1 cap1 _ _ ?_ ?_ (by omega) (by omega)
  · have h9 := app_digs t1 hn t2
    rw [← i_add, ← upM_ne (M := M1) (q := p1) (a := digF (M1 p1) l.length n) (by omega : o ≠ p1)] at h9
    exact h9
  · exact ((t3.trans (FrW.up t1.1.2.1)).trans (FrW.up t1.1.1)).le (by omega)
theorem c_infl (hT : SbT b G M o p cap l) (hL : G.length < 900000) (hS : StrA RO G M s w f) : EvR RO (d + 2) 334 [.ref o, .ref s] G M none M := by
  have ho := hT.o_lt hL
  have hc := fun d => c_coder (d := d) hS
  obtain ⟨y, h1, h2, h3, h4, h5⟩ := hS
  have m1 := hT.2.2.2.2.1.1
  refine EvR.of (fun Q hQ => ?_)
  refine EvP.of rfl ?_
  refine wp_sound [7] 40 _ _ _ _ _ _ _ ?_
  refine ⟨fun h9 => absurd h9 (by decide), fun _ => ?_⟩
  refine g_getI rfl ho hT.2.1.1 rfl ?_
  rw [m1]
  refine wp_sound [11] 40 _ _ _ _ _ _ _ ?_
  refine g_call rfl rfl rfl (wrecv_v h3) rfl ?_
  refine (hc _).use ?_
  refine wp_sound [] 40 _ _ _ _ _ _ _ ?_
  refine ⟨fun _ => ?_, fun h9 => absurd rfl h9⟩
  exact hQ
theorem c_getBytes {L : Nat} (hp : p < 1000000) (g2 : G[p]? = some (.inl (0, cap))) (hcap : cap ≤ 1000) (hS : StrA RO G M s w f) (hf : ∀ j, j < w → fits .byte (.int (f j)) = true) (hL : L + w ≤ cap) : EvR RO (d + 2) 289 [.ref s, .ref p, .int (Int32.ofNat L), .int 0] G M none (upM M p (va_cpy f (M p) 0 L w)) := by
  have hc := fun d => c_coder (d := d) hS
  obtain ⟨y, h1, h2, h3, h4, h5⟩ := hS
  have e0 : (0 : Int32).toNatClampNeg = 0 := by decide
  refine EvR.of (fun Q hQ => ?_)
  have e9 : upM M p (va_cpy f (M p) (0 : Int32).toNatClampNeg (Int32.ofNat L <<< ((0 : Int32) &&& 31)).toNatClampNeg (Int32.ofNat w).toNatClampNeg) = upM M p (va_cpy f (M p) 0 L w) := by rw [sh0, e0, clamp_nn (by omega), clamp_nn (by omega)]
  rw [← e9] at hQ
  refine EvP.of rfl ?_
  refine wp_sound [1] 40 _ _ _ _ _ _ _ ?_
  refine g_call rfl rfl rfl (wrecv_v h3) rfl ?_
  refine (hc _).use ?_
  refine wp_sound [9] 40 _ _ _ _ _ _ _ ?_
  refine ⟨fun _ => ?_, fun h9 => absurd rfl h9⟩
  refine g_getW rfl h1 ?_
  refine wp_sound [18] 40 _ _ _ _ _ _ _ ?_
  refine g_getW rfl h1 ?_
  refine g_alenW rfl h5 ?_
  refine g_copyB rfl hp rfl h4 g2 ?_ ?_ ?_
  · rw [sh0, cpb, e0, clamp_nn (by omega), clamp_nn (by omega), decide_eq_false (i_nonneg (a := L) (by omega)), decide_eq_false (i_nonneg (a := w) (by omega)), Nat.zero_add, Nat.ble_eq_true_of_le (Nat.le_refl w), Nat.ble_eq_true_of_le hL]
    decide
  · intro i hi
    rw [clamp_nn (by omega)] at hi
    rw [e0, Nat.zero_add]
    exact hf i hi
  · refine wp_sound [] 5 _ _ _ _ _ _ _ ?_
    exact hQ
theorem c_putStr (hT : SbT b G M o p cap l) (hL : G.length < 900000) (hS : StrA RO G M s w f) (hf : ∀ j, j < w → fits .byte (.int (f j)) = true) (hl : l.length + w ≤ cap) : EvR RO (d + 3) 340 [.ref o, .int (Int32.ofNat l.length), .ref s] G M none (upM M p (va_cpy f (M p) 0 l.length w)) := by
  have ho := hT.o_lt hL
  have hp := hT.p_lt hL
  have hcls := wcls_o (RO := RO) ho hT.2.1.1
  have hi := fun d => c_infl (d := d) hT hL hS
  have hg := fun d => c_getBytes (d := d) (L := l.length) hp hT.2.1.2 hT.2.2.1.2 hS hf hl
  have m1 := hT.2.2.2.2.1.1
  have h3 := hS
  obtain ⟨y, -, -, h3, -, -⟩ := h3
  refine EvR.of (fun Q hQ => ?_)
  refine EvP.of rfl ?_
  refine wp_sound [2] 40 _ _ _ _ _ _ _ ?_
  refine g_call rfl rfl rfl (wrecv_u hcls) rfl ?_
  refine (hi _).use ?_
  refine wp_sound [7] 40 _ _ _ _ _ _ _ ?_
  refine g_get rfl ho hT.2.1.1 rfl ?_
  refine wp_sound [12] 40 _ _ _ _ _ _ _ ?_
  refine g_getI rfl ho hT.2.1.1 rfl ?_
  rw [m1]
  refine g_call rfl rfl rfl (wrecv_v h3) rfl ?_
  refine (hg _).use ?_
  refine wp_sound [] 5 _ _ _ _ _ _ _ ?_
  exact hQ
/-- the signs of a text, as a list -/
def lstF (f : Nat → Int32) (w : Nat) : List Int32 := (List.range w).map f
theorem lstF_len {f : Nat → Int32} {w : Nat} : (lstF f w).length = w := by rw [lstF, List.length_map, List.length_range]
theorem lstF_at {f : Nat → Int32} {w j : Nat} (h : j < w) : (lstF f w).getD j 0 = f j := by
  rw [lstF, List.getD_eq_getElem?_getD, List.getElem?_map, List.getElem?_range h]; rfl
theorem lstF_sgn {f : Nat → Int32} {w : Nat} (h : ∀ j, j < w → sgn (f j)) : ∀ x ∈ lstF f w, sgn x := by
  intro x hx
  obtain ⟨j, hj, rfl⟩ := List.mem_map.mp hx
  exact h j (List.mem_range.mp hj)
theorem sgn_fit {x : Int32} (h : sgn x) : fits .byte (.int x) = true := by
  obtain ⟨a, h1, rfl⟩ := h
  exact (byte_small a h1).2.2.1
theorem app_str (hT : SbT b G M o p cap l) (hf : ∀ j, j < w → sgn (f j)) (hl : l.length + w ≤ cap) : SbT b G (upM (upM M p (va_cpy f (M p) 0 l.length w)) o (upd (M o) 3 (Int32.ofNat (l.length + w)))) o p cap (l ++ lstF f w) := by
  have hop := hT.1.2.2
  refine SbT.app hT (lstF_sgn hf) (by rw [lstF_len]; exact hl) (fun q h1 h2 => by rw [upM_ne h1, upM_ne h2]) (by rw [upM_at, upd_ne (by decide)]) (by rw [upM_at, upd_at, lstF_len]) (fun j hj => ?_) (fun j hj => ?_)
  · rw [lstF_len] at hj
    rw [upM_ne (by omega), upM_at, va_cpy, if_pos (by omega), lstF_at hj, show 0 + (l.length + j - l.length) = j by omega]
  · rw [lstF_len] at hj
    rw [upM_ne (by omega), upM_at, va_cpy, if_neg (by omega)]
theorem c_appS (hT : SbT b G M o p cap l) (hb : b ≤ G.length) (hL : G.length < 800000) (hS : ∀ G M, StrA RO G M s w f) (hf : ∀ j, j < w → sgn (f j)) (hw : w ≤ 16) (hl : l.length + w ≤ 400) (hQ : aQ Q b o G M (l ++ lstF f w)) : EvP RO (d + 6) 319 [.ref o, .ref s] G M Q := by
  have ho := hT.o_lt (by omega)
  have hcls := wcls_o (RO := RO) ho hT.2.1.1
  have hg1 := hT.2.1.1
  have m3 := hT.2.2.2.2.1.2
  have hln := fun d => c_strLen (d := d) (hS G M)
  have hc3 := hS G M
  obtain ⟨y, -, -, hc3, -, -⟩ := hc3
  have en : ∀ (d : Nat) (Q' : mQ), (∀ G' M' p' cap' mc ms, SbT b G' M' o p' cap' l → l.length + w ≤ cap' → FrW b G M G' M' mc → mc ≤ 1 → ms ≤ 1000 → Q' (.inl none) G' M' mc ms) → EvP RO (d + 3) 332 [.ref o, .int (Int32.ofNat l.length + Int32.ofNat w)] G M Q' := fun d Q' h => by
    rw [i_add]
    exact c_ens hT hb (by omega) hl (by omega) h
  refine EvP.of rfl ?_
  refine wp_sound [2] 40 _ _ _ _ _ _ _ ?_
  refine g_call rfl rfl rfl (wrecv_s hcls) rfl ?_
  refine EvP.of rfl ?_
  refine wp_sound [10] 40 _ _ _ _ _ _ _ ?_
  refine g_call rfl rfl rfl (wrecv_v hc3) rfl ?_
  refine (hln _).use ?_
  refine wp_sound [16] 40 _ _ _ _ _ _ _ ?_
  refine g_getI rfl ho hg1 rfl ?_
  rw [m3]
  refine wp_sound [21] 40 _ _ _ _ _ _ _ ?_
  refine g_call rfl rfl rfl (wrecv_u hcls) rfl ?_
  refine en _ _ (fun G1 M1 p1 cap1 mc ms t1 t2 t3 t4 t5 => ?_)
  have hL1 : G1.length < 900000 := by have := t3.2.2; omega
  have hp1 := t1.p_lt hL1
  have hcl1 := wcls_o (RO := RO) ho t1.2.1.1
  have n3 := t1.2.2.2.2.1.2
  have hop := t1.1.2.2
  have hpu := fun d => c_putStr (d := d) t1 hL1 (hS G1 M1) (fun j hj => sgn_fit (hf j hj)) t2
  refine wp_sound [26] 40 _ _ _ _ _ _ _ ?_
  refine g_getI rfl ho t1.2.1.1 rfl ?_
  rw [n3]
  refine wp_sound [30] 40 _ _ _ _ _ _ _ ?_
  refine g_call rfl rfl rfl (wrecv_u hcl1) rfl ?_
  refine (hpu _).use ?_
  refine wp_sound [35] 40 _ _ _ _ _ _ _ ?_
  refine g_getI rfl ho t1.2.1.1 rfl ?_
  rw [upM_ne (by omega), n3]
  refine wp_sound [40] 40 _ _ _ _ _ _ _ ?_
  refine g_putI (z := 0) (Or.inl rfl) rfl ho rfl t1.2.1.1 rfl ?_
  refine wp_sound [] 10 _ _ _ _ _ _ _ ?_
  refine wp_sound [] 10 _ _ _ _ _ _ _ ?_
  refine hQ G1 _ p1 cap1 _ _ ?_ ?_ (by omega) (by omega)
  · have h9 := app_str t1 hf t2
    rw [← i_add, ← upM_ne (M := M1) (q := p1) (a := va_cpy f (M1 p1) 0 l.length w) (by omega : o ≠ p1)] at h9
    exact h9
  · exact ((t3.trans (FrW.up t1.1.2.1)).trans (FrW.up t1.1.1)).le (by omega)
end APP
