/-! a StringBuilder made out of a text, and the text made out of it -/
section MAKE
variable {RO : List mE} {d b o p cap w s : Nat} {G : List sh} {M : mM} {Q : mQ} {l : List Int32} {f : Nat → Int32}
theorem wget_r {ci kf q y : Nat} {fs : List Value} (hq : q < 1000000) (hg : G[q]? = some (.inr (.inl (ci, fs)))) (hy : fs[kf]? = some (.ref y)) : wget RO G M ci kf q = some (.ref y) := by
  unfold wget
  rw [show Nat.blt q 1000000 = true from Nat.ble_eq_true_of_le hq, cond_true, hg]
  simp only [show Nat.beq ci ci = true from Nat.beq_refl ci, cond_true, hy]
theorem wget_i {ci kf q : Nat} {z : Int32} {fs : List Value} (hq : q < 1000000) (hg : G[q]? = some (.inr (.inl (ci, fs)))) (hy : fs[kf]? = some (.int z)) : wget RO G M ci kf q = some (.int (M q kf)) := by
  unfold wget
  rw [show Nat.blt q 1000000 = true from Nat.ble_eq_true_of_le hq, cond_true, hg]
  simp only [show Nat.beq ci ci = true from Nat.beq_refl ci, cond_true, hy]
theorem wlen_o {q t n : Nat} (hq : q < 1000000) (ht : t < 4) (hg : G[q]? = some (.inl (t, n))) : wlen RO G q = some n := by
  unfold wlen
  rw [show Nat.blt q 1000000 = true from Nat.ble_eq_true_of_le hq, cond_true, hg]
  simp only [show Nat.blt t 4 = true from Nat.ble_eq_true_of_le ht, cond_true]
def strO (y : Nat) : sh := .inr (.inl (0, [.ref y, .int 0, .int 0, .int 0]))
theorem StrA.of {q y n : Nat} (hq : q < 1000000) (hy : y < 1000000) (h1 : G[q]? = some (strO y)) (h2 : G[y]? = some (.inl (0, n))) (h3 : M q 1 = 0) : StrA RO G M q n (M y) := by
  refine ⟨y, wget_r hq h1 rfl, ?_, wcls_o hq h1, wrd_o hy (by decide) h2, wlen_o hy (by decide) h2⟩
  rw [wget_i (z := 0) hq h1 rfl, h3]
theorem lt_max {n : Nat} (h : n < 1000000) : Int32.ofNat n < 2147483631 := by
  rw [Int32.lt_iff_toInt_lt, i_toInt h, show (2147483631 : Int32).toInt = 2147483631 from by decide]
  omega
theorem c_sbNew (ho : G.length = o) (hL : o < 700000) (hb : b ≤ o) (hS : ∀ G M, StrA RO G M s w f) (hf : ∀ j, j < w → sgn (f j)) (hw : w ≤ 16) (h0 : M o = fun _ => 0) (hQ : ∀ G' M' p' cap' mc ms, SbT b G' M' o p' cap' (lstF f w) → FrW b G M G' M' 3 → mc ≤ 2 → ms ≤ 1100 → Q (.inl none) G' M' mc ms) : EvP RO (d + 10) 373 [.ref o, .ref s] (G ++ ([.inr (.inl (1, [.null, .int 0, .int 0, .int 0]))] : List sh)) M Q := by
  have hln := fun d G M => c_strLen (d := d) (hS G M)
  have hco := fun d G M => c_coder (d := d) (hS G M)
  have hc3 : ∀ G M, wcls RO G s = some 0 := fun G M => by
    obtain ⟨y, -, -, h, -, -⟩ := hS G M
    exact h
  have hg0 : (G ++ ([.inr (.inl (1, [.null, .int 0, .int 0, .int 0]))] : List sh))[o]? = some (.inr (.inl (1, [.null, .int 0, .int 0, .int 0]))) := get_last ho
  have ho9 : o < 1000000 := by omega
  have e16 : Int32.ofNat w + 16 = Int32.ofNat (w + 16) := i_add w 16
  refine EvP.of rfl ?_
  refine wp_sound [] 40 _ _ _ _ _ _ _ ?_
  refine EvP.of rfl ?_
  refine wp_sound [5] 40 _ _ _ _ _ _ _ ?_
  refine g_call rfl rfl rfl (wrecv_v (hc3 _ M)) rfl ?_
  refine (hln _ _ _).use ?_
  refine wp_sound [26] 40 _ _ _ _ _ _ _ ?_
  refine ⟨fun _ => ?_, fun h9 => absurd (lt_max (by omega)) h9⟩
  refine g_call rfl rfl rfl (wrecv_v (hc3 _ M)) rfl ?_
  refine (hco _ _ _).use ?_
  refine wp_sound [34] 40 _ _ _ _ _ _ _ ?_
  refine g_putI (z := 0) (Or.inl rfl) rfl ho9 rfl hg0 rfl ?_
  refine wp_sound [44] 40 _ _ _ _ _ _ _ ?_
  refine ⟨fun _ => ?_, fun h9 => absurd rfl h9⟩
  refine g_arr (m := w + 16) (n := o + 1) (G2 := (G ++ ([.inr (.inl (1, [.null, .int 0, .int 0, .int 0]))] : List sh)) ++ ([.inl (0, w + 16)] : List sh)) rfl (by decide) e16 (by omega) (by simp [ho]) (by omega) rfl ?_
  refine wp_sound [53] 40 _ _ _ _ _ _ _ ?_
  refine g_putR (G2 := ((G ++ ([.inr (.inl (1, [.null, .int 0, .int 0, .int 0]))] : List sh)) ++ ([.inl (0, w + 16)] : List sh)).set o (sbO (o + 1))) (Or.inl rfl) rfl ho9 rfl (get_push hg0) (Nat.le_of_ble_eq_true rfl) (fun a e => by cases e) rfl ?_
  have t1 : SbT b (((G ++ ([.inr (.inl (1, [.null, .int 0, .int 0, .int 0]))] : List sh)) ++ ([.inl (0, w + 16)] : List sh)).set o (sbO (o + 1))) (upM (upM M o (upd (M o) 1 0)) (o + 1) (fun _ => 0)) o (o + 1) (w + 16) [] := by
    refine ⟨⟨hb, by omega, by omega⟩, ⟨get_set_eq (get_push hg0), get_set_ne (by omega) (get_last (by simp [ho]))⟩, ⟨by omega, by omega⟩, Nat.zero_le _, ⟨?_, ?_⟩, fun j _ => ?_, fun j hj => absurd hj (Nat.not_lt_zero _)⟩
    · rw [upM_ne (by omega), upM_at, upd_at]
    · rw [upM_ne (by omega), upM_at, upd_ne (by decide), h0]; rfl
    · rw [upM_at]; decide +kernel
  have hl2 : (((G ++ ([.inr (.inl (1, [.null, .int 0, .int 0, .int 0]))] : List sh)) ++ ([.inl (0, w + 16)] : List sh)).set o (sbO (o + 1)) : List sh).length = o + 2 := by simp [ho]
  have hcls := wcls_o (RO := RO) ho9 t1.2.1.1
  refine wp_sound [58] 40 _ _ _ _ _ _ _ ?_
  refine g_call rfl rfl rfl (wrecv_b hcls) rfl ?_
  refine EvP.of rfl ?_
  refine wp_sound [2] 40 _ _ _ _ _ _ _ ?_
  refine g_call rfl rfl rfl (wrecv_v hcls) rfl ?_
  refine c_appS (b := b) (f := f) (w := w) t1 (by rw [hl2]; omega) (by rw [hl2]; omega) hS hf hw (by show 0 + w ≤ 400; omega) (fun G' M' p' cap' mc ms x1 x2 x3 x4 => ?_)
  refine wp_sound [] 10 _ _ _ _ _ _ _ ?_
  refine wp_sound [] 10 _ _ _ _ _ _ _ ?_
  refine hQ G' M' p' cap' _ _ x1 ⟨fun q hq => ⟨?_, ?_⟩, ?_, ?_⟩ (by omega) (by omega)
  · rw [(x2.1 q hq).1, List.getElem?_set_ne (by omega), List.getElem?_append_left (by simp [ho]; omega), List.getElem?_append_left (by omega)]
  · rw [(x2.1 q hq).2, upM_ne (by omega), upM_ne (by omega)]
  · have := x2.2.1; rw [hl2] at this; omega
  · have := x2.2.2; rw [hl2] at this; omega
/-- the first n bytes of a row, as a row of their own -/
theorem c_range {n : Nat} (hp : p < 1000000) (g2 : G[p]? = some (.inl (0, cap))) (hcap : cap ≤ 1000) (hn : n ≤ cap) (hL : G.length < 900000) (hf : ∀ j, j < cap → fits .byte (.int (M p j)) = true) (hQ : ∀ M' mc ms, (∀ q, q ≠ G.length → M' q = M q) → (∀ j, j < n → M' G.length j = M p j) → mc ≤ 1 → ms ≤ 1000 → Q (.inl (some (.ref G.length))) (G ++ [.inl (0, n)]) M' mc ms) : EvP RO (d + 3) 347 [.ref p, .int 0, .int (Int32.ofNat n)] G M Q := by
  have hpl := (List.getElem?_eq_some_iff.mp g2).1
  have e0 : (0 : Int32).toNatClampNeg = 0 := by decide
  have es : ∀ a : Nat, Int32.ofNat a - 0 = Int32.ofNat a := fun a => Int32.sub_zero _
  refine EvP.of rfl ?_
  refine wp_sound [6] 40 _ _ _ _ _ _ _ ?_
  refine ⟨fun _ => ?_, fun h9 => absurd rfl h9⟩
  refine g_alen rfl hp (by decide) g2 ?_
  refine wp_sound [18] 40 _ _ _ _ _ _ _ ?_
  refine eq_if (a := n) (b := cap) rfl rfl (by omega) (by omega) (fun h => ?_) (fun h => ?_)
  · subst h
    refine g_cln (m := G.length) rfl hp rfl g2 rfl (by omega) hf ?_
    refine wp_sound [] 10 _ _ _ _ _ _ _ ?_
    exact hQ _ _ _ (fun q hq => upM_ne hq) (fun j _ => by rw [upM_at]) (by omega) (by omega)
  · have e : (if Int32.ofNat n - 0 < Int32.ofNat cap - 0 then Int32.ofNat n - 0 else Int32.ofNat cap - 0) = Int32.ofNat n := by
      rw [es, es, if_pos ((i_lt (by omega) (by omega)).mpr (by omega))]
    refine EvP.of rfl ?_
    refine wp_sound [10] 40 _ _ _ _ _ _ _ ?_
    refine EvP.wp [] 20 rfl ?_
    refine nn_if rfl (by omega) ?_
    refine g_arr (m := n) (n := G.length) (G2 := G ++ [.inl (0, n)]) rfl (by decide) (es n) (by omega) rfl (by omega) rfl ?_
    refine wp_sound [20] 40 _ _ _ _ _ _ _ ?_
    refine g_alen rfl hp (by decide) (get_push g2) ?_
    refine wp_sound [27] 40 _ _ _ _ _ _ _ ?_
    refine g_copyB (n1 := n) rfl (by omega) rfl (wrd_o hp (by decide) (get_push g2)) (get_last rfl) ?_ ?_ ?_
    · rw [e, cpb, e0, clamp_nn (by omega), decide_eq_false (i_nonneg (a := n) (by omega)), Nat.zero_add, Nat.ble_eq_true_of_le hn, Nat.ble_eq_true_of_le (Nat.le_refl n)]
      decide
    · intro i hi
      rw [e, clamp_nn (by omega)] at hi
      rw [e0, Nat.zero_add, upM_ne (by omega)]
      exact hf i (by omega)
    · refine wp_sound [] 5 _ _ _ _ _ _ _ ?_
      refine hQ _ _ _ (fun q hq => by rw [upM_ne hq, upM_ne hq]) (fun j hj => ?_) (by omega) (by omega)
      rw [upM_at, upM_ne (show p ≠ G.length by omega), upM_at, e, e0, clamp_nn (by omega), va_cpy, if_pos (by omega), show 0 + (j - 0) = j by omega]
/-- a text in two cells behind place b -/
def StrB (b : Nat) (G : List sh) (M : mM) (q w : Nat) (f : Nat → Int32) : Prop := (b ≤ q ∧ q + 1 < 1000000) ∧ G[q]? = some (strO (q + 1)) ∧ G[q + 1]? = some (.inl (0, w)) ∧ M q 1 = 0 ∧ M (q + 1) = f
theorem StrB.A {q w : Nat} {f : Nat → Int32} (h : StrB b G M q w f) : StrA RO G M q w f := by
  obtain ⟨⟨a1, a2⟩, h1, h2, h3, h4⟩ := h
  subst h4
  exact StrA.of (by omega) a2 h1 h2 h3
theorem StrB.keep {q w : Nat} {f : Nat → Int32} {G' : List sh} {M' : mM} (h : StrB b G M q w f) (hG : ∀ q y, b ≤ q → G[q]? = some y → G'[q]? = some y) (hM : ∀ q y, b ≤ q → G[q]? = some y → M' q = M q) : StrB b G' M' q w f := by
  obtain ⟨⟨a1, a2⟩, h1, h2, h3, h4⟩ := h
  exact ⟨⟨a1, a2⟩, hG _ _ a1 h1, hG _ _ (by omega) h2, by rw [hM _ _ a1 h1]; exact h3, by rw [hM _ _ (by omega) h2]; exact h4⟩
/-- the text of a StringBuilder -/
theorem c_toStr (hT : SbT b G M o p cap l) (hb : b ≤ G.length) (hL : G.length < 800000) (hQ : ∀ G' M' f mc ms, StrB b G' M' G.length l.length f → (∀ j, j < l.length → f j = l.getD j 0) → FrW b G M G' M' 2 → mc ≤ 2 → ms ≤ 1100 → Q (.inl (some (.ref G.length))) G' M' mc ms) : EvP RO (d + 8) 326 [.ref o] G M Q := by
  have ho := hT.o_lt (by omega)
  have hp := hT.p_lt (by omega)
  have hol := (List.getElem?_eq_some_iff.mp hT.2.1.1).1
  have hpl := (List.getElem?_eq_some_iff.mp hT.2.1.2).1
  have hg : ∀ {j : Nat} {y : sh}, G[j]? = some y → (G ++ [.inr (.inl (0, [.null, .int 0, .int 0, .int 0]))])[j]? = some y := fun h => get_push h
  have hT1 : SbT b (G ++ [.inr (.inl (0, [.null, .int 0, .int 0, .int 0]))]) (upM M G.length (fun _ => 0)) o p cap l := by
    obtain ⟨a1, ⟨a2, a3⟩, a4, a5, ⟨a6, a7⟩, a8, a9⟩ := hT
    exact ⟨a1, ⟨hg a2, hg a3⟩, a4, a5, ⟨by rw [upM_ne (by omega)]; exact a6, by rw [upM_ne (by omega)]; exact a7⟩, fun j hj => by rw [upM_ne (by omega)]; exact a8 j hj, fun j hj => by rw [upM_ne (by omega)]; exact a9 j hj⟩
  have hcls := wcls_o (RO := RO) ho hT1.2.1.1
  have hn1 : (G ++ [.inr (.inl (0, [.null, .int 0, .int 0, .int 0]))])[G.length]? = some (.inr (.inl (0, [.null, .int 0, .int 0, .int 0]))) := get_last rfl
  have hl1 : (G ++ [.inr (.inl (0, [.null, .int 0, .int 0, .int 0]))] : List sh).length = G.length + 1 := by simp
  have m3 := hT1.2.2.2.2.1.2
  refine EvP.of rfl ?_
  refine g_new (n := G.length) (G2 := G ++ [.inr (.inl (0, [.null, .int 0, .int 0, .int 0]))]) rfl (by decide) rfl (by omega) rfl ?_
  refine wp_sound [] 40 _ _ _ _ _ _ _ ?_
  refine EvP.wp [] 40 rfl ?_
  refine EvP.of rfl ?_
  refine wp_sound [5] 40 _ _ _ _ _ _ _ ?_
  refine g_call rfl rfl rfl (wrecv_u hcls) rfl ?_
  refine EvP.of rfl ?_
  refine wp_sound [1] 40 _ _ _ _ _ _ _ ?_
  refine g_get rfl ho hT1.2.1.1 rfl ?_
  refine wp_sound [] 40 _ _ _ _ _ _ _ ?_
  refine wp_sound [10] 40 _ _ _ _ _ _ _ ?_
  refine g_call rfl rfl rfl (wrecv_b hcls) rfl ?_
  refine EvP.of rfl ?_
  refine wp_sound [1] 40 _ _ _ _ _ _ _ ?_
  refine g_call rfl rfl rfl (wrecv_s hcls) rfl ?_
  refine EvP.of rfl ?_
  refine wp_sound [1] 40 _ _ _ _ _ _ _ ?_
  refine g_getI rfl ho hT1.2.1.1 rfl ?_
  rw [m3]
  refine wp_sound [] 40 _ _ _ _ _ _ _ ?_
  refine wp_sound [] 40 _ _ _ _ _ _ _ ?_
  refine wp_sound [16] 40 _ _ _ _ _ _ _ ?_
  refine g_call rfl rfl rfl (wrecv_u hcls) rfl ?_
  refine (c_isLatS hT1 (by rw [hl1]; omega)).use ?_
  refine wp_sound [24] 40 _ _ _ _ _ _ _ ?_
  refine ⟨fun h9 => absurd h9 (by decide), fun _ => ?_⟩
  refine g_putI (z := 0) (Or.inr (Or.inr rfl)) rfl (by omega) rfl hn1 rfl ?_
  refine wp_sound [35] 40 _ _ _ _ _ _ _ ?_
  refine c_range (cap := cap) (n := l.length) hp hT1.2.1.2 hT1.2.2.1.2 hT1.2.2.2.1 (by rw [hl1]; omega) (fun j hj => by rw [upM_ne (by omega)]; exact hT1.2.2.2.2.2.1 j hj) (fun M' mc ms x1 x2 x3 x4 => ?_)
  rw [hl1] at x1 x2 ⊢
  refine g_putR (G2 := ((G ++ ([.inr (.inl (0, [.null, .int 0, .int 0, .int 0]))] : List sh)) ++ ([.inl (0, l.length)] : List sh)).set G.length (strO (G.length + 1))) (Or.inr (Or.inr rfl)) rfl (by omega) rfl (get_push hn1) (Nat.le_of_ble_eq_true rfl) (fun a e => by cases e) rfl ?_
  refine wp_sound [] 10 _ _ _ _ _ _ _ ?_
  refine hQ _ M' (M' (G.length + 1)) _ _ ⟨⟨hb, by omega⟩, get_set_eq (get_push hn1), get_set_ne (by omega) (get_last hl1), ?_, rfl⟩ (fun j hj => ?_) ⟨fun q hq => ⟨?_, ?_⟩, by simp, by simp⟩ (by omega) (by rw [show (mdef 0).length = 4 from by decide]; omega)
  · rw [x1 _ (by omega), upM_at, upd_at]
  · rw [x2 j hj, upM_ne (by omega)]
    exact hT1.2.2.2.2.2.2 j hj
  · rw [List.getElem?_set_ne (by omega), List.getElem?_append_left (by simp; omega), List.getElem?_append_left (by omega)]
  · rw [x1 q (by omega), upM_ne (by omega), upM_ne (by omega)]
end MAKE
