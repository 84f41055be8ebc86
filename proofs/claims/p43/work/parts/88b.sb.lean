/-! a StringBuilder anywhere in the world: what it holds, how it grows -/
def sbO (p : Nat) : sh := .inr (.inl (1, [.ref p, .int 0, .int 0, .int 0]))
/-- from place b on the world may grow and change; n cells are new at most -/
def FrW (b : Nat) (G : List sh) (M : mM) (G' : List sh) (M' : mM) (n : Nat) : Prop := (∀ q, q < b → G'[q]? = G[q]? ∧ M' q = M q) ∧ G.length ≤ G'.length ∧ G'.length ≤ G.length + n
theorem FrW.refl {b : Nat} {G : List sh} {M : mM} : FrW b G M G M 0 := ⟨fun _ _ => ⟨rfl, rfl⟩, Nat.le_refl _, Nat.le_refl _⟩
theorem FrW.trans {b n n' : Nat} {G G' G'' : List sh} {M M' M'' : mM} (h : FrW b G M G' M' n) (h' : FrW b G' M' G'' M'' n') : FrW b G M G'' M'' (n + n') := ⟨fun q hq => ⟨(h'.1 q hq).1.trans (h.1 q hq).1, (h'.1 q hq).2.trans (h.1 q hq).2⟩, Nat.le_trans h.2.1 h'.2.1, by have := h.2.2; have := h'.2.2; omega⟩
theorem FrW.up {b q : Nat} {G : List sh} {M : mM} {f : Nat → Int32} (h : b ≤ q) : FrW b G M G (upM M q f) 0 := ⟨fun j hj => ⟨rfl, upM_ne (by omega)⟩, Nat.le_refl _, Nat.le_refl _⟩
theorem FrW.le {b n n' : Nat} {G G' : List sh} {M M' : mM} (h : FrW b G M G' M' n) (hn : n ≤ n') : FrW b G M G' M' n' := ⟨h.1, h.2.1, Nat.le_trans h.2.2 (by omega)⟩
theorem FrW.push {b : Nat} {G : List sh} {M : mM} {y : sh} {f : Nat → Int32} (h : b ≤ G.length) : FrW b G M (G ++ [y]) (upM M G.length f) 1 := ⟨fun q hq => ⟨by rw [List.getElem?_append_left (by omega)], upM_ne (by omega)⟩, by simp, by simp⟩
theorem FrW.set {b o : Nat} {G : List sh} {M : mM} {y : sh} (h : b ≤ o) : FrW b G M (G.set o y) M 0 := ⟨fun q hq => ⟨by rw [List.getElem?_set_ne (by omega)], rfl⟩, by simp, by simp⟩
def SbT (b : Nat) (G : List sh) (M : mM) (o p cap : Nat) (l : List Int32) : Prop := (b ≤ o ∧ b ≤ p ∧ o ≠ p) ∧ (G[o]? = some (sbO p) ∧ G[p]? = some (.inl (0, cap))) ∧ (16 ≤ cap ∧ cap ≤ 1000) ∧ l.length ≤ cap ∧ (M o 1 = 0 ∧ M o 3 = Int32.ofNat l.length) ∧ (∀ j, j < cap → fits .byte (.int (M p j)) = true) ∧ ∀ j, j < l.length → M p j = l.getD j 0
theorem big_ne {n : Nat} (h : n < 1000000) : ¬ Int32.ofNat n = 2147483647 := by
  intro e
  have := congrArg Int32.toInt e
  rw [i_toInt h, show (2147483647 : Int32).toInt = 2147483647 from by decide] at this
  omega
section SB
variable {RO : List mE} {d b o p cap n : Nat} {G : List sh} {M : mM} {Q : mQ} {l : List Int32}
theorem SbT.o_lt (hT : SbT b G M o p cap l) (hL : G.length < 900000) : o < 1000000 := by
  have := (List.getElem?_eq_some_iff.mp hT.2.1.1).1
  omega
theorem SbT.p_lt (hT : SbT b G M o p cap l) (hL : G.length < 900000) : p < 1000000 := by
  have := (List.getElem?_eq_some_iff.mp hT.2.1.2).1
  omega
theorem c_copyOf (hp : p < 1000000) (g2 : G[p]? = some (.inl (0, cap))) (hc : cap < n) (hn : n ≤ 5000) (hL : G.length < 900000) (hf : ∀ j, j < cap → fits .byte (.int (M p j)) = true) (hQ : ∀ M' mc ms, (∀ q, q ≠ G.length → M' q = M q) → (∀ j, M' G.length j = if j < cap then M p j else 0) → mc = 1 → ms ≤ n → Q (.inl (some (.ref G.length))) (G ++ [.inl (0, n)]) M' mc ms) : EvP RO (d + 1) 348 [.ref p, .int (Int32.ofNat n)] G M Q := by
  have hpl := (List.getElem?_eq_some_iff.mp g2).1
  have e : (if Int32.ofNat n < Int32.ofNat cap then Int32.ofNat n else Int32.ofNat cap) = Int32.ofNat cap := if_neg (by rw [i_lt (by omega) (by omega)]; omega)
  have e0 : (0 : Int32).toNatClampNeg = 0 := by decide
  refine EvP.of rfl ?_
  refine wp_sound [2] 40 _ _ _ _ _ _ _ ?_
  refine g_alen rfl hp (by decide) g2 ?_
  refine wp_sound [15] 40 _ _ _ _ _ _ _ ?_
  refine eq_if (a := n) (b := cap) rfl rfl (by omega) (by omega) (fun h => absurd h (by omega)) (fun _ => ?_)
  refine g_arr (m := n) (n := G.length) (G2 := G ++ [.inl (0, n)]) rfl (by decide) rfl (by omega) rfl (by omega) rfl ?_
  refine wp_sound [23] 40 _ _ _ _ _ _ _ ?_
  refine g_alen rfl hp (by decide) (get_push g2) ?_
  refine wp_sound [28] 40 _ _ _ _ _ _ _ ?_
  refine g_copyB (n1 := n) rfl (by omega) rfl (wrd_o hp (by decide) (get_push g2)) (get_last rfl) ?_ ?_ ?_
  · rw [e, cpb, e0, clamp_nn (by omega), decide_eq_false (i_nonneg (a := cap) (by omega)), Nat.zero_add, Nat.ble_eq_true_of_le (Nat.le_refl cap), Nat.ble_eq_true_of_le (Nat.le_of_lt hc)]
    decide
  · intro i hi
    rw [e, clamp_nn (by omega)] at hi
    rw [e0, Nat.zero_add, upM_ne (by omega)]
    exact hf i hi
  · refine wp_sound [] 5 _ _ _ _ _ _ _ ?_
    refine hQ _ _ _ (fun q hq => by rw [upM_ne hq, upM_ne hq]) (fun j => ?_) (by omega) (by omega)
    rw [upM_at, upM_ne (show p ≠ G.length by omega), upM_at, e, e0, clamp_nn (by omega), va_cpy]
    by_cases h : j < cap
    · rw [if_pos (by omega), if_pos h, show 0 + (j - 0) = j by omega]
    · rw [if_neg (by omega), if_neg h]
theorem c_newCap {q : Nat} (hT : SbT b G M o p cap l) (hL : G.length < 900000) (hq : cap < q) (hq8 : q ≤ cap + 16) : EvR RO (d + 2) 339 [.ref o, .int (Int32.ofNat q)] G M (some (.int (Int32.ofNat (cap + (cap + 2))))) M := by
  have ho := hT.o_lt hL
  have hp := hT.p_lt hL
  obtain ⟨⟨b1, b2, b3⟩, ⟨g1, g2⟩, ⟨k1, k2⟩, hl, ⟨m1, m3⟩, hf, hv⟩ := hT
  have e1 : Int32.ofNat q <<< ((0 : Int32) &&& 31) - Int32.ofNat cap = Int32.ofNat (q - cap) := by rw [sh0, i_sub (by omega)]
  have e2 : Int32.ofNat cap + (2 : Int32) <<< ((0 : Int32) &&& 31) = Int32.ofNat (cap + 2) := by rw [sh0]; exact i_add cap 2
  have hc : ∀ d, EvR RO (d + 1) 352 [.int (Int32.ofNat cap), .int (Int32.ofNat q <<< ((0 : Int32) &&& 31) - Int32.ofNat cap), .int (Int32.ofNat cap + (2 : Int32) <<< ((0 : Int32) &&& 31))] G M (some (.int (Int32.ofNat (cap + (cap + 2))))) M := fun d => by
    rw [e1, e2]
    exact c_newLen (by omega) (by omega) (by omega)
  refine EvR.of (fun Q hQ => ?_)
  rw [← sr0 (x := Int32.ofNat (cap + (cap + 2)))] at hQ
  refine EvP.of rfl ?_
  refine wp_sound [1] 40 _ _ _ _ _ _ _ ?_
  refine g_get rfl ho g1 rfl ?_
  refine g_alen rfl hp (by decide) g2 ?_
  refine wp_sound [8] 40 _ _ _ _ _ _ _ ?_
  refine g_getI rfl ho g1 rfl ?_
  rw [m1]
  refine wp_sound [24] 40 _ _ _ _ _ _ _ ?_
  refine g_getI rfl ho g1 rfl ?_
  rw [m1]
  refine wp_sound [54] 40 _ _ _ _ _ _ _ ?_
  refine (hc _).use ?_
  refine ⟨fun h9 => absurd h9 (big_ne (by omega)), fun _ => ?_⟩
  refine g_getI rfl ho g1 rfl ?_
  rw [m1]
  refine wp_sound [] 40 _ _ _ _ _ _ _ ?_
  exact hQ
/-- room for q letters -/
theorem c_ens {q : Nat} (hT : SbT b G M o p cap l) (hb : b ≤ G.length) (hL : G.length < 900000) (hq : q ≤ 400) (hq8 : q ≤ l.length + 16) (hQ : ∀ G' M' p' cap' mc ms, SbT b G' M' o p' cap' l → q ≤ cap' → FrW b G M G' M' mc → mc ≤ 1 → ms ≤ 1000 → Q (.inl none) G' M' mc ms) : EvP RO (d + 3) 332 [.ref o, .int (Int32.ofNat q)] G M Q := by
  have ho := hT.o_lt hL
  have hp := hT.p_lt hL
  have hnc := fun d hq => c_newCap (RO := RO) (d := d) (q := q) hT hL hq (by have := hT.2.2.2.1; omega)
  obtain ⟨⟨b1, b2, b3⟩, ⟨g1, g2⟩, ⟨k1, k2⟩, hl, ⟨m1, m3⟩, hf, hv⟩ := id hT
  have hcls := wcls_o (RO := RO) ho g1
  have hol := (List.getElem?_eq_some_iff.mp g1).1
  have hpl := (List.getElem?_eq_some_iff.mp g2).1
  refine EvP.of rfl ?_
  refine wp_sound [1] 40 _ _ _ _ _ _ _ ?_
  refine g_get rfl ho g1 rfl ?_
  refine g_alen rfl hp (by decide) g2 ?_
  refine wp_sound [6] 40 _ _ _ _ _ _ _ ?_
  refine g_getI rfl ho g1 rfl ?_
  rw [m1]
  refine wp_sound [19] 40 _ _ _ _ _ _ _ ?_
  refine ⟨fun h => ?_, fun h => ?_⟩
  · have hlt : cap < q := by
      rw [sr0] at h
      exact (i_subpos (by omega) (by omega)).mp h
    have hco : ∀ (d : Nat) (Q' : mQ), (∀ M' mc ms, (∀ q, q ≠ G.length → M' q = M q) → (∀ j, M' G.length j = if j < cap then M p j else 0) → mc = 1 → ms ≤ cap + (cap + 2) → Q' (.inl (some (.ref G.length))) (G ++ [.inl (0, cap + (cap + 2))]) M' mc ms) → EvP RO (d + 1) 348 [.ref p, .int (Int32.ofNat (cap + (cap + 2)) <<< ((0 : Int32) &&& 31))] G M Q' := fun d Q' h9 => by
      rw [sh0]
      exact c_copyOf hp g2 (by omega) (by omega) hL hf h9
    refine g_get rfl ho g1 rfl ?_
    refine wp_sound [24] 40 _ _ _ _ _ _ _ ?_
    refine g_call rfl rfl rfl (wrecv_u hcls) rfl ?_
    refine (hnc _ hlt).use ?_
    refine wp_sound [28] 40 _ _ _ _ _ _ _ ?_
    refine g_getI rfl ho g1 rfl ?_
    rw [m1]
    refine wp_sound [35] 40 _ _ _ _ _ _ _ ?_
    refine hco _ _ (fun M' mc ms h1 h2 h3 h4 => ?_)
    refine g_putR (G2 := (G ++ ([.inl (0, cap + (cap + 2))] : List sh)).set o (sbO G.length)) (Or.inl rfl) rfl ho rfl (get_push g1) (Nat.le_of_ble_eq_true rfl) (fun a e => by cases e) rfl ?_
    refine wp_sound [] 5 _ _ _ _ _ _ _ ?_
    refine hQ _ M' G.length (cap + (cap + 2)) _ _ ⟨⟨b1, hb, by omega⟩, ⟨get_set_eq (get_push g1), get_set_ne (by omega) (get_last rfl)⟩, ⟨by omega, by omega⟩, by omega, ⟨by rw [h1 o (by omega)]; exact m1, by rw [h1 o (by omega)]; exact m3⟩, fun j _ => ?_, fun j hj => ?_⟩ (by omega) ⟨fun q hq => ⟨?_, h1 q (by omega)⟩, by simp, by simp; omega⟩ (by omega) (by omega)
    · rw [h2]
      by_cases hj : j < cap
      · rw [if_pos hj]; exact hf j hj
      · rw [if_neg hj]; decide +kernel
    · rw [h2, if_pos (by omega)]; exact hv j hj
    · rw [List.getElem?_set_ne (by omega), List.getElem?_append_left (by omega)]
  · have hle : q ≤ cap := by
      rw [sr0, i_subpos (by omega) (by omega)] at h
      omega
    exact hQ G M p cap _ _ hT hle (FrW.refl.le (Nat.zero_le _)) (by omega) (by omega)
theorem c_isLatS (hT : SbT b G M o p cap l) (hL : G.length < 900000) : EvR RO (d + 1) 337 [.ref o] G M (some (.int 1)) M := by
  have ho := hT.o_lt hL
  obtain ⟨-, ⟨g1, g2⟩, -, -, ⟨m1, m3⟩, -, -⟩ := hT
  refine EvR.of (fun Q hQ => ?_)
  refine EvP.of rfl ?_
  refine wp_sound [7] 40 _ _ _ _ _ _ _ ?_
  refine ⟨fun h9 => absurd h9 (by decide), fun _ => ?_⟩
  refine g_getI rfl ho g1 rfl ?_
  rw [m1]
  refine wp_sound [] 40 _ _ _ _ _ _ _ ?_
  refine ⟨fun _ => ?_, fun h9 => absurd rfl h9⟩
  exact ⟨by decide +kernel, hQ⟩
/-- letters more at the end -/
theorem SbT.app {M' : mM} {ds : List Int32} (hT : SbT b G M o p cap l) (hd : ∀ x ∈ ds, sgn x) (hl : l.length + ds.length ≤ cap) (hfr : ∀ q, q ≠ o → q ≠ p → M' q = M q) (h1 : M' o 1 = M o 1) (h3 : M' o 3 = Int32.ofNat (l.length + ds.length)) (hin : ∀ j, j < ds.length → M' p (l.length + j) = ds.getD j 0) (hout : ∀ j, (j < l.length ∨ l.length + ds.length ≤ j) → M' p j = M p j) : SbT b G M' o p cap (l ++ ds) := by
  obtain ⟨a1, a2, a3, a4, ⟨m1, m3⟩, hf, hv⟩ := hT
  refine ⟨a1, a2, a3, by rw [List.length_append]; exact hl, ⟨h1.trans m1, by rw [List.length_append]; exact h3⟩, fun j hj => ?_, fun j hj => ?_⟩
  · by_cases c1 : j < l.length ∨ l.length + ds.length ≤ j
    · rw [hout j c1]; exact hf j hj
    · have hj2 : j - l.length < ds.length := by omega
      have := hin (j - l.length) hj2
      rw [show l.length + (j - l.length) = j by omega] at this
      rw [this]
      have hm : ds.getD (j - l.length) 0 ∈ ds := by
        rw [List.getD_eq_getElem?_getD, List.getElem?_eq_getElem hj2]
        exact List.getElem_mem hj2
      obtain ⟨a, h4, h5⟩ := hd _ hm
      rw [h5]
      exact (byte_small a h4).2.2.1
  · rw [List.length_append] at hj
    by_cases c1 : j < l.length
    · rw [hout j (Or.inl c1), hv j c1, List.getD_eq_getElem?_getD, List.getD_eq_getElem?_getD, List.getElem?_append_left c1]
    · have := hin (j - l.length) (by omega)
      rw [show l.length + (j - l.length) = j by omega] at this
      rw [this, List.getD_eq_getElem?_getD, List.getD_eq_getElem?_getD, List.getElem?_append_right (by omega)]
def aQ (Q : mQ) (b o : Nat) (G : List sh) (M : mM) (l : List Int32) : Prop := ∀ G' M' p' cap' mc ms, SbT b G' M' o p' cap' l → FrW b G M G' M' mc → mc ≤ 1 → ms ≤ 1000 → Q (.inl (some (.ref o))) G' M' mc ms
/-- one sign more -/
theorem c_appC {x : Int32} (hT : SbT b G M o p cap l) (hb : b ≤ G.length) (hL : G.length < 800000) (hx : sgn x) (hl : l.length + 1 ≤ 400) (hQ : aQ Q b o G M (l ++ [x])) : EvP RO (d + 6) 321 [.ref o, .int x] G M Q := by
  obtain ⟨a, ha, rfl⟩ := id hx
  have ho := hT.o_lt (by omega)
  have hcls := wcls_o (RO := RO) ho hT.2.1.1
  have hg1 := hT.2.1.1
  have m3 := hT.2.2.2.2.1.2
  refine EvP.of rfl ?_
  refine wp_sound [2] 40 _ _ _ _ _ _ _ ?_
  refine g_call rfl rfl rfl (wrecv_s hcls) rfl ?_
  refine EvP.of rfl ?_
  refine wp_sound [2] 40 _ _ _ _ _ _ _ ?_
  refine g_getI rfl ho hg1 rfl ?_
  rw [m3]
  refine wp_sound [7] 40 _ _ _ _ _ _ _ ?_
  refine g_call rfl rfl rfl (wrecv_u hcls) rfl ?_
  have en : ∀ (d : Nat) (Q' : mQ), (∀ G' M' p' cap' mc ms, SbT b G' M' o p' cap' l → l.length + 1 ≤ cap' → FrW b G M G' M' mc → mc ≤ 1 → ms ≤ 1000 → Q' (.inl none) G' M' mc ms) → EvP RO (d + 3) 332 [.ref o, .int (Int32.ofNat l.length + 1)] G M Q' := fun d Q' h => by
    rw [i_inc]
    exact c_ens hT hb (by omega) hl (by omega) h
  refine en _ _ (fun G1 M1 p1 cap1 mc ms t1 t2 t3 t4 t5 => ?_)
  have hL1 : G1.length < 900000 := by have := t3.2.2; omega
  have hp1 := t1.p_lt hL1
  have hcl1 := wcls_o (RO := RO) ho t1.2.1.1
  have n3 := t1.2.2.2.2.1.2
  have hop := t1.1.2.2
  refine wp_sound [11] 40 _ _ _ _ _ _ _ ?_
  refine g_call rfl rfl rfl (wrecv_u hcl1) rfl ?_
  refine (c_isLatS t1 hL1).use ?_
  refine wp_sound [25] 40 _ _ _ _ _ _ _ ?_
  refine ⟨fun h9 => absurd h9 (by decide), fun _ => ?_⟩
  refine (c_canEnc ha).use ?_
  refine ⟨fun h9 => absurd h9 (by decide), fun _ => ?_⟩
  refine g_get rfl ho t1.2.1.1 rfl ?_
  refine wp_sound [30] 40 _ _ _ _ _ _ _ ?_
  refine g_getI rfl ho t1.2.1.1 rfl ?_
  rw [n3]
  refine wp_sound [36] 40 _ _ _ _ _ _ _ ?_
  refine g_putI (z := 0) (Or.inl rfl) rfl ho rfl t1.2.1.1 rfl ?_
  refine wp_sound [41] 40 _ _ _ _ _ _ _ ?_
  refine g_bast (j := l.length) rfl hp1 t1.2.1.2 (by have := t1.2.2.1.2; omega) rfl (by omega) ?_
  refine wp_sound [] 10 _ _ _ _ _ _ _ ?_
  refine wp_sound [] 10 _ _ _ _ _ _ _ ?_
  refine hQ G1 _ p1 cap1 _ _ (SbT.app t1 (fun y hy => by rw [List.mem_singleton.mp hy]; exact hx) t2 (fun q h1 h2 => by rw [upM_ne h2, upM_ne h1]) ?_ ?_ (fun j hj => ?_) (fun j hj => ?_)) ?_ (by omega) (by omega)
  · rw [upM_ne (by omega), upM_at, upd_ne (by decide)]
  · rw [upM_ne (by omega), upM_at, upd_at, i_inc]; rfl
  · have : j = 0 := by simpa using hj
    subst this
    rw [upM_at, Nat.add_zero, upd_at, (byte_small a ha).2.2.2.1]; rfl
  · have hj : j < l.length ∨ l.length + 1 ≤ j := hj
    rw [upM_at, upd_ne (by omega), upM_ne (by omega)]
  · exact ((t3.trans (FrW.up t1.1.1)).trans (FrW.up t1.1.2.1)).le (by omega)
end SB
