/-! the way that the class writes; the law's questions of the output -/
theorem ext_len {g : Nat} (h : g ≤ 3) : (extOf g).length = g := by
  rcases g_cases h with rfl | rfl | rfl | rfl <;> rfl
theorem cap_le {g : Nat} (h : g ≤ 3) : capOf g ≤ 142 := by
  rcases g_cases h with rfl | rfl | rfl | rfl <;> decide
theorem OutT.put {g : Nat} {M : mM} {l : List Int32} {F : Nat → Int32} (h : OutT g M l) : OutT g (upM M 157 F) l := by
  have hs := sbOf_lt (g := g)
  have hs2 : sbOf g ≠ 157 := by omega
  obtain ⟨a1, a2, a3, a4, a5, a6⟩ := h
  refine ⟨a1, a2, by rw [upM_ne (by decide)]; exact a3, by rw [upM_ne (by decide)]; exact a4, fun j hj => ?_, fun j hj => ?_⟩
  · rw [upM_ne hs2]; exact a5 j hj
  · rw [upM_ne hs2]; exact a6 j hj
theorem sgn_app {l l' : List Int32} (h : ∀ x ∈ l, sgn x) (h' : ∀ x ∈ l', sgn x) : ∀ x ∈ l ++ l', sgn x := fun x hx => (List.mem_append.mp hx).elim (h x) (h' x)
theorem sgn_cons {a : Int32} {l : List Int32} (ha : sgn a) (h : ∀ x ∈ l, sgn x) : ∀ x ∈ a :: l, sgn x := fun x hx => (List.mem_cons.mp hx).elim (fun e => e ▸ ha) (h x)
theorem sgn_nil : ∀ x ∈ ([] : List Int32), sgn x := fun _ h => absurd h List.not_mem_nil
theorem sideL_sgn {N : Nat → Int32} {m sd : Int32} : ∀ k, k ≤ 16 → ∀ x ∈ sideL N m sd k, sgn x := by
  intro k
  induction k with
  | zero => intro _; exact sgn_nil
  | succ k ih =>
    intro hk
    have h1 := ih (by omega)
    have h2 := digs_sgn (n := k) (by omega)
    cases hb : isOnB N m k && decide (N (63 + 8 * k + 5) = sd) with
    | false => rw [sideL_off hb]; exact h1
    | true =>
      cases he : (sideL N m sd k).isEmpty with
      | true => rw [sideL_new hb he]; exact h2
      | false => rw [sideL_more hb he]; exact sgn_app h1 (sgn_cons ⟨44, by decide, rfl⟩ h2)
theorem nameL_sgn {N : Nat → Int32} {i n : Nat} (h : ∀ j, j < n → ∃ a, 97 ≤ a ∧ a ≤ 122 ∧ N (15 + 8 * i + 2 + j) = Int32.ofNat a) : ∀ k, k ≤ n → ∀ x ∈ nameL N i k, sgn x := by
  intro k
  induction k with
  | zero => intro _; exact sgn_nil
  | succ k ih =>
    intro hk
    obtain ⟨a, a1, a2, a3⟩ := h k (by omega)
    rw [nameL]
    exact sgn_app (ih (by omega)) (sgn_cons ⟨a, by omega, a3⟩ sgn_nil)
theorem muleL_sgn {N : Nat → Int32} {i S w : Nat} (h : lettersOk N i) (hS : S ≤ 16) (hw : w < 1000) : ∀ x ∈ muleL N i S w, sgn x := by
  rw [muleL]
  exact sgn_app (nameL_sgn (letters_l h) _ (Nat.le_refl _)) (sgn_cons ⟨58, by decide, rfl⟩ (sgn_app (sideL_sgn S hS) (sgn_cons ⟨124, by decide, rfl⟩ (sgn_app (sideL_sgn S hS) (sgn_cons ⟨61, by decide, rfl⟩ (digs_sgn hw))))))
theorem muleL_len {N : Nat → Int32} {i S w : Nat} (hS : S ≤ 16) : (muleL N i S w).length ≤ 120 := by
  have h0 := lettN_le (N := N) (i := i)
  have h1 := nameL_len (N := N) (i := i) (lettN N i)
  have h2 := fun sd => sideL_len (N := N) (m := Int32.ofNat i) (sd := sd) S hS
  have h3 := h2 0
  have h4 := h2 1
  have h5 := digs_len (n := w)
  rw [muleL, List.length_append, List.length_cons, List.length_append, List.length_cons, List.length_append, List.length_cons]
  omega
theorem wayL_sgn {N : Nat → Int32} {t : Nat} (h : ∀ i, i < t → stageOk N i) : ∀ k, k ≤ t → ∀ x ∈ wayL N k, sgn x := by
  intro k
  induction k with
  | zero => intro _; exact sgn_nil
  | succ k ih =>
    intro hk
    obtain ⟨kd, n, h1, h2, h3, h4, h5, h6⟩ := h k (by omega)
    rw [wayL_s h1 h2 h3 (by omega)]
    refine sgn_app (ih (by omega)) (sgn_app ?_ (sgn_app (wordL_sgn kd h3) (digs_sgn (by omega))))
    by_cases e : 0 < k
    · rw [if_pos e]; exact sgn_cons ⟨32, by decide, rfl⟩ sgn_nil
    · rw [if_neg e]; exact sgn_nil
theorem wrL_156 : ∀ {l : List Int32} {M : mM} {p : Nat}, (∀ x ∈ l, sgn x) → ∀ j, wrL M p l 156 j = if p ≤ j ∧ j < p + l.length then l.getD (j - p) 0 else M 156 j := by
  intro l
  induction l with
  | nil =>
    intro M p _ j
    rw [if_neg (by simp only [List.length_nil]; omega)]; rfl
  | cons x l ih =>
    intro M p h j
    have hx := sgn_byB (h x List.mem_cons_self)
    rw [wrL, ih (fun y hy => h y (List.mem_cons_of_mem _ hy)), List.length_cons]
    by_cases h1 : p + 1 ≤ j ∧ j < p + 1 + l.length
    · rw [if_pos h1, if_pos (by omega), show j - p = (j - (p + 1)) + 1 by omega]; rfl
    · rw [if_neg h1, wr1, upM_ne (by decide), upM_at]
      by_cases h2 : j = p
      · subst h2
        rw [upd_at, if_pos (by omega), Nat.sub_self, hx]; rfl
      · rw [upd_ne h2, if_neg (by omega)]
theorem wrL_145 {j : Nat} (hj : j ≠ 15) : ∀ {l : List Int32} {M : mM} {p : Nat}, wrL M p l 145 j = M 145 j := by
  intro l
  induction l with
  | nil => intro M p; rfl
  | cons x l ih => intro M p; rw [wrL, ih, wr1, upM_at, upd_ne hj]
/-- what was written before -/
theorem Inv.outT {sb : Nat} {ext : List sh} {M : mM} (h : Inv sb ext M) : ∃ g l, sb = sbOf g ∧ ext = extOf g ∧ OutT g M l ∧ l.length ≤ 120 ∧ M 145 15 = Int32.ofNat l.length ∧ ∀ j, j < l.length → l.getD j 0 = M 156 j ∧ ∃ a, a < 128 ∧ M 156 j = Int32.ofNat a := by
  obtain ⟨-, -, -, -, -, -, ⟨p, a1, a2, a3, ⟨a4, a4'⟩, a5, a6, a7, a8, a9, a10, a11⟩, -⟩ := h
  have hl : ((List.range p).map (fun j => M sb j)).length = p := by rw [List.length_map, List.length_range]
  have hg : ∀ j, j < p → ((List.range p).map (fun j => M sb j)).getD j 0 = M sb j := fun j hj => by
    rw [List.getD_eq_getElem?_getD, List.getElem?_map, List.getElem?_range hj]; rfl
  refine ⟨ext.length, (List.range p).map (fun j => M sb j), a4, a4', ⟨a3, by rw [hl]; exact a2, a8, by rw [hl]; exact a9, fun j hj => by rw [← a4]; exact a11 j hj, fun j hj => ?_⟩, by rw [hl]; exact a1, by rw [hl]; exact a7, fun j hj => ?_⟩
  · rw [hl] at hj
    rw [hg j hj, ← a4]
  · rw [hl] at hj
    rw [hg j hj]
    exact a10 j hj
theorem inv_out {sb : Nat} {ext : List sh} {g : Nat} {M M1 : mM} {l : List Int32} (hI : Inv sb ext M) (hO : OutT g M1 l) (hF : ∀ q, q ≠ 142 → q ≠ 143 → q ≠ 157 → q < 159 → M1 q = M q) (hs : ∀ x ∈ l, sgn x) (hl : l.length ≤ 120) : Inv (sbOf g) (extOf g) (thr (wrL (outM M1) 0 l) 0) := by
  obtain ⟨a, ⟨b1, b2⟩, ⟨nx, c, hc⟩, ⟨z, hz⟩, ⟨n, hn⟩, he, -, hk⟩ := hI
  have hsb := sbOf_lt (g := g)
  have hsb2 : sbOf g < 162 := by
    rcases g_cases hO.1 with h | h | h | h <;> rw [h] <;> decide
  have hel := ext_len hO.1
  have e0 : ∀ q, q ≠ 145 → q ≠ 156 → thr (wrL (outM M1) 0 l) 0 q = M1 q := fun q h1 h2 => by
    rw [thr_eq, upM_ne h1, wrL_q h1 h2, outM, upM_ne h1]
  have e : ∀ q, q ≠ 142 → q ≠ 143 → q ≠ 145 → q ≠ 156 → q ≠ 157 → q < 159 → thr (wrL (outM M1) 0 l) 0 q = M q := fun q h1 h2 h3 h4 h5 h6 => (e0 q h3 h4).trans (hF q h1 h2 h5 h6)
  have e145 : ∀ j, j ≠ 3 → j ≠ 15 → thr (wrL (outM M1) 0 l) 0 145 j = M 145 j := fun j h3 h15 => by
    rw [thr_eq, upM_at, upd_ne h3, wrL_145 h15, outM, upM_at, upd_ne h15, hF 145 (by decide) (by decide) (by decide) (by decide)]
  have e15 : thr (wrL (outM M1) 0 l) 0 145 15 = Int32.ofNat l.length := by
    have h9 := wrL_15 (l := l) (M := outM M1) (p := 0) rfl
    rw [thr_eq, upM_at, upd_ne (by decide), h9, Nat.zero_add]
  have e156 : ∀ j, j < l.length → thr (wrL (outM M1) 0 l) 0 156 j = l.getD j 0 := fun j hj => by
    rw [thr_eq, upM_ne (by decide), wrL_156 hs, if_pos (by omega), Nat.sub_zero]
  obtain ⟨o1, o2, o3, o4, o5, o6⟩ := hO
  have o3' : thr (wrL (outM M1) 0 l) 0 142 1 = 0 := by rw [e0 142 (by decide) (by decide)]; exact o3
  have o4' : thr (wrL (outM M1) 0 l) 0 142 3 = Int32.ofNat l.length := by rw [e0 142 (by decide) (by decide)]; exact o4
  have osb : thr (wrL (outM M1) 0 l) 0 (sbOf g) = M1 (sbOf g) := e0 _ (by omega) (by omega)
  generalize thr (wrL (outM M1) 0 l) 0 = M2 at *
  refine ⟨now_fr a (fun q x y => e q (by omega) (by omega) (by omega) (by omega) (by omega) (by omega)) (e 149 (by decide) (by decide) (by decide) (by decide) (by decide) (by decide)), ⟨wid_fr b1 (fun q x y => e q (by omega) (by omega) (by omega) (by omega) (by omega) (by omega)), wid_fr b2 (fun q x y => e q (by omega) (by omega) (by omega) (by omega) (by omega) (by omega))⟩, ⟨nx, c, his_fr hc (fun q x y => e q (by omega) (by omega) (by omega) (by omega) (by omega) (by omega)) (e145 7 (by omega) (by omega)) (e 151 (by decide) (by decide) (by decide) (by decide) (by decide) (by decide))⟩, ⟨z, sav_fr hz (fun q x y => e q (by omega) (by omega) (by omega) (by omega) (by omega) (by omega)) (e145 9 (by omega) (by omega)) (e 152 (by decide) (by decide) (by decide) (by decide) (by decide) (by decide)) (e 141 (by decide) (by decide) (by decide) (by decide) (by decide) (by decide))⟩, ⟨n, inp_fr hn (by rw [e 1 (by decide) (by decide) (by decide) (by decide) (by decide) (by decide)]) (e 2 (by decide) (by decide) (by decide) (by decide) (by decide) (by decide)) (e145 13 (by omega) (by omega)) (e 155 (by decide) (by decide) (by decide) (by decide) (by decide) (by decide))⟩, err_fr he (e 1 (by decide) (by decide) (by decide) (by decide) (by decide) (by decide)) (e145 16 (by omega) (by omega)) (e145 17 (by omega) (by omega)), ⟨l.length, ?_⟩, key_fr hk (e 146 (by decide) (by decide) (by decide) (by decide) (by decide) (by decide)) (e 147 (by decide) (by decide) (by decide) (by decide) (by decide) (by decide)) (e 148 (by decide) (by decide) (by decide) (by decide) (by decide) (by decide))⟩
  unfold I_out
  rw [hel]
  refine ⟨hl, o2, o1, ⟨rfl, rfl⟩, hsb, hsb2, e15, o3', o4', fun j hj => ⟨?_, ?_⟩, fun j hj => by rw [osb]; exact o5 j hj⟩
  · rw [osb, e156 j hj]; exact o6 j hj
  · rw [e156 j hj, List.getD_eq_getElem?_getD, List.getElem?_eq_getElem hj]
    exact hs _ (List.getElem_mem hj)
theorem key_tab : ∀ kd, kd < 3 → wordL kd = [keyF (5 * (3 + kd)), keyF (5 * (3 + kd) + 1), keyF (5 * (3 + kd) + 2), keyF (5 * (3 + kd) + 3)] ∧ keyF (5 * (3 + kd) + 4) = 0 ∧ (∀ x, x < 4 → ¬ keyF (5 * (3 + kd) + x) = 0) := by decide +kernel
theorem keys_ok {M : mM} (h : I_key M) : keysOk (M 148) := by
  intro kd hk
  have hv : ∀ x, x < 5 → M 148 (5 * (3 + kd) + x) = keyF (5 * (3 + kd) + x) := fun x hx => h.1 _ (by omega)
  have hv0 : M 148 (5 * (3 + kd)) = keyF (5 * (3 + kd)) := h.1 _ (by omega)
  obtain ⟨k1, k2, k3⟩ := key_tab kd hk
  refine ⟨by rw [hv0, hv 1 (by omega), hv 2 (by omega), hv 3 (by omega)]; exact k1, by rw [hv 4 (by omega)]; exact k2, fun x hx => by rw [hv x (by omega)]; exact k3 x hx⟩
section WAY
variable {hs f : Nat → Int32} {d len : Nat} {M : mM} {Q : mQ} {g m S t : Nat} {N : Nat → Int32} {l : List Int32} {G : List sh}
theorem c_stageWord {k : Nat} (hk : k < 3) : EvR (RO9 hs len f) (d + 1) 120 [.int (Int32.ofNat k)] G M (some (.ref (1000044 + 2 * k))) M := by
  rcases (show k = 0 ∨ k = 1 ∨ k = 2 by omega) with rfl | rfl | rfl
  · refine EvP.wp [] 60 rfl ?_
    refine ⟨fun _ => ?_, fun h => absurd rfl h⟩
    exact ⟨rfl, rfl, rfl, rfl, rfl⟩
  · refine EvP.wp [] 60 rfl ?_
    refine ⟨fun h => absurd h (by decide), fun _ => ?_⟩
    refine ⟨fun _ => ?_, fun h => absurd rfl h⟩
    exact ⟨rfl, rfl, rfl, rfl, rfl⟩
  · refine EvP.wp [] 60 rfl ?_
    refine ⟨fun h => absurd h (by decide), fun _ => ?_⟩
    refine ⟨fun h => absurd h (by decide), fun _ => ?_⟩
    exact ⟨rfl, rfl, rfl, rfl, rfl⟩
theorem c_writeWay (hT : TrN M 12 N m S t) (hst : ∀ i, i < t → stageOk N i) (hD : OutT g M l) (hQ : ∀ g' M' mc ms, OutT g' M' (wayL N t) → FrO M M' → mc + g = g' → ms + 150 * g ≤ 150 * g' → Q (.inl (some (.int (Int32.ofNat (wayL N t).length)))) (Wg g') M' mc ms) : EvP (RO9 hs len f) (d + 8) 132 [.ref 0] (Wg g) M Q := by
  have ht : t ≤ 8 := hT.1.2.2.2.2.2
  have loop := up_ind (S := t) (H := fun k => ∀ g' M' c s, OutT g' M' (wayL N k) → FrO M M' → c + g = g' → s + 150 * g ≤ 150 * g' → GoP (RO9 hs len f) (d + 7) 132 [.ref 0, .int (Int32.ofNat k)] [] (Wg g') M' 10 c s Q) (fun g' M' c s x1 x2 x3 x4 => ?_) (fun k hk ih g' M' c s x1 x2 x3 x4 => ?_) 0 (by omega)
  · refine EvP.wp [10] 60 rfl ?_
    refine c_setLen hD (fun M1 y1 y2 => ?_)
    exact GoP.eq2 (loop g M1 0 0 y1 y2 (by omega) (by omega)) rfl rfl
  · have hu := (x2.T hT).2.2.2.2.1.2
    refine wp_sound [10] 60 _ _ _ _ _ _ _ ?_
    refine lt_if rfl hu (by omega) (by omega) (fun h => absurd h (by omega)) (fun _ => ?_)
    refine c_len.use ?_
    have h9 := hQ g' M' c s x1 x2 x3 x4
    rw [← x1.2.2.2.1] at h9
    exact h9
  · have hu := (x2.T hT).2.2.2.2.1.2
    obtain ⟨kd, n, h1, h2, h3, h4, h5, h6⟩ := hst k hk
    have hlen := wayL_len hst k (by omega)
    have hdl := digs_len2 (n := n) (by omega)
    have hway := wayL_s (k := k) h1 h2 h3 (by omega)
    have rest : ∀ g2 M2 c2 s2 l2, OutT g2 M2 l2 → FrO M M2 → c2 + g = g2 → s2 + 150 * g ≤ 150 * g2 → l2.length ≤ 60 → l2 ++ (wordL kd ++ digs n) = wayL N (k + 1) → GoP (RO9 hs len f) (d + 7) 132 [.ref 0, .int (Int32.ofNat k)] [] (Wg g2) M2 38 c2 s2 Q := by
      intro g2 M2 c2 s2 l2 z1 z2 z3 z4 z5 z6
      have at0 := fun d => c_atT (RO := RO9 hs len f) (d := d) (GG := Wg g2) (c := 0) bas_12 (z2.T hT) hk (by omega)
      simp only [Nat.add_zero, h1] at at0
      refine wp_sound [10, 38] 60 _ _ _ _ _ _ _ ?_
      refine (at0 _).use ?_
      refine (c_stageWord h3).use ?_
      refine c_appS (k := kd) z1 h3 (by omega) (fun g3 M3 mc3 ms3 a1 a2 a3 a4 => ?_)
      have at1 := fun d => c_atT (RO := RO9 hs len f) (d := d) (GG := Wg g3) (c := 1) bas_12 ((z2.trans a2).T hT) hk (by omega)
      simp only [h2] at at1
      refine (at1 _).use ?_
      refine c_appI (n := n) a1 (by omega) (by rw [List.length_append, wordL_len]; omega) (fun g4 M4 mc4 ms4 b1 b2 b3 b4 => ?_)
      have h9 := ih g4 M4 (c2 + mc3 + mc4) (s2 + ms3 + ms4) (by rw [← z6, ← List.append_assoc]; exact b1) ((z2.trans a2).trans b2) (by omega) (by omega)
      exact GoP.eq2 h9 (by rw [i_inc]) rfl
    have hz : (0 : Int32) < Int32.ofNat k ↔ 0 < k := by
      rw [show (0 : Int32) = Int32.ofNat 0 from rfl]
      exact i_lt (by omega) (by omega)
    refine wp_sound [10, 38] 60 _ _ _ _ _ _ _ ?_
    refine lt_if rfl hu (by omega) (by omega) (fun _ => ?_) (fun h => absurd h (by omega))
    refine ⟨fun h => ?_, fun h => ?_⟩
    · rw [if_pos (hz.mp h)] at hway
      refine c_appC (x := 32) x1 ⟨32, by decide, rfl⟩ (by omega) (fun g2 M2 mc ms y1 y2 y3 y4 => ?_)
      exact rest g2 M2 (c + mc) (s + ms) _ y1 (x2.trans y2) (by omega) (by omega) (by rw [List.length_append, List.length_singleton]; omega) (by rw [hway, List.append_assoc])
    · rw [if_neg (fun h9 => h (hz.mpr h9)), List.nil_append] at hway
      exact rest g' M' c s _ x1 x2 x3 x4 (by omega) hway.symm
theorem w_outputByte {v : Int32} (hD : OutT g M l) (hx : ∀ j, j < l.length → ∃ a, a < 128 ∧ l.getD j 0 = Int32.ofNat a) (h0 : inB v 0 (Int32.ofNat l.length - 1) = false → Q (.inl (some (.int 1))) (Wg g) M 1 6) (h1 : ∀ i, i < l.length → v = Int32.ofNat i → Q (.inl (some (.int 0))) (Wg g) (upM M 157 (upd (M 157) 0 (l.getD i 0).toInt64.toInt32)) 0 0) : EvP (RO9 hs len f) (d + 6) 266 [.ref 0, .int v, .ref 157] (Wg g) M Q := by
  have hcap : l.length ≤ 142 := Nat.le_trans hD.2.1 (cap_le hD.1)
  refine EvP.wp [] 60 rfl ?_
  refine EvP.wp [] 60 rfl ?_
  refine ⟨fun x0 => ?_, fun x0 => ?_⟩
  · exact h0 (inB_out (n := l.length) (by omega) rfl (Or.inl x0))
  refine c_len.use ?_
  refine ⟨fun x1 => ?_, fun x1 => ?_⟩
  rotate_left
  · rw [hD.2.2.2.1] at x1
    exact h0 (inB_out (n := l.length) (by omega) rfl (Or.inr x1))
  rw [hD.2.2.2.1] at x1
  obtain ⟨i, hi, rfl⟩ := nat_lt (by omega) x0 x1
  obtain ⟨a, a1, a2⟩ := hx i hi
  have h9 := h1 i hi rfl
  rw [a2] at h9
  refine (c_charAt hD hi a1 ((hD.2.2.2.2.2 i hi).trans a2)).use ?_
  refine ⟨0, rfl, by omega, l_ok, ?_⟩
  exact h9
end WAY
section LAW
variable {hs : Nat → Int32} {d len sb i c s : Nat} {f : Nat → Int32} {ext : List sh} {M : mM} {Q : mQ} {v6 v7 v8 v9 : Value}
theorem law_writeMule (hI : Inv sb ext M) (hi : i + 6 ≤ len) (hlen : len ≤ 3072) (hK : Lcont (RO9 hs len f) (d + 30) Q ext i c s) : GoP (RO9 hs len f) (d + 30) 358 (lawL i v6 v7 v8 v9) [] (gW sb ext) M 2283 c s Q := by
  obtain ⟨m, S, t, nx, cc, hT, hR, hw, hH⟩ := hI.parts
  obtain ⟨g, l0, rfl, rfl, hD, -, -, -⟩ := hI.outT
  have hm := hT.1.2.2.2.1
  have hS := hT.1.2.2.2.2.1
  have eg := ext_len hD.1
  refine wp_sound [2289, 2302, 2408] 90 _ _ _ _ _ _ _ ?_
  refine go_ald (j := i + 1) rfl (i_add i 1) (by omega) (by omega) ?_
  refine wp_sound [2289, 2302, 2408] 90 _ _ _ _ _ _ _ ?_
  refine w_writeMule hT hR hD (fun h9 => ?_) (fun k w hk hv hw1 hw2 g' M' mc ms o1 o2 o3 o4 => ?_)
  · refine go_ald (j := i + 1) rfl (i_add i 1) (by omega) (by omega) ?_
    refine wp_sound [2289, 2302, 2408] 90 _ _ _ _ _ _ _ ?_
    refine e_writeMule hS hm hT.1.2.1 hT.1.1 (fun _ => ?_) (fun k hk hv => absurd h9 (by rw [inB_in (n := m) (by omega) hT.1.1 hk hv]; decide))
    refine e_thrown.use ?_
    refine ⟨fun _ => ?_, fun h => absurd thr_3 h⟩
    refine ⟨fun h0 => absurd h0 (by decide), fun _ => ?_⟩
    exact hK _ _ _ _ _ _ _ _ _ (hI.fr (FrL.of FrQ.refl FrM.refl.thr)) (by omega) (by omega)
  · have eg' := ext_len o1.1
    have e149 : (upM M' 157 (upd (M' 157) 0 (Int32.ofNat (muleL (M 149) k S w).length).toInt64.toInt32)) 149 = M 149 := by
      rw [upM_ne (by decide)]; exact o2 149 (by decide) (by decide) (by decide)
    have o157 : (upM M' 157 (upd (M' 157) 0 (Int32.ofNat (muleL (M 149) k S w).length).toInt64.toInt32)) 157 0 = Int32.ofNat (muleL (M 149) k S w).length := by
      rw [upM_at, upd_at, l_i]
    have hfin := inv_out hI (o1.put (F := upd (M' 157) 0 (Int32.ofNat (muleL (M 149) k S w).length).toInt64.toInt32)) (fun q x y z u => by rw [upM_ne z]; exact o2 q x y u) (muleL_sgn (hR.2.2.2.2 k hk) hS hw1) (muleL_len hS)
    generalize hM1 : upM M' 157 (upd (M' 157) 0 (Int32.ofNat (muleL (M 149) k S w).length).toInt64.toInt32) = M1 at *
    refine go_ald (j := i + 1) rfl (i_add i 1) (by omega) (by omega) ?_
    refine wp_sound [2289, 2302, 2408] 90 _ _ _ _ _ _ _ ?_
    refine e_writeMule (M := M1) (m := m) (S := S) hS hm (by rw [e149]; exact hT.1.2.1) (by rw [e149]; exact hT.1.1) (fun h8 => absurd h8 (by rw [e149, inB_in (n := m) (by omega) hT.1.1 hk hv]; decide)) (fun k2 hk2 hv2 => ?_)
    have hkk : k2 = k := i_inj (by omega) (by omega) (hv2.symm.trans hv)
    subst hkk
    refine ⟨w, hw1, by rw [e149]; exact hw2, ?_⟩
    rw [e149]
    have o2' : thr (wrL (outM M1) 0 (muleL (M 149) k2 S w)) 0 157 0 = Int32.ofNat (muleL (M 149) k2 S w).length := by
      rw [thr_eq, upM_ne (by decide), wrL_q (by decide) (by decide), outM, upM_ne (by decide)]; exact o157
    have o3' : thr (wrL (outM M1) 0 (muleL (M 149) k2 S w)) 0 145 3 = 0 := thr_3
    refine e_thrown.use ?_
    refine ⟨fun _ => ?_, fun h => absurd o3' h⟩
    refine ⟨fun _ => ?_, fun h => absurd rfl h⟩
    refine ⟨0, rfl, by omega, ?_⟩
    refine ⟨fun _ => ?_, fun h => absurd ?_ h⟩
    · exact hK _ _ _ _ _ _ _ _ _ hfin (by omega) (by omega)
    · rw [o2']; exact lcmp_self
theorem law_writeWay (hI : Inv sb ext M) (hi : i + 6 ≤ len) (hlen : len ≤ 3072) (hK : Lcont (RO9 hs len f) (d + 30) Q ext i c s) : GoP (RO9 hs len f) (d + 30) 358 (lawL i v6 v7 v8 v9) [] (gW sb ext) M 2339 c s Q := by
  obtain ⟨m, S, t, nx, cc, hT, hR, hw, hH⟩ := hI.parts
  obtain ⟨g, l0, rfl, rfl, hD, -, -, -⟩ := hI.outT
  have hkey := hI.2.2.2.2.2.2.2
  have hst := hR.1.1.2.2.2.2.2.2.2
  have ht : t ≤ 8 := hT.1.2.2.2.2.2
  have eg := ext_len hD.1
  have hwl := wayL_len hst t (Nat.le_refl _)
  refine wp_sound [2408] 90 _ _ _ _ _ _ _ ?_
  refine c_writeWay hT hst hD (fun g' M' mc ms o1 o2 o3 o4 => ?_)
  have eg' := ext_len o1.1
  have e149 : M' 149 = M 149 := o2 149 (by decide) (by decide) (by decide)
  have e148 : M' 148 = M 148 := o2 148 (by decide) (by decide) (by decide)
  have hfin := inv_out hI o1 (fun q x y z u => o2 q x y u) (wayL_sgn hst t (Nat.le_refl _)) (by omega)
  refine e_writeWay (M := M') (by rw [e149]; exact hR.1.1) (by rw [e148]; exact keys_ok hkey) ?_
  rw [e149]
  refine ⟨fun _ => ?_, fun h => absurd rfl h⟩
  exact hK _ _ _ _ _ _ _ _ _ hfin (by omega) (by omega)
theorem law_outputByte (hI : Inv sb ext M) (hi : i + 6 ≤ len) (hlen : len ≤ 3072) (hK : Lcont (RO9 hs len f) (d + 30) Q ext i c s) : GoP (RO9 hs len f) (d + 30) 358 (lawL i v6 v7 v8 v9) [] (gW sb ext) M 2352 c s Q := by
  obtain ⟨g, l, rfl, rfl, hD, hl, h15, hx⟩ := hI.outT
  have eg := ext_len hD.1
  refine wp_sound [2358, 2371, 2408] 90 _ _ _ _ _ _ _ ?_
  refine go_ald (j := i + 1) rfl (i_add i 1) (by omega) (by omega) ?_
  refine wp_sound [2358, 2371, 2408] 90 _ _ _ _ _ _ _ ?_
  refine w_outputByte hD (fun j hj => by rw [(hx j hj).1]; exact (hx j hj).2) (fun h9 => ?_) (fun k hk hv => ?_)
  · refine go_ald (j := i + 1) rfl (i_add i 1) (by omega) (by omega) ?_
    refine wp_sound [2358, 2371, 2408] 90 _ _ _ _ _ _ _ ?_
    refine e_outputByte hl h15 (fun _ => ?_) (fun k hk hv => absurd h9 (by rw [inB_in (n := l.length) (by omega) rfl hk hv]; decide))
    refine e_thrown.use ?_
    refine ⟨fun _ => ?_, fun h => absurd thr_3 h⟩
    refine ⟨fun h0 => absurd h0 (by decide), fun _ => ?_⟩
    exact hK _ _ _ _ _ _ _ _ _ (hI.fr (FrL.of FrQ.refl FrM.refl.thr)) (by omega) (by omega)
  · have e145 : (upM M 157 (upd (M 157) 0 (l.getD k 0).toInt64.toInt32)) 145 = M 145 := upM_ne (by decide)
    have e156 : (upM M 157 (upd (M 157) 0 (l.getD k 0).toInt64.toInt32)) 156 = M 156 := upM_ne (by decide)
    have o157 : (upM M 157 (upd (M 157) 0 (l.getD k 0).toInt64.toInt32)) 157 0 = M 156 k := by
      rw [upM_at, upd_at, l_i, (hx k hk).1]
    have hfin := hI.fr (FrL.of (FrQ.refl.out (f := upd (M 157) 0 (l.getD k 0).toInt64.toInt32)) (FrM.refl.thr (w := 0)))
    generalize hM1 : upM M 157 (upd (M 157) 0 (l.getD k 0).toInt64.toInt32) = M1 at *
    refine go_ald (j := i + 1) rfl (i_add i 1) (by omega) (by omega) ?_
    refine wp_sound [2358, 2371, 2408] 90 _ _ _ _ _ _ _ ?_
    refine e_outputByte (M := M1) hl (by rw [e145]; exact h15) (fun h8 => absurd h8 (by rw [e145, inB_in (n := l.length) (by omega) h15 hk hv]; decide)) (fun k2 hk2 hv2 => ?_)
    have hkk : k2 = k := i_inj (by omega) (by omega) (hv2.symm.trans hv)
    subst hkk
    rw [e156]
    have o2' : thr M1 0 157 0 = M 156 k2 := o157
    have o3' : thr M1 0 145 3 = 0 := thr_3
    refine e_thrown.use ?_
    refine ⟨fun _ => ?_, fun h => absurd o3' h⟩
    refine ⟨fun _ => ?_, fun h => absurd rfl h⟩
    refine ⟨0, rfl, by omega, ?_⟩
    refine ⟨fun _ => ?_, fun h => absurd ?_ h⟩
    · exact hK _ _ _ _ _ _ _ _ _ hfin (by omega) (by omega)
    · rw [o2']; exact lcmp_self
end LAW
