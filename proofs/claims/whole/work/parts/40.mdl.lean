/-! the model's changes: the rest -/
theorem gt_if {x y : Int32} {a b : Nat} {P Q : Prop} (hx : x = Int32.ofNat a) (hy : y = Int32.ofNat b) (ha : a < 1000000) (hb : b < 1000000) (h1 : b < a → P) (h2 : a ≤ b → Q) : (y < x → P) ∧ (¬ y < x → Q) := lt_if hy hx hb ha h1 h2
theorem easeN_at {N : Nat → Int32} {j : Nat} (h : ∀ i, i < 6 → j ≠ 15 + 8 * i + 1) : ∀ k, k ≤ 6 → easeN N k j = N j := by
  intro k
  induction k with
  | zero => intro _; rfl
  | succ k ih => intro hk; rw [easeN, tireN, upd_ne (h k (by omega)), ih (by omega)]
theorem restN_at {N : Nat → Int32} {m j : Nat} (hm : m ≤ 6) (h : ∀ i, i < 6 → j ≠ 15 + 8 * i + 1) (h6 : j ≠ 6) : ∀ k, restN m N k j = N j := by
  intro k
  induction k with
  | zero => rfl
  | succ k ih => rw [restN, easeN_at h m hm, upd_ne h6, ih]
section MDL
variable {RO : List mE} {d sb : Nat} {ext : List sh} {M : mM} {Q : mQ}
theorem e_trip {m S t c D : Nat} (h : rowOk (M 149) m S t) (hc : c ≤ 10) (hcN : M 145 7 = Int32.ofNat c) (hD : M 149 6 = Int32.ofNat D) (hD9 : D ≤ 9999)
    (h0 : ¬ whyN (M 149) m S = 0 ∨ D = 9999 → Q (.inl (some (.int 0))) (gW sb ext) (thr M 1) 0 0)
    (h1 : whyN (M 149) m S = 0 → D < 9999 → Q (.inl (some (.int (tripN M m S t 7 - M 149 7)))) (gW sb ext) (thr (upM (upM (remM M c) 153 (gN (M 153) (M 149) S m)) 149 (tripN M m S t)) 0) 0 0) : EvP RO (d + 9) 228 [.ref 145] (gW sb ext) M Q := by
  have hm := h.2.2.2.1
  have hS := h.2.2.2.2.1
  refine EvP.wp [] 60 rfl ?_
  refine (e_tripReason hS hm h.2.1 h.1).use ?_
  refine ⟨fun h2 => ?_, fun h2 => ?_⟩
  · refine ⟨6, rfl, by omega, ?_⟩
    refine eq_if (b := 9999) hD rfl (by omega) (by omega) (fun h3 => ?_) (fun h3 => ?_)
    · refine e_refuse.use ?_
      exact h0 (Or.inr h3)
    · refine (e_remembers hc hcN).use ?_
      refine ⟨7, rfl, by omega, ?_⟩
      refine (e_trips (M := remM M c) (m := m) (S := S) (t := t) h).use ?_
      refine ⟨7, rfl, by omega, ?_⟩
      refine e_told.use ?_
      exact h1 h2 (by omega)
  · refine e_refuse.use ?_
    exact h0 (Or.inl h2)
theorem e_rest {m S t c D : Nat} {v : Int32} (h : rowOk (M 149) m S t) (hc : c ≤ 10) (hcN : M 145 7 = Int32.ofNat c) (hD : M 149 6 = Int32.ofNat D) (hD9 : D ≤ 9999)
    (h0 : inB v 1 99 = false → Q (.inl (some (.int 0))) (gW sb ext) (thr M 1) 0 0)
    (h1 : ∀ n, 1 ≤ n → n ≤ 99 → v = Int32.ofNat n → 9999 < D + n → Q (.inl (some (.int 0))) (gW sb ext) (thr M 2) 0 0)
    (h2 : ∀ n, 1 ≤ n → n ≤ 99 → v = Int32.ofNat n → D + n ≤ 9999 → Q (.inl (some (.int (tiredN (restN m (M 149) n) m)))) (gW sb ext) (doM M c (restN m (M 149) n)) 0 0) : EvP RO (d + 4) 207 [.ref 145, .int v] (gW sb ext) M Q := by
  have hm := h.2.2.2.1
  refine EvP.wp [50] 60 rfl ?_
  refine e_in.use ?_
  refine zb_if (fun h3 => ?_) (fun h3 => ?_)
  · refine e_refuse.use ?_
    exact h0 h3
  obtain ⟨n, hn1, hn2, e⟩ := inB_r (a := 1) (n := 99) (by omega) (by omega) h3
  subst e
  refine ⟨6, rfl, by omega, ?_⟩
  refine gt_if (a := D + n) (b := 9999) (by rw [← i_add, ← hD]) rfl (by omega) (by omega) (fun h4 => ?_) (fun h4 => ?_)
  · refine e_refuse.use ?_
    exact h1 n hn1 hn2 rfl h4
  have hQ := h2 n hn1 hn2 rfl h4
  refine (e_remembers hc hcN).use ?_
  refine (e_rests (M := remM M c) hm hn2 h.1).use ?_
  have hN3 : restN m (M 149) n 3 = Int32.ofNat m := by rw [restN_at hm (fun i hi => by omega) (by omega)]; exact h.1
  refine up_ind (S := m) (H := fun k => GoP RO (d + 3) 207 [.ref 145, .int (Int32.ofNat n), .int (tiredN (restN m (M 149) n) k), .int (Int32.ofNat k)] [] (gW sb ext) (upM (remM M c) 149 (restN m (M 149) n)) 50 0 0 Q) ?_ (fun k hk ih => ?_) 0 (by omega)
  · refine wp_sound [50] 60 _ _ _ _ _ _ _ ?_
    refine ⟨3, rfl, by omega, ?_⟩
    refine lt_if rfl hN3 (by omega) (by omega) (fun h => absurd h (by omega)) (fun _ => ?_)
    refine e_told.use ?_
    exact hQ
  · refine wp_sound [50] 60 _ _ _ _ _ _ _ ?_
    refine ⟨3, rfl, by omega, ?_⟩
    refine lt_if rfl hN3 (by omega) (by omega) (fun _ => ?_) (fun h => absurd h (by omega))
    refine e_m.use ?_
    refine ⟨15 + 8 * k + 1, i_add _ 1, by omega, ?_⟩
    refine GoP.eq2 ih ?_ rfl
    rw [i_inc]; rfl
theorem e_addSack {m S t c : Nat} {kd w v : Int32} (h : rowOk (M 149) m S t) (hc : c ≤ 10) (hcN : M 145 7 = Int32.ofNat c)
    (h0 : inB kd 0 3 = false ∨ inB w 1 99 = false ∨ inB v 0 999 = false → Q (.inl (some (.int 0))) (gW sb ext) (thr M 1) 0 0)
    (h1 : inB kd 0 3 = true → inB w 1 99 = true → inB v 0 999 = true → S = 16 → Q (.inl (some (.int 0))) (gW sb ext) (thr M 2) 0 0)
    (h2 : inB kd 0 3 = true → inB w 1 99 = true → inB v 0 999 = true → S < 16 → Q (.inl (some (.int (Int32.ofNat S)))) (gW sb ext) (doM M c (bringsN (M 149) S kd w v)) 0 0) : EvP RO (d + 3) 133 [.ref 145, .int kd, .int w, .int v] (gW sb ext) M Q := by
  have hS := h.2.2.2.2.1
  refine EvP.wp [] 60 rfl ?_
  refine e_in.use ?_
  refine zb_if (fun h3 => ?_) (fun h3 => ?_)
  · refine e_refuse.use ?_
    exact h0 (Or.inl h3)
  refine e_in.use ?_
  refine zb_if (fun h4 => ?_) (fun h4 => ?_)
  · refine e_refuse.use ?_
    exact h0 (Or.inr (Or.inl h4))
  refine e_in.use ?_
  refine zb_if (fun h5 => ?_) (fun h5 => ?_)
  · refine e_refuse.use ?_
    exact h0 (Or.inr (Or.inr h5))
  refine ⟨4, rfl, by omega, ?_⟩
  refine eq_if (b := 16) h.2.1 rfl (by omega) (by omega) (fun h6 => ?_) (fun h6 => ?_)
  · refine e_refuse.use ?_
    exact h1 h3 h4 h5 h6
  refine (e_remembers hc hcN).use ?_
  refine (e_brings (M := remM M c) (k := S) (by omega) h.2.1).use ?_
  refine ⟨4, rfl, by omega, ?_⟩
  refine e_told.use ?_
  refine Q_of (h2 h3 h4 h5 (by omega)) ?_ rfl
  have e4 : bringsN (M 149) S kd w v 4 = Int32.ofNat (S + 1) := by
    rw [bringsN, upd_at, bringN, upd_ne (by omega), upd_ne (by omega), upd_ne (by omega), upd_ne (by omega), upd_ne (by omega), upd_ne (by omega), upd_ne (by omega), upd_ne (by omega), h.2.1, i_inc]
  show some (Value.int (bringsN (M 149) S kd w v 4 - Int32.ofNat 1)) = _
  rw [e4, i_sub (by omega)]; rfl
theorem e_addStage {m S t c : Nat} {kd n : Int32} (h : rowOk (M 149) m S t) (hc : c ≤ 10) (hcN : M 145 7 = Int32.ofNat c)
    (h0 : inB kd 0 2 = false → Q (.inl (some (.int 0))) (gW sb ext) (thr M 1) 0 0)
    (h1 : ∀ k, k < 3 → kd = Int32.ofNat k → inB n 1 (M 147 k) = false → Q (.inl (some (.int 0))) (gW sb ext) (thr M 1) 0 0)
    (h2 : ∀ k, k < 3 → kd = Int32.ofNat k → inB n 1 (M 147 k) = true → t = 8 → Q (.inl (some (.int 0))) (gW sb ext) (thr M 2) 0 0)
    (h3 : ∀ k, k < 3 → kd = Int32.ofNat k → inB n 1 (M 147 k) = true → t < 8 → Q (.inl (some (.int (Int32.ofNat t)))) (gW sb ext) (doM M c (leadsN (M 149) t kd n)) 0 0) : EvP RO (d + 3) 134 [.ref 145, .int kd, .int n] (gW sb ext) M Q := by
  have ht := h.2.2.2.2.2.1
  refine EvP.wp [] 60 rfl ?_
  refine e_in.use ?_
  refine zb_if (fun h4 => ?_) (fun h4 => ?_)
  · refine e_refuse.use ?_
    exact h0 h4
  obtain ⟨k, hk, e⟩ := inB_c (n := 2) (by omega) h4
  subst e
  refine ⟨k, rfl, by omega, ?_⟩
  refine e_in.use ?_
  refine zb_if (fun h5 => ?_) (fun h5 => ?_)
  · refine e_refuse.use ?_
    exact h1 k hk rfl h5
  refine ⟨5, rfl, by omega, ?_⟩
  refine eq_if (b := 8) h.2.2.1 rfl (by omega) (by omega) (fun h6 => ?_) (fun h6 => ?_)
  · refine e_refuse.use ?_
    exact h2 k hk rfl h5 h6
  refine (e_remembers hc hcN).use ?_
  refine (e_leads (M := remM M c) (k := t) (by omega) h.2.2.1).use ?_
  refine ⟨5, rfl, by omega, ?_⟩
  refine e_told.use ?_
  refine Q_of (h3 k hk rfl h5 (by omega)) ?_ rfl
  have e4 : leadsN (M 149) t (Int32.ofNat k) n 5 = Int32.ofNat (t + 1) := by
    rw [leadsN, upd_at, leadN, upd_ne (by omega), upd_ne (by omega), h.2.2.1, i_inc]
  show some (Value.int (leadsN (M 149) t (Int32.ofNat k) n 5 - Int32.ofNat 1)) = _
  rw [e4, i_sub (by omega)]; rfl
theorem e_dropStage {m S t c : Nat} {v : Int32} (h : rowOk (M 149) m S t) (hc : c ≤ 10) (hcN : M 145 7 = Int32.ofNat c)
    (h0 : inB v 0 (M 149 5 - 1) = false → Q (.inl (some (.int 0))) (gW sb ext) (thr M 1) 0 0)
    (h1 : ∀ i, i < t → v = Int32.ofNat i → Q (.inl (some (.int (Int32.ofNat (t - 1))))) (gW sb ext) (doM M c (dropF (upd (M 149) 5 (Int32.ofNat (t - 1))) (191 + 2 * i) (191 + 2 * (t - 1)))) 0 0) : EvP RO (d + 3) 147 [.ref 145, .int v] (gW sb ext) M Q := by
  have ht := h.2.2.2.2.2.1
  refine EvP.wp [33] 60 rfl ?_
  refine e_isStage.use ?_
  refine zb_if (fun h4 => ?_) (fun h4 => ?_)
  · refine e_refuse.use ?_
    exact h0 h4
  obtain ⟨i, hi, e⟩ := inB_n (by omega) h.2.2.1 h4
  subst e
  have hQ := h1 i hi rfl
  refine (e_remembers hc hcN).use ?_
  refine ⟨5, rfl, by omega, ?_⟩
  refine ⟨5, rfl, by omega, ?_⟩
  refine e_t.use ?_
  have key := up_ind (S := 2 * (t - 1 - i)) (H := fun k => GoP RO (d + 2) 147 [.ref 145, .int (Int32.ofNat i), .int (Int32.ofNat (191 + 2 * i + k))] [] (gW sb ext) (upM (remM M c) 149 (dropF (upd (M 149) 5 (Int32.ofNat (t - 1))) (191 + 2 * i) (191 + 2 * i + k))) 33 0 0 Q) ?_ (fun k hk ih => ?_) 0 (by omega)
  · refine GoP.eq2 key rfl ?_
    rw [Nat.add_zero, dropF_0, ← i_sub (a := t) (b := 1) (by omega), ← h.2.2.1]; rfl
  · have h5 : dropF (upd (M 149) 5 (Int32.ofNat (t - 1))) (191 + 2 * i) (191 + 2 * i + 2 * (t - 1 - i)) 5 = Int32.ofNat (t - 1) := by
      rw [dropF, if_neg (by omega), upd_at]
    refine wp_sound [33] 60 _ _ _ _ _ _ _ ?_
    refine ⟨5, rfl, by omega, ?_⟩
    rw [show upM (remM M c) 149 (dropF (upd (M 149) 5 (Int32.ofNat (t - 1))) (191 + 2 * i) (191 + 2 * i + 2 * (t - 1 - i))) 149 5 = Int32.ofNat (t - 1) from h5]
    refine e_t.use ?_
    refine lt_if rfl rfl (by omega) (by omega) (fun h => absurd h (by omega)) (fun _ => ?_)
    refine ⟨5, rfl, by omega, ?_⟩
    refine e_told.use ?_
    refine Q_of hQ ?_ ?_
    · show some (Value.int (dropF (upd (M 149) 5 (Int32.ofNat (t - 1))) (191 + 2 * i) (191 + 2 * i + 2 * (t - 1 - i)) 5)) = _
      rw [h5]
    · rw [show 191 + 2 * i + 2 * (t - 1 - i) = 191 + 2 * (t - 1) by omega]; rfl
  · have h5 : dropF (upd (M 149) 5 (Int32.ofNat (t - 1))) (191 + 2 * i) (191 + 2 * i + k) 5 = Int32.ofNat (t - 1) := by
      rw [dropF, if_neg (by omega), upd_at]
    refine wp_sound [33] 60 _ _ _ _ _ _ _ ?_
    refine ⟨5, rfl, by omega, ?_⟩
    rw [show upM (remM M c) 149 (dropF (upd (M 149) 5 (Int32.ofNat (t - 1))) (191 + 2 * i) (191 + 2 * i + k)) 149 5 = Int32.ofNat (t - 1) from h5]
    refine e_t.use ?_
    refine lt_if rfl rfl (by omega) (by omega) (fun _ => ?_) (fun h => absurd h (by omega))
    refine ⟨191 + 2 * i + k + 2, i_add _ 2, by omega, ?_⟩
    refine ⟨191 + 2 * i + k, rfl, by omega, ?_⟩
    refine GoP.eq2 ih (by rw [i_inc]; rfl) ?_
    rw [← Nat.add_assoc, ← dropF_s (by omega), upM_upM, upM_at]
theorem e_set {m S t c : Nat} {w v : Int32} (h : rowOk (M 149) m S t) (hc : c ≤ 10) (hcN : M 145 7 = Int32.ofNat c)
    (h0 : inB w 0 2 = false → Q (.inl (some (.int 0))) (gW sb ext) (thr M 1) 0 0)
    (h1 : ∀ k, k < 3 → w = Int32.ofNat k → inB v 0 (M 146 k) = false → Q (.inl (some (.int 0))) (gW sb ext) (thr M 1) 0 0)
    (h2 : ∀ k, k < 3 → w = Int32.ofNat k → inB v 0 (M 146 k) = true → Q (.inl (some (.int (M 149 k)))) (gW sb ext) (doM M c (upd (M 149) k v)) 0 0) : EvP RO (d + 2) 215 [.ref 145, .int w, .int v] (gW sb ext) M Q := by
  refine EvP.wp [] 60 rfl ?_
  refine e_in.use ?_
  refine zb_if (fun h4 => ?_) (fun h4 => ?_)
  · refine e_refuse.use ?_
    exact h0 h4
  obtain ⟨k, hk, e⟩ := inB_c (n := 2) (by omega) h4
  subst e
  refine ⟨k, rfl, by omega, ?_⟩
  refine e_in.use ?_
  refine zb_if (fun h5 => ?_) (fun h5 => ?_)
  · refine e_refuse.use ?_
    exact h1 k hk rfl h5
  refine (e_remembers hc hcN).use ?_
  refine ⟨k, rfl, by omega, ?_⟩
  refine ⟨k, rfl, by omega, ?_⟩
  refine e_told.use ?_
  exact h2 k hk rfl h5
theorem e_restore {c : Nat} {v : Int32} (hc : c ≤ 10) (hcN : M 145 7 = Int32.ofNat c)
    (h0 : inB v 0 1 = false → Q (.inl (some (.int 0))) (gW sb ext) (thr M 1) 0 0)
    (h1 : ∀ k, k < 2 → v = Int32.ofNat k → (M 145 9 >>> (v &&& 31)) &&& 1 = 0 → Q (.inl (some (.int 0))) (gW sb ext) (thr M 2) 0 0)
    (h2 : ∀ k, k < 2 → v = Int32.ofNat k → ¬ (M 145 9 >>> (v &&& 31)) &&& 1 = 0 → Q (.inl (some (.int (copyF (M 149) 0 (M 152) (k * 207) 207 6)))) (gW sb ext) (doM M c (copyF (M 149) 0 (M 152) (k * 207) 207)) 0 0) : EvP RO (d + 2) 208 [.ref 145, .int v] (gW sb ext) M Q := by
  refine EvP.wp [38] 60 rfl ?_
  refine e_in.use ?_
  refine zb_if (fun h4 => ?_) (fun h4 => ?_)
  · refine e_refuse.use ?_
    exact h0 h4
  obtain ⟨k, hk, e⟩ := inB_c (n := 1) (by omega) h4
  subst e
  refine ⟨fun h5 => ?_, fun h5 => ?_⟩
  · refine e_refuse.use ?_
    exact h1 k hk rfl h5
  have hQ := h2 k hk rfl h5
  refine (e_remembers hc hcN).use ?_
  have key := up_ind (S := 207) (H := fun i => GoP RO (d + 1) 208 [.ref 145, .int (Int32.ofNat k), .int (Int32.ofNat i)] [] (gW sb ext) (upM (remM M c) 149 (copyF (M 149) 0 (M 152) (k * 207) i)) 38 0 0 Q) ?_ (fun i hi ih => ?_) 0 (by omega)
  · refine GoP.eq2 key rfl ?_
    rw [copyF_0]
    show _ = upM (remM M c) 149 (remM M c 149)
    rw [upM_self]
  · refine wp_sound [38] 60 _ _ _ _ _ _ _ ?_
    refine lt_if rfl (b := 207) rfl (by omega) (by omega) (fun h => absurd h (by omega)) (fun _ => ?_)
    refine ⟨6, rfl, by omega, ?_⟩
    refine e_told.use ?_
    exact hQ
  · refine wp_sound [38] 60 _ _ _ _ _ _ _ ?_
    refine lt_if rfl (b := 207) rfl (by omega) (by omega) (fun _ => ?_) (fun h => absurd h (by omega))
    refine ⟨k * 207 + i, ?_, by omega, ?_⟩
    · show Int32.ofNat k * Int32.ofNat 207 + Int32.ofNat i = _
      rw [i_mul, i_add]
    refine ⟨i, rfl, by omega, ?_⟩
    refine GoP.eq2 ih (by rw [i_inc]) ?_
    rw [← copyF_s, upM_at, upM_upM, Nat.zero_add]; rfl
theorem e_undo {c : Nat} (hc : c ≤ 10) (hcN : M 145 7 = Int32.ofNat c)
    (h0 : c = 0 → Q (.inl (some (.int 0))) (gW sb ext) (thr M 1) 0 0)
    (h1 : 0 < c → Q (.inl (some (.int (Int32.ofNat (c - 1))))) (gW sb ext) (thr (upM (upM M 145 (upd (M 145) 7 (Int32.ofNat (c - 1)))) 149 (copyF (M 149) 0 (M 151) ((c - 1) * 207) 207)) 0) 0 0) : EvP RO (d + 2) 232 [.ref 145] (gW sb ext) M Q := by
  refine EvP.wp [25] 60 rfl ?_
  refine eq_if (b := 0) hcN rfl (by omega) (by omega) (fun h4 => ?_) (fun h4 => ?_)
  · refine e_refuse.use ?_
    exact h0 h4
  have hQ := h1 (by omega)
  have e7 : M 145 7 - 1 = Int32.ofNat (c - 1) := by rw [hcN]; exact i_sub (a := c) (b := 1) (by omega)
  have key := up_ind (S := 207) (H := fun i => GoP RO (d + 1) 232 [.ref 145, .int (Int32.ofNat i)] [] (gW sb ext) (upM (upM M 145 (upd (M 145) 7 (Int32.ofNat (c - 1)))) 149 (copyF (M 149) 0 (M 151) ((c - 1) * 207) i)) 25 0 0 Q) ?_ (fun i hi ih => ?_) 0 (by omega)
  · refine GoP.eq2 key rfl ?_
    rw [copyF_0, ← e7]
    show _ = upM (upM M 145 (upd (M 145) 7 (M 145 7 - 1))) 149 (upM M 145 (upd (M 145) 7 (M 145 7 - 1)) 149)
    rw [upM_self]
  · refine wp_sound [25] 60 _ _ _ _ _ _ _ ?_
    refine lt_if rfl (b := 207) rfl (by omega) (by omega) (fun h => absurd h (by omega)) (fun _ => ?_)
    refine e_told.use ?_
    exact hQ
  · refine wp_sound [25] 60 _ _ _ _ _ _ _ ?_
    refine lt_if rfl (b := 207) rfl (by omega) (by omega) (fun _ => ?_) (fun h => absurd h (by omega))
    refine ⟨(c - 1) * 207 + i, ?_, by omega, ?_⟩
    · show Int32.ofNat (c - 1) * Int32.ofNat 207 + Int32.ofNat i = _
      rw [i_mul, i_add]
    refine ⟨i, rfl, by omega, ?_⟩
    refine GoP.eq2 ih (by rw [i_inc]) ?_
    rw [← copyF_s, upM_at, upM_upM, Nat.zero_add]; rfl
def saveM (M : mM) (k : Nat) : mM := upM (upM M 152 (copyF (M 152) (k * 207) (M 149) 0 207)) 145 (upd (M 145) 9 (M 145 9 ||| ((1 : Int32) <<< (Int32.ofNat k &&& 31))))
theorem e_save {v : Int32}
    (h0 : inB v 0 1 = false → Q (.inl (some (.int 0))) (gW sb ext) (thr M 1) 0 0)
    (h1 : ∀ k, k < 2 → v = Int32.ofNat k → Q (.inl (some (.int (((M 145 9 ||| ((1 : Int32) <<< (v &&& 31))) &&& 1) + ((M 145 9 ||| ((1 : Int32) <<< (v &&& 31))) >>> ((1 : Int32) &&& 31)))))) (gW sb ext) (thr (saveM M k) 0) 0 0) : EvP RO (d + 2) 214 [.ref 145, .int v] (gW sb ext) M Q := by
  refine EvP.wp [17] 60 rfl ?_
  refine e_in.use ?_
  refine zb_if (fun h4 => ?_) (fun h4 => ?_)
  · refine e_refuse.use ?_
    exact h0 h4
  obtain ⟨k, hk, e⟩ := inB_c (n := 1) (by omega) h4
  subst e
  have hQ := h1 k hk rfl
  have key := up_ind (S := 207) (H := fun i => GoP RO (d + 1) 214 [.ref 145, .int (Int32.ofNat k), .int (Int32.ofNat i)] [] (gW sb ext) (upM M 152 (copyF (M 152) (k * 207) (M 149) 0 i)) 17 0 0 Q) ?_ (fun i hi ih => ?_) 0 (by omega)
  · refine GoP.eq2 key rfl ?_
    rw [copyF_0, upM_self]
  · refine wp_sound [17] 60 _ _ _ _ _ _ _ ?_
    refine lt_if rfl (b := 207) rfl (by omega) (by omega) (fun h => absurd h (by omega)) (fun _ => ?_)
    refine e_told.use ?_
    exact hQ
  · refine wp_sound [17] 60 _ _ _ _ _ _ _ ?_
    refine lt_if rfl (b := 207) rfl (by omega) (by omega) (fun _ => ?_) (fun h => absurd h (by omega))
    refine ⟨i, rfl, by omega, ?_⟩
    refine ⟨k * 207 + i, ?_, by omega, ?_⟩
    · show Int32.ofNat k * Int32.ofNat 207 + Int32.ofNat i = _
      rw [i_mul, i_add]
    refine GoP.eq2 ih (by rw [i_inc]) ?_
    rw [← copyF_s, upM_at, upM_upM, Nat.zero_add]; rfl
end MDL
