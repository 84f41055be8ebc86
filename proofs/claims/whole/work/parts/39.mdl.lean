/-! the model's changes -/
def doM (M : mM) (c : Nat) (N : Nat → Int32) : mM := thr (upM (remM M c) 149 N) 0
theorem rem_149 {M : mM} {c : Nat} : remM M c 149 = M 149 := rfl
theorem packN_at {N : Nat → Int32} {k j : Nat} {m sd : Int32} (h : j < 63 ∨ 190 < j) (hk : k < 16) : packN N k m sd j = N j := by
  rw [packN, upd_ne (by omega), upd_ne (by omega), upd_ne (by omega)]
theorem leaveN_far {N : Nat → Int32} {k j : Nat} {p : Int32} (h : j < 63 ∨ 190 < j) (hk : k < 16) : leaveN N k p j = N j := leaveN_at (by omega) (by omega) (by omega) (by omega)
/-- how many sacks stand in the store -/
def stoN (N : Nat → Int32) : Nat → Nat
  | 0 => 0
  | k + 1 => stoN N k + (bif decide (N (63 + 8 * k + 3) = 0) then 1 else 0)
theorem stoN_le {N : Nat → Int32} : ∀ S, stoN N S ≤ S := by
  intro S
  induction S with
  | zero => exact Nat.le_refl _
  | succ S ih =>
    rw [stoN]
    cases decide (N (63 + 8 * S + 3) = 0)
    · exact Nat.le_succ_of_le ih
    · exact Nat.succ_le_succ ih
theorem stoN_congr {N N' : Nat → Int32} : ∀ S, (∀ i, i < S → N' (63 + 8 * i + 3) = N (63 + 8 * i + 3)) → stoN N' S = stoN N S := by
  intro S
  induction S with
  | zero => intro _; rfl
  | succ S ih => intro h; rw [stoN, stoN, ih (fun i hi => h i (by omega)), h S (by omega)]
theorem stoN_pack {N : Nat → Int32} {k : Nat} {m sd : Int32} (hk : N (63 + 8 * k + 3) = 0) : ∀ S, k < S → stoN (packN N k m sd) S + 1 = stoN N S := by
  intro S
  induction S with
  | zero => intro h; omega
  | succ S ih =>
    intro hS
    rw [stoN, stoN]
    by_cases e : S = k
    · subst e
      rw [show packN N S m sd (63 + 8 * S + 3) = 1 by rw [packN, upd_ne (by omega), upd_ne (by omega), upd_at], hk, stoN_congr S (fun i hi => by rw [packN, upd_ne (by omega), upd_ne (by omega), upd_ne (by omega)])]
      rfl
    · rw [show packN N k m sd (63 + 8 * S + 3) = N (63 + 8 * S + 3) by rw [packN, upd_ne (by omega), upd_ne (by omega), upd_ne (by omega)]]
      have := ih (by omega)
      omega
theorem prN_store {N : Nat → Int32} {k i S : Nat} (h : prN N k i S = 0) : N (63 + 8 * k + 3) = 0 := by
  rw [prN] at h
  cases hd : decide (N (63 + 8 * k + 3) = 0) with
  | true => exact of_decide_eq_true hd
  | false => rw [hd] at h; exact absurd (show (1 : Int32) = 0 from h) (by decide)
theorem stoN_zero {N : Nat → Int32} : ∀ S, stoN N S = 0 → ∀ i, i < S → ¬ N (63 + 8 * i + 3) = 0 := by
  intro S
  induction S with
  | zero => intro _ i h; omega
  | succ S ih =>
    intro h i hi
    rw [stoN] at h
    cases hq : decide (N (63 + 8 * S + 3) = 0) with
    | true => rw [hq] at h; simp at h
    | false =>
      rw [hq] at h
      by_cases e : i = S
      · rw [e]; exact of_decide_eq_false hq
      · exact ih (by simpa using h) i (by omega)
def fill1 (N : Nat → Int32) (i S : Nat) : Nat → Int32 := packN N ((bestI N i S S).getD 0) (Int32.ofNat i) (lightN N (Int32.ofNat i) S)
def fillN (i S : Nat) : Nat → (Nat → Int32) → (Nat → Int32)
  | 0, N => N
  | f + 1, N => bif (bestI N i S S).isSome then fillN i S f (fill1 N i S) else N
def fillK (i S : Nat) : Nat → (Nat → Int32) → Nat
  | 0, _ => 0
  | f + 1, N => bif (bestI N i S S).isSome then fillK i S f (fill1 N i S) + 1 else 0
theorem fillN_s {i S f : Nat} {N : Nat → Int32} : fillN i S (f + 1) N = bif (bestI N i S S).isSome then fillN i S f (fill1 N i S) else N := rfl
theorem fillK_s {i S f : Nat} {N : Nat → Int32} : fillK i S (f + 1) N = bif (bestI N i S S).isSome then fillK i S f (fill1 N i S) + 1 else 0 := rfl
def tiredN (N : Nat → Int32) : Nat → Int32 := sm (fun k => N (15 + 8 * k + 1))
def dropF (N : Nat → Int32) (a b : Nat) : Nat → Int32 := fun j => if a ≤ j ∧ j < b then N (j + 2) else N j
theorem dropF_0 {N : Nat → Int32} {a : Nat} : dropF N a a = N := by
  funext j
  rw [dropF, if_neg (by omega)]
theorem dropF_s {N : Nat → Int32} {a b : Nat} (h : a ≤ b) : upd (dropF N a b) b (dropF N a b (b + 2)) = dropF N a (b + 1) := by
  funext j
  by_cases e : j = b
  · rw [e, upd_at, dropF, dropF, if_neg (by omega), if_pos (by omega)]
  · rw [upd_ne e, dropF, dropF]
    by_cases h : a ≤ j ∧ j < b
    · rw [if_pos h, if_pos (by omega)]
    · rw [if_neg h, if_neg (by omega)]
theorem inB_r {v : Int32} {a n : Nat} (ha : a < 1000000) (hn : n < 1000000) (h : inB v (Int32.ofNat a) (Int32.ofNat n) = true) : ∃ i, a ≤ i ∧ i ≤ n ∧ v = Int32.ofNat i := by
  obtain ⟨h0, h1⟩ := inB_yes h
  rw [Int32.lt_iff_toInt_lt, i_toInt ha] at h0
  rw [Int32.lt_iff_toInt_lt, i_toInt hn] at h1
  refine ⟨v.toInt.toNat, by omega, by omega, ?_⟩
  apply Int32.toInt_inj.mp
  rw [i_toInt (by omega)]
  omega
section MDL
variable {RO : List mE} {d sb : Nat} {ext : List sh} {M : mM} {Q : mQ}
theorem e_pack {m S t c : Nat} {v w x : Int32} (h : rowOk (M 149) m S t) (hc : c ≤ 10) (hcN : M 145 7 = Int32.ofNat c)
    (h0 : inB v 0 (M 149 4 - 1) = false ∨ inB w 0 (M 149 3 - 1) = false → Q (.inl (some (.int 0))) (gW sb ext) (thr M 1) 0 0)
    (h1 : ∀ k i, k < S → v = Int32.ofNat k → i < m → w = Int32.ofNat i → inB x 0 1 = false → Q (.inl (some (.int 0))) (gW sb ext) (thr M 2) 0 0)
    (h2 : ∀ k i, k < S → v = Int32.ofNat k → i < m → w = Int32.ofNat i → inB x 0 1 = true → ¬ prN (M 149) k i S = 0 → Q (.inl (some (.int 0))) (gW sb ext) (thr M 3) 0 0)
    (h3 : ∀ k i, k < S → v = Int32.ofNat k → i < m → w = Int32.ofNat i → inB x 0 1 = true → prN (M 149) k i S = 0 → Q (.inl (some (.int (loadN (packN (M 149) k w x) w S)))) (gW sb ext) (doM M c (packN (M 149) k w x)) 0 0) : EvP RO (d + 6) 190 [.ref 145, .int v, .int w, .int x] (gW sb ext) M Q := by
  have hm := h.2.2.2.1
  have hS := h.2.2.2.2.1
  refine EvP.wp [] 60 rfl ?_
  refine e_isSack.use ?_
  refine zb_if (fun h4 => ?_) (fun h4 => ?_)
  · refine e_refuse.use ?_
    exact h0 (Or.inl h4)
  obtain ⟨k, hk, e⟩ := inB_n (by omega) h.2.1 h4
  subst e
  refine e_isMule.use ?_
  refine zb_if (fun h5 => ?_) (fun h5 => ?_)
  · refine e_refuse.use ?_
    exact h0 (Or.inr h5)
  obtain ⟨i, hi, e⟩ := inB_n (by omega) h.1 h5
  subst e
  refine e_in.use ?_
  refine zb_if (fun h6 => ?_) (fun h6 => ?_)
  · refine e_refuse.use ?_
    exact h1 k i hk rfl hi rfl h6
  refine (e_packReason hS h.2.1 (by omega) (by omega)).use ?_
  refine ⟨fun h7 => ?_, fun h7 => ?_⟩
  · refine (e_remembers hc hcN).use ?_
    refine (e_packs (M := remM M c) (by omega)).use ?_
    refine (e_loadOf (M := upM (remM M c) 149 (packN (M 149) k (Int32.ofNat i) x)) hS (by rw [upM_at, packN_at (by omega) (by omega)]; exact h.2.1)).use ?_
    refine e_told.use ?_
    exact h3 k i hk rfl hi rfl h6 h7
  · refine e_refuse.use ?_
    exact h2 k i hk rfl hi rfl h6 h7
theorem e_unpack {m S t c : Nat} {v : Int32} (h : rowOk (M 149) m S t) (hc : c ≤ 10) (hcN : M 145 7 = Int32.ofNat c)
    (h0 : inB v 0 (M 149 4 - 1) = false → Q (.inl (some (.int 0))) (gW sb ext) (thr M 1) 0 0)
    (h1 : ∀ k, k < S → v = Int32.ofNat k → ¬ M 149 (63 + 8 * k + 3) = 1 → Q (.inl (some (.int 0))) (gW sb ext) (thr M 2) 0 0)
    (h2 : ∀ k, k < S → v = Int32.ofNat k → M 149 (63 + 8 * k + 3) = 1 → Q (.inl (some (.int (loadN (leaveN (M 149) k 0) (M 149 (63 + 8 * k + 4)) S)))) (gW sb ext) (doM M c (leaveN (M 149) k 0)) 0 0) : EvP RO (d + 5) 233 [.ref 145, .int v] (gW sb ext) M Q := by
  have hS := h.2.2.2.2.1
  refine EvP.wp [] 60 rfl ?_
  refine e_isSack.use ?_
  refine zb_if (fun h4 => ?_) (fun h4 => ?_)
  · refine e_refuse.use ?_
    exact h0 h4
  obtain ⟨k, hk, e⟩ := inB_n (by omega) h.2.1 h4
  subst e
  refine (e_isPacked (by omega)).use ?_
  refine zb_if (fun h5 => ?_) (fun h5 => ?_)
  · refine e_refuse.use ?_
    exact h1 k hk rfl (of_decide_eq_false h5)
  refine (e_remembers hc hcN).use ?_
  refine e_s.use ?_
  refine ⟨63 + 8 * k + 4, i_add _ 4, by omega, ?_⟩
  refine (e_leaves (M := remM M c) (by omega)).use ?_
  refine (e_loadOf (M := upM (remM M c) 149 (leaveN (M 149) k 0)) hS (by rw [upM_at, leaveN_far (by omega) (by omega)]; exact h.2.1)).use ?_
  refine e_told.use ?_
  exact h2 k hk rfl (of_decide_eq_true h5)
theorem e_shift {m S t c : Nat} {v : Int32} (h : rowOk (M 149) m S t) (hc : c ≤ 10) (hcN : M 145 7 = Int32.ofNat c)
    (h0 : inB v 0 (M 149 4 - 1) = false → Q (.inl (some (.int 0))) (gW sb ext) (thr M 1) 0 0)
    (h1 : ∀ k, k < S → v = Int32.ofNat k → ¬ M 149 (63 + 8 * k + 3) = 1 → Q (.inl (some (.int 0))) (gW sb ext) (thr M 2) 0 0)
    (h2 : ∀ k N', k < S → v = Int32.ofNat k → M 149 (63 + 8 * k + 3) = 1 → N' = upd (M 149) (63 + 8 * k + 5) (1 - M 149 (63 + 8 * k + 5)) → Q (.inl (some (.int (absB (wOn N' (M 149 (63 + 8 * k + 4)) 0 S - wOn N' (M 149 (63 + 8 * k + 4)) 1 S))))) (gW sb ext) (doM M c N') 0 0) : EvP RO (d + 5) 218 [.ref 145, .int v] (gW sb ext) M Q := by
  have hS := h.2.2.2.2.1
  refine EvP.wp [] 80 rfl ?_
  refine e_isSack.use ?_
  refine zb_if (fun h4 => ?_) (fun h4 => ?_)
  · refine e_refuse.use ?_
    exact h0 h4
  obtain ⟨k, hk, e⟩ := inB_n (by omega) h.2.1 h4
  subst e
  refine (e_isPacked (by omega)).use ?_
  refine zb_if (fun h5 => ?_) (fun h5 => ?_)
  · refine e_refuse.use ?_
    exact h1 k hk rfl (of_decide_eq_false h5)
  have hQ := h2 k _ hk rfl (of_decide_eq_true h5) rfl
  refine (e_remembers hc hcN).use ?_
  refine e_s.use ?_
  refine e_s.use ?_
  refine ⟨63 + 8 * k + 5, i_add _ 5, by omega, ?_⟩
  refine ⟨63 + 8 * k + 5, i_add _ 5, by omega, ?_⟩
  refine e_s.use ?_
  refine ⟨63 + 8 * k + 4, i_add _ 4, by omega, ?_⟩
  refine (e_tilt (M := upM (remM M c) 149 (upd (M 149) (63 + 8 * k + 5) (1 - M 149 (63 + 8 * k + 5)))) hS (by rw [upM_at, upd_ne (by omega)]; exact h.2.1)).use ?_
  refine e_told.use ?_
  rw [← show upd (M 149) (63 + 8 * k + 5) (1 - M 149 (63 + 8 * k + 5)) (63 + 8 * k + 4) = M 149 (63 + 8 * k + 4) from upd_ne (by omega)] at hQ
  exact hQ
theorem e_fill {m S t c : Nat} {v : Int32} (h : rowOk (M 149) m S t) (hc : c ≤ 10) (hcN : M 145 7 = Int32.ofNat c)
    (h0 : inB v 0 (M 149 3 - 1) = false → Q (.inl (some (.int 0))) (gW sb ext) (thr M 1) 0 0)
    (h1 : ∀ i, i < m → v = Int32.ofNat i → Q (.inl (some (.int (Int32.ofNat (fillK i S 16 (M 149)))))) (gW sb ext) (doM M c (fillN i S 16 (M 149))) 0 0) : EvP RO (d + 7) 154 [.ref 145, .int v] (gW sb ext) M Q := by
  have hm := h.2.2.2.1
  have hS := h.2.2.2.2.1
  refine EvP.wp [26] 60 rfl ?_
  refine e_isMule.use ?_
  refine zb_if (fun h4 => ?_) (fun h4 => ?_)
  · refine e_refuse.use ?_
    exact h0 h4
  obtain ⟨i, hi, e⟩ := inB_n (by omega) h.1 h4
  subst e
  have hQ := h1 i hi rfl
  refine (e_remembers hc hcN).use ?_
  refine (e_bestFor (M := remM M c) hS (by omega) h.2.1).use ?_
  have key : ∀ (n : Nat) (N : Nat → Int32) (many : Nat), stoN N S ≤ n → n ≤ 16 → N 4 = Int32.ofNat S → Q (.inl (some (.int (Int32.ofNat (many + fillK i S n N))))) (gW sb ext) (doM M c (fillN i S n N)) 0 0 → GoP RO (d + 6) 154 [.ref 145, .int (Int32.ofNat i), .int (Int32.ofNat many), .int (enc (bestI N i S S))] [] (gW sb ext) (upM (remM M c) 149 N) 26 0 0 Q := by
    intro n
    induction n with
    | zero =>
      intro N many hs _ hN hQ
      have hb : bestI N i S S = none := by
        cases hb : bestI N i S S with
        | none => rfl
        | some k =>
          have h9 := pick_lt hb
          exact absurd (prN_store (of_decide_eq_true h9.2)) (stoN_zero S (by omega) k h9.1)
      rw [hb]
      refine wp_sound [26] 60 _ _ _ _ _ _ _ ?_
      refine ⟨fun _ => ?_, fun h => absurd rfl h⟩
      refine e_told.use ?_
      exact hQ
    | succ n ih =>
      intro N many hs hn hN hQ
      rw [fillK_s, fillN_s] at hQ
      cases hb : bestI N i S S with
      | none =>
        rw [hb] at hQ
        refine wp_sound [26] 60 _ _ _ _ _ _ _ ?_
        refine ⟨fun _ => ?_, fun h => absurd rfl h⟩
        refine e_told.use ?_
        exact hQ
      | some k =>
        rw [hb] at hQ
        have h9 := pick_lt hb
        have hst := prN_store (of_decide_eq_true h9.2)
        refine wp_sound [26] 60 _ _ _ _ _ _ _ ?_
        refine ⟨fun h => absurd h (i_ne_m1 (by omega)), fun _ => ?_⟩
        refine (e_lighterOf (M := upM (remM M c) 149 N) hS hN).use ?_
        refine (e_packs (by omega)).use ?_
        have hN2 : packN N k (Int32.ofNat i) (lightN N (Int32.ofNat i) S) 4 = Int32.ofNat S := by rw [packN_at (by omega) (by omega)]; exact hN
        refine (e_bestFor (M := upM (upM (remM M c) 149 N) 149 (packN N k (Int32.ofNat i) (lightN N (Int32.ofNat i) S))) hS (by omega) hN2).use ?_
        have h8 := stoN_pack (m := Int32.ofNat i) (sd := lightN N (Int32.ofNat i) S) hst S h9.1
        have hf : fill1 N i S = packN N k (Int32.ofNat i) (lightN N (Int32.ofNat i) S) := by rw [fill1, hb]; rfl
        refine GoP.eq2 (ih (fill1 N i S) (many + 1) (by rw [hf]; omega) (by omega) (by rw [hf]; exact hN2) ?_) ?_ ?_
        · rw [show many + 1 + fillK i S n (fill1 N i S) = many + (fillK i S n (fill1 N i S) + 1) by omega]
          exact hQ
        · rw [i_inc, hf]; rfl
        · rw [upM_upM, hf]
  refine GoP.eq2 (key 16 (M 149) 0 (Nat.le_trans (stoN_le S) hS) (by omega) h.2.1 (by rw [Nat.zero_add]; exact hQ)) rfl ?_
  show _ = upM (remM M c) 149 (remM M c 149)
  rw [upM_self]
end MDL
