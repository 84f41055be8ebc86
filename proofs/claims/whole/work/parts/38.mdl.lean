/-! the model's other answers -/
theorem i_dec {n : Nat} : Int32.ofNat (n + 1) + -1 = Int32.ofNat n := by
  rw [← i_inc, Int32.add_assoc, show (1 : Int32) + -1 = 0 from by decide, Int32.add_zero]
def deepN (N : Nat → Int32) (i S : Nat) : Nat → Nat
  | 0 => 0
  | n + 1 => bif decide (fordL N i (Int32.ofNat (n + 1)) < loadN N (Int32.ofNat i) S) then deepN N i S n else n + 1
theorem wayN_at {g N : Nat → Int32} {m S j : Nat} (hS : S ≤ 16) (hm : m ≤ 6) (h : j < 8 ∨ 62 < j ∧ 190 < j) : ∀ st, wayN g m S N st j = N j := by
  intro st
  induction st with
  | zero => rfl
  | succ st ih =>
    have hl : ∀ k, k ≤ m → legN g st S (wayN g m S N st) k j = wayN g m S N st j := by
      intro k
      induction k with
      | zero => intro _; rfl
      | succ k ih2 =>
        intro hk
        rw [legN]
        cases decide (g k = 1) with
        | false => exact ih2 (by omega)
        | true => rw [cond_true, passN_at hS (by omega) (by omega)]; exact ih2 (by omega)
    rw [wayN, hl m (Nat.le_refl _), ih]
theorem tripsN_at {g N : Nat → Int32} {m S t j : Nat} (hS : S ≤ 16) (hm : m ≤ 6) (h : j < 6 ∨ 190 < j) : tripsN g N m S t j = N j := by
  rw [tripsN, endN, upd_ne (by omega), countN_at (by omega), payN_at (by omega) (by omega), delN_at (by omega) S hS, wayN_at hS hm (by omega)]
def asideM (M : mM) : mM := upM M 150 (copyF (M 150) 0 (M 149) 0 207)
def whatM (M : mM) (m S : Nat) : mM := upM (asideM M) 153 (gN (M 153) (M 149) S m)
def tripN (M : mM) (m S t : Nat) : Nat → Int32 := tripsN (gN (M 153) (M 149) S m) (M 149) m S t
theorem back_eq {M : mM} {m S t : Nat} (hS : S ≤ 16) (hm : m ≤ 6) : upM (upM (upM (asideM M) 153 (gN ((asideM M) 153) ((asideM M) 149) S m)) 149 (tripN M m S t)) 149 (copyF (tripN M m S t) 0 (copyF (M 150) 0 (M 149) 0 207) 0 207) = whatM M m S := by
  rw [upM_upM, show copyF (tripN M m S t) 0 (copyF (M 150) 0 (M 149) 0 207) 0 207 = M 149 from ?_]
  · show upM (whatM M m S) 149 (whatM M m S 149) = _
    rw [upM_self]
  · funext j
    rw [copyF]
    by_cases h : 0 ≤ j ∧ j < 0 + 207
    · rw [if_pos h, copyF, if_pos (by omega), show 0 + (0 + (j - 0) - 0) = j by omega]
    · rw [if_neg h, tripN, tripsN_at hS hm (by omega)]
theorem thr_eq {M : mM} {w : Int32} : thr M w = upM M 145 (upd (M 145) 3 w) := rfl
def mxB (a b : Int32) : Int32 := bif decide (b < a) then a else b
def dpF (O : Nat → Int32) (w : Nat) (v : Int32) (room u : Nat) : Nat → Int32 := fun j => if u ≤ j ∧ j ≤ room then mxB (O (j - w) + v) (O j) else O j
theorem dpF_0 {O : Nat → Int32} {w room : Nat} {v : Int32} : dpF O w v room (room + 1) = O := by
  funext j
  rw [dpF, if_neg (by omega)]
theorem dpF_s {O : Nat → Int32} {w room u : Nat} {v : Int32} (hw : 1 ≤ w) (hu : w ≤ u) (hr : u ≤ room) : upd (dpF O w v room (u + 1)) u (mxB (dpF O w v room (u + 1) (u - w) + v) (dpF O w v room (u + 1) u)) = dpF O w v room u := by
  funext j
  by_cases e : j = u
  · rw [e, upd_at, dpF, dpF, dpF, if_neg (by omega), if_neg (by omega), if_pos (by omega)]
  · rw [upd_ne e, dpF, dpF]
    by_cases h : u + 1 ≤ j ∧ j ≤ room
    · rw [if_pos h, if_pos (by omega)]
    · rw [if_neg h, if_neg (by omega)]
def zeroF (O : Nat → Int32) (n : Nat) : Nat → Int32 := fun j => if j < n then 0 else O j
theorem zeroF_0 {O : Nat → Int32} : zeroF O 0 = O := by
  funext j
  rw [zeroF, if_neg (by omega)]
theorem zeroF_s {O : Nat → Int32} {n : Nat} : upd (zeroF O n) n 0 = zeroF O (n + 1) := by
  funext j
  by_cases e : j = n
  · rw [e, upd_at, zeroF, if_pos (by omega)]
  · rw [upd_ne e, zeroF, zeroF]
    by_cases h : j < n
    · rw [if_pos h, if_pos (by omega)]
    · rw [if_neg h, if_neg (by omega)]
/-- the best worths behind the first k sacks -/
def dpN (N O : Nat → Int32) (room : Nat) : Nat → (Nat → Int32)
  | 0 => O
  | k + 1 => bif decide (N (63 + 8 * k + 3) = 0) && Nat.ble (N (63 + 8 * k + 1)).toNatClampNeg room then dpF (dpN N O room k) (N (63 + 8 * k + 1)).toNatClampNeg (N (63 + 8 * k + 2)) room (N (63 + 8 * k + 1)).toNatClampNeg else dpN N O room k
def weightOk (N : Nat → Int32) (S : Nat) : Prop := ∀ k, k < S → ∃ w : Nat, N (63 + 8 * k + 1) = Int32.ofNat w ∧ 1 ≤ w ∧ w ≤ 99
section MDL
variable {RO : List mE} {d sb : Nat} {ext : List sh} {M : mM} {Q : mQ}
theorem e_mule {m S : Nat} {v w : Int32} (hS : S ≤ 16) (hm : m ≤ 6) (hN : M 149 4 = Int32.ofNat S) (hN3 : M 149 3 = Int32.ofNat m)
    (hn : inB v 0 (M 149 3 - 1) = false → Q (.inl (some (.int 0))) (gW sb ext) (thr M 1) 0 0)
    (h0 : ∀ i, i < m → v = Int32.ofNat i → w = 0 → Q (.inl (some (.int (M 149 (15 + 8 * i))))) (gW sb ext) (thr M 0) 0 0)
    (h1 : ∀ i, i < m → v = Int32.ofNat i → w = 1 → Q (.inl (some (.int (M 149 (15 + 8 * i + 1))))) (gW sb ext) (thr M 0) 0 0)
    (h2 : ∀ i, i < m → v = Int32.ofNat i → w = 2 → Q (.inl (some (.int (bearN (M 149) i)))) (gW sb ext) (thr M 0) 0 0)
    (h3 : ∀ i, i < m → v = Int32.ofNat i → w = 3 → Q (.inl (some (.int (loadN (M 149) v S)))) (gW sb ext) (thr M 0) 0 0)
    (h4 : ∀ i, i < m → v = Int32.ofNat i → w = 4 → Q (.inl (some (.int (wOn (M 149) v 0 S)))) (gW sb ext) (thr M 0) 0 0)
    (h5 : ∀ i, i < m → v = Int32.ofNat i → w = 5 → Q (.inl (some (.int (wOn (M 149) v 1 S)))) (gW sb ext) (thr M 0) 0 0)
    (h6 : ∀ i, i < m → v = Int32.ofNat i → w = 6 → Q (.inl (some (.int (sOn (M 149) v S)))) (gW sb ext) (thr M 0) 0 0)
    (h7 : ∀ i, i < m → v = Int32.ofNat i → w = 7 → Q (.inl (some (.int (zb (!decide (M 149 0 < absB (wOn (M 149) v 0 S - wOn (M 149) v 1 S))))))) (gW sb ext) (thr M 0) 0 0)
    (h8 : ∀ i, i < m → v = Int32.ofNat i → w = 8 → Q (.inl (some (.int (vOn (M 149) v S)))) (gW sb ext) (thr M 0) 0 0)
    (h9 : ∀ i, i < m → v = Int32.ofNat i → w = 9 → Q (.inl (some (.int (Int32.ofNat (lettN (M 149) i))))) (gW sb ext) (thr M 0) 0 0)
    (hx : ∀ i, i < m → v = Int32.ofNat i → ¬ w = 0 → ¬ w = 1 → ¬ w = 2 → ¬ w = 3 → ¬ w = 4 → ¬ w = 5 → ¬ w = 6 → ¬ w = 7 → ¬ w = 8 → ¬ w = 9 → Q (.inl (some (.int 0))) (gW sb ext) (thr M 2) 0 0) :
    EvP RO (d + 6) 185 [.ref 145, .int v, .int w] (gW sb ext) M Q := by
  refine EvP.wp [] 60 rfl ?_
  refine e_isMule.use ?_
  refine zb_if (fun h => ?_) (fun h => ?_)
  · refine e_refuse.use ?_
    exact hn h
  obtain ⟨i, hi, e⟩ := inB_n (by omega) hN3 h
  subst e
  refine ⟨fun e0 => ?_, fun n0 => ⟨fun e1 => ?_, fun n1 => ⟨fun e2 => ?_, fun n2 => ⟨fun e3 => ?_, fun n3 => ⟨fun e4 => ?_, fun n4 => ⟨fun e5 => ?_, fun n5 => ⟨fun e6 => ?_, fun n6 => ⟨fun e7 => ?_, fun n7 => ⟨fun e8 => ?_, fun n8 => ⟨fun e9 => ?_, fun n9 => ?_⟩⟩⟩⟩⟩⟩⟩⟩⟩⟩
  · subst e0
    refine e_m.use ?_
    refine ⟨15 + 8 * i, i_add _ 0, by omega, ?_⟩
    refine e_told.use ?_
    exact h0 i hi rfl rfl
  · subst e1
    refine e_m.use ?_
    refine ⟨15 + 8 * i + 1, i_add _ 1, by omega, ?_⟩
    refine e_told.use ?_
    exact h1 i hi rfl rfl
  · refine (e_bears (by omega)).use ?_
    refine e_told.use ?_
    exact h2 i hi rfl e2
  · refine (e_loadOf hS hN).use ?_
    refine e_told.use ?_
    exact h3 i hi rfl e3
  · subst e4
    refine (e_weightOn hS hN).use ?_
    refine e_told.use ?_
    exact h4 i hi rfl rfl
  · subst e5
    refine (e_weightOn hS hN).use ?_
    refine e_told.use ?_
    exact h5 i hi rfl rfl
  · refine (e_sacksOn hS hN).use ?_
    refine e_told.use ?_
    exact h6 i hi rfl e6
  · have h7 := h7 i hi rfl e7
    refine (e_isLevel hS hN).use ?_
    refine zb_if (fun h => ?_) (fun h => ?_)
    · refine e_told.use ?_
      rw [h] at h7
      exact h7
    · refine e_told.use ?_
      rw [h] at h7
      exact h7
  · refine (e_worthOn hS hN).use ?_
    refine e_told.use ?_
    exact h8 i hi rfl e8
  · refine (e_lettersOf (by omega)).use ?_
    refine e_told.use ?_
    exact h9 i hi rfl e9
  · refine e_refuse.use ?_
    exact hx i hi rfl n0 n1 n2 n3 n4 n5 n6 n7 n8 n9
theorem e_deepest {m S : Nat} {v : Int32} (hS : S ≤ 16) (hm : m ≤ 6) (hN : M 149 4 = Int32.ofNat S) (hN3 : M 149 3 = Int32.ofNat m) (h0 : inB v 0 (M 149 3 - 1) = false → Q (.inl (some (.int 0))) (gW sb ext) (thr M 1) 0 0) (h1 : ∀ i, i < m → v = Int32.ofNat i → Q (.inl (some (.int (Int32.ofNat (deepN (M 149) i S 9))))) (gW sb ext) (thr M 0) 0 0) : EvP RO (d + 5) 145 [.ref 145, .int v] (gW sb ext) M Q := by
  refine EvP.wp [17] 40 rfl ?_
  refine e_isMule.use ?_
  refine zb_if (fun h => ?_) (fun h => ?_)
  · refine e_refuse.use ?_
    exact h0 h
  · obtain ⟨i, hi, e⟩ := inB_n (by omega) hN3 h
    subst e
    have hQ := h1 i hi rfl
    have key : ∀ n, n ≤ 9 → Q (.inl (some (.int (Int32.ofNat (deepN (M 149) i S n))))) (gW sb ext) (thr M 0) 0 0 → GoP RO (d + 4) 145 [.ref 145, .int (Int32.ofNat i), .int (Int32.ofNat n)] [] (gW sb ext) M 17 0 0 Q := by
      intro n
      induction n with
      | zero =>
        intro _ hQ
        refine wp_sound [17] 60 _ _ _ _ _ _ _ ?_
        refine ⟨fun h => absurd h (by decide), fun _ => ?_⟩
        refine e_told.use ?_
        exact hQ
      | succ n ih =>
        intro hn hQ
        refine wp_sound [17] 60 _ _ _ _ _ _ _ ?_
        refine lt_if (a := 0) rfl rfl (by omega) (by omega) (fun _ => ?_) (fun h => absurd h (by omega))
        refine (e_loadOf hS hN).use ?_
        refine (e_fordLimit (by omega)).use ?_
        rw [deepN] at hQ
        refine de_if (fun h1 => ?_) (fun h1 => ?_)
        · rw [h1] at hQ
          refine GoP.eq2 (ih (by omega) hQ) ?_ rfl
          rw [show Int32.ofNat (n + 1) + -1 = Int32.ofNat n from i_dec]
        · rw [h1] at hQ
          refine e_told.use ?_
          exact hQ
    exact key 9 (by omega) hQ
theorem e_tripBrings {m S t : Nat} (h : rowOk (M 149) m S t) (h0 : (packedI (M 149) S).isSome = false → Q (.inl (some (.int 0))) (gW sb ext) (thr M 0) 0 0) (h1 : (packedI (M 149) S).isSome = true → Q (.inl (some (.int (tripN M m S t 7 - M 149 7)))) (gW sb ext) (thr (whatM M m S) 0) 0 0) : EvP RO (d + 9) 229 [.ref 145] (gW sb ext) M Q := by
  have hm := h.2.2.2.1
  have hS := h.2.2.2.2.1
  refine EvP.wp [] 60 rfl ?_
  refine (e_isAnyPacked hS h.2.1).use ?_
  refine zb_if (fun h2 => ?_) (fun h2 => ?_)
  · refine e_told.use ?_
    exact h0 h2
  · refine e_putsAside.use ?_
    refine (e_trips (M := asideM M) (m := m) (S := S) (t := t) h).use ?_
    refine ⟨7, rfl, by omega, ?_⟩
    refine e_putsBack.use ?_
    refine ⟨7, rfl, by omega, ?_⟩
    refine e_told.use ?_
    refine Q_of (h1 h2) ?_ ?_
    · rfl
    · rw [← back_eq (t := t) hS hm]; rfl
theorem e_tiredBy {m S t : Nat} {v : Int32} (h : rowOk (M 149) m S t) (h0 : inB v 0 (M 149 3 - 1) = false → Q (.inl (some (.int 0))) (gW sb ext) (thr M 1) 0 0) (h1 : ∀ i, i < m → v = Int32.ofNat i → Q (.inl (some (.int (tripN M m S t (15 + 8 * i + 1))))) (gW sb ext) (thr (whatM M m S) 0) 0 0) : EvP RO (d + 9) 225 [.ref 145, .int v] (gW sb ext) M Q := by
  have hm := h.2.2.2.1
  have hS := h.2.2.2.2.1
  refine EvP.wp [] 60 rfl ?_
  refine e_isMule.use ?_
  refine zb_if (fun h2 => ?_) (fun h2 => ?_)
  · refine e_refuse.use ?_
    exact h0 h2
  · obtain ⟨i, hi, e⟩ := inB_n (by omega) h.1 h2
    subst e
    refine e_putsAside.use ?_
    refine (e_trips (M := asideM M) (m := m) (S := S) (t := t) h).use ?_
    refine e_m.use ?_
    refine ⟨15 + 8 * i + 1, i_add _ 1, by omega, ?_⟩
    refine e_putsBack.use ?_
    refine e_told.use ?_
    refine Q_of (h1 i hi rfl) ?_ ?_
    · rfl
    · rw [← back_eq (t := t) hS hm]; rfl
theorem e_fate {m S t : Nat} {v : Int32} (h : rowOk (M 149) m S t) (h0 : inB v 0 (M 149 4 - 1) = false → Q (.inl (some (.int 0))) (gW sb ext) (thr M 1) 0 0) (h1 : ∀ i, i < S → v = Int32.ofNat i → ¬ M 149 (63 + 8 * i + 3) = 1 → Q (.inl (some (.int 0))) (gW sb ext) (thr M 0) 0 0) (h2 : ∀ i, i < S → v = Int32.ofNat i → M 149 (63 + 8 * i + 3) = 1 → Q (.inl (some (.int (bif decide (tripN M m S t (63 + 8 * i + 3) = 3) then 3 else bif decide (tripN M m S t (63 + 8 * i + 2) < M 149 (63 + 8 * i + 2)) then 2 else 1)))) (gW sb ext) (thr (whatM M m S) 0) 0 0) : EvP RO (d + 9) 151 [.ref 145, .int v] (gW sb ext) M Q := by
  have hm := h.2.2.2.1
  have hS := h.2.2.2.2.1
  refine EvP.wp [] 60 rfl ?_
  refine e_isSack.use ?_
  refine zb_if (fun h3 => ?_) (fun h3 => ?_)
  · refine e_refuse.use ?_
    exact h0 h3
  · obtain ⟨i, hi, e⟩ := inB_n (by omega) h.2.1 h3
    subst e
    refine (e_isPacked (by omega)).use ?_
    refine zb_if (fun h4 => ?_) (fun h4 => ?_)
    · refine e_told.use ?_
      exact h1 i hi rfl (of_decide_eq_false h4)
    · have hQ := h2 i hi rfl (of_decide_eq_true h4)
      refine e_putsAside.use ?_
      refine (e_trips (M := asideM M) (m := m) (S := S) (t := t) h).use ?_
      refine e_s.use ?_
      refine ⟨63 + 8 * i + 3, i_add _ 3, by omega, ?_⟩
      refine (e_worthOf (by omega)).use ?_
      refine e_putsBack.use ?_
      refine de_if (fun h5 => ?_) (fun h5 => ?_)
      · refine e_told.use ?_
        rw [show decide (tripN M m S t (63 + 8 * i + 3) = 3) = true from h5] at hQ
        refine Q_of hQ rfl ?_
        rw [← back_eq (t := t) hS hm]; rfl
      · rw [show decide (tripN M m S t (63 + 8 * i + 3) = 3) = false from h5] at hQ
        refine (e_worthOf (by omega)).use ?_
        have e9 : (copyF (tripN M m S t) 0 (copyF (M 150) 0 (M 149) 0 207) 0 207) (63 + 8 * i + 2) = M 149 (63 + 8 * i + 2) := by
          rw [copyF, if_pos (by omega), copyF, if_pos (by omega)]
          congr 1; omega
        refine de_if (fun h6 => ?_) (fun h6 => ?_)
        · rw [← e9, show decide (tripN M m S t (63 + 8 * i + 2) < (copyF (tripN M m S t) 0 (copyF (M 150) 0 (M 149) 0 207) 0 207) (63 + 8 * i + 2)) = true from h6] at hQ
          refine e_told.use ?_
          refine Q_of hQ rfl ?_
          rw [← back_eq (t := t) hS hm]; rfl
        · rw [← e9, show decide (tripN M m S t (63 + 8 * i + 2) < (copyF (tripN M m S t) 0 (copyF (M 150) 0 (M 149) 0 207) 0 207) (63 + 8 * i + 2)) = false from h6] at hQ
          refine e_told.use ?_
          refine Q_of hQ rfl ?_
          rw [← back_eq (t := t) hS hm]; rfl
theorem e_outputByte {n : Nat} {v : Int32} (hn : n ≤ 120) (hN : M 145 15 = Int32.ofNat n) (h0 : inB v 0 (M 145 15 - 1) = false → Q (.inl (some (.int 0))) (gW sb ext) (thr M 1) 0 0) (h1 : ∀ i, i < n → v = Int32.ofNat i → Q (.inl (some (.int (M 156 i)))) (gW sb ext) (thr M 0) 0 0) : EvP RO (d + 2) 189 [.ref 145, .int v] (gW sb ext) M Q := by
  refine EvP.wp [] 40 rfl ?_
  refine e_in.use ?_
  refine zb_if (fun h => ?_) (fun h => ?_)
  · refine e_refuse.use ?_
    exact h0 h
  · obtain ⟨i, hi, e⟩ := inB_n (by omega) hN h
    subst e
    refine ⟨i, rfl, by omega, ?_⟩
    refine e_told.use ?_
    exact h1 i hi rfl
end MDL
