/-! what the model answers -/
theorem inB_no {v lo hi : Int32} (h : inB v lo hi = false) : v < lo ∨ hi < v := by
  rw [inB] at h
  by_cases h1 : v < lo
  · exact Or.inl h1
  · by_cases h2 : hi < v
    · exact Or.inr h2
    · simp [h1, h2] at h
theorem inB_yes {v lo hi : Int32} (h : inB v lo hi = true) : ¬ v < lo ∧ ¬ hi < v := by
  rw [inB, Bool.and_eq_true] at h
  exact ⟨of_decide_eq_true h.1, of_decide_eq_true h.2⟩
theorem i_of {v : Int32} {n : Nat} (h0 : ¬ v < 0) (h1 : v.toInt < n) : ∃ i, i < n ∧ v = Int32.ofNat i := by
  rw [Int32.lt_iff_toInt_lt, show (0 : Int32).toInt = 0 from rfl] at h0
  refine ⟨v.toInt.toNat, by omega, ?_⟩
  apply Int32.toInt_inj.mp
  have := Int32.toInt_lt v
  rw [Int32.toInt_ofNat_of_lt (by omega)]
  omega
theorem inB_c {v : Int32} {n : Nat} (hn : n < 1000000) (h : inB v 0 (Int32.ofNat n) = true) : ∃ i, i < n + 1 ∧ v = Int32.ofNat i := by
  obtain ⟨h0, h1⟩ := inB_yes h
  refine i_of h0 ?_
  rw [Int32.lt_iff_toInt_lt, i_toInt hn] at h1
  omega
theorem inB_n {v x : Int32} {n : Nat} (hn : n < 1000000) (hx : x = Int32.ofNat n) (h : inB v 0 (x - 1) = true) : ∃ i, i < n ∧ v = Int32.ofNat i := by
  obtain ⟨h0, h1⟩ := inB_yes h
  by_cases e : n = 0
  · subst e
    rw [hx] at h1
    rw [Int32.lt_iff_toInt_lt, show (0 : Int32).toInt = 0 from rfl] at h0
    rw [Int32.lt_iff_toInt_lt, show (Int32.ofNat 0 - 1 : Int32).toInt = -1 from by decide] at h1
    omega
  · refine i_of h0 ?_
    rw [hx, show (1 : Int32) = Int32.ofNat 1 from rfl, i_sub (by omega), Int32.lt_iff_toInt_lt, i_toInt (by omega)] at h1
    omega
theorem inB_in {v x : Int32} {n i : Nat} (hn : n < 1000000) (hx : x = Int32.ofNat n) (hi : i < n) (hv : v = Int32.ofNat i) : inB v 0 (x - 1) = true := by
  subst hv
  rw [inB, hx, show (1 : Int32) = Int32.ofNat 1 from rfl, i_sub (by omega), Bool.and_eq_true]
  refine ⟨decide_eq_true (i_nonneg (by omega)), decide_eq_true ?_⟩
  rw [i_lt (by omega) (by omega)]
  omega
section MDL
variable {RO : List mE} {d sb : Nat} {ext : List sh} {M : mM} {Q : mQ}
theorem e_value {m S t c : Nat} {v : Int32} (h : rowOk (M 149) m S t) (hc : M 145 7 = Int32.ofNat c)
    (h0 : v = 0 → Q (.inl (some (.int (Int32.ofNat m)))) (gW sb ext) (thr M 0) 0 0)
    (h1 : v = 1 → Q (.inl (some (.int (Int32.ofNat S)))) (gW sb ext) (thr M 0) 0 0)
    (h2 : v = 2 ∨ v = 3 ∨ v = 4 ∨ v = 5 → Q (.inl (some (.int (placeN (M 149) (v - 2) S)))) (gW sb ext) (thr M 0) 0 0)
    (h6 : v = 6 → Q (.inl (some (.int (Int32.ofNat t)))) (gW sb ext) (thr M 0) 0 0)
    (h7 : v = 7 → Q (.inl (some (.int (M 149 6)))) (gW sb ext) (thr M 0) 0 0)
    (h8 : v = 8 → Q (.inl (some (.int (M 149 7)))) (gW sb ext) (thr M 0) 0 0)
    (h9 : v = 9 → Q (.inl (some (.int (milesN (M 149) t)))) (gW sb ext) (thr M 0) 0 0)
    (h10 : v = 10 → Q (.inl (some (.int (Int32.ofNat c)))) (gW sb ext) (thr M 0) 0 0)
    (hx : ¬ v = 0 → ¬ v = 1 → ¬ v = 2 → ¬ v = 3 → ¬ v = 4 → ¬ v = 5 → ¬ v = 6 → ¬ v = 7 → ¬ v = 8 → ¬ v = 9 → ¬ v = 10 → Q (.inl (some (.int 0))) (gW sb ext) (thr M 1) 0 0) :
    EvP RO (d + 3) 234 [.ref 145, .int v] (gW sb ext) M Q := by
  have hS := h.2.2.2.2.1
  have ht := h.2.2.2.2.2.1
  refine EvP.wp [] 40 rfl ?_
  refine ⟨fun e0 => ?_, fun n0 => ⟨fun e1 => ?_, fun n1 => ⟨fun e2 => ?_, fun n2 => ⟨fun e3 => ?_, fun n3 => ⟨fun e4 => ?_, fun n4 => ⟨fun e5 => ?_, fun n5 => ⟨fun e6 => ?_, fun n6 => ⟨fun e7 => ?_, fun n7 => ⟨fun e8 => ?_, fun n8 => ⟨fun e9 => ?_, fun n9 => ⟨fun e10 => ?_, fun n10 => ?_⟩⟩⟩⟩⟩⟩⟩⟩⟩⟩⟩
  · refine ⟨3, rfl, by omega, ?_⟩
    refine e_told.use ?_
    have := h0 e0
    rw [← h.1] at this
    exact this
  · refine ⟨4, rfl, by omega, ?_⟩
    refine e_told.use ?_
    have := h1 e1
    rw [← h.2.1] at this
    exact this
  · refine (e_atPlace hS h.2.1).use ?_
    refine e_told.use ?_
    exact h2 (Or.inl e2)
  · refine (e_atPlace hS h.2.1).use ?_
    refine e_told.use ?_
    exact h2 (Or.inr (Or.inl e3))
  · refine (e_atPlace hS h.2.1).use ?_
    refine e_told.use ?_
    exact h2 (Or.inr (Or.inr (Or.inl e4)))
  · refine (e_atPlace hS h.2.1).use ?_
    refine e_told.use ?_
    exact h2 (Or.inr (Or.inr (Or.inr e5)))
  · refine ⟨5, rfl, by omega, ?_⟩
    refine e_told.use ?_
    have := h6 e6
    rw [← h.2.2.1] at this
    exact this
  · refine ⟨6, rfl, by omega, ?_⟩
    refine e_told.use ?_
    exact h7 e7
  · refine ⟨7, rfl, by omega, ?_⟩
    refine e_told.use ?_
    exact h8 e8
  · refine (e_milesAll ht h.2.2.1).use ?_
    refine e_told.use ?_
    exact h9 e9
  · refine e_told.use ?_
    have := h10 e10
    rw [← hc] at this
    exact this
  · refine e_refuse.use ?_
    exact hx n0 n1 n2 n3 n4 n5 n6 n7 n8 n9 n10
theorem e_setting {v : Int32} (h0 : inB v 0 2 = false → Q (.inl (some (.int 0))) (gW sb ext) (thr M 1) 0 0) (h1 : ∀ i, i < 3 → v = Int32.ofNat i → Q (.inl (some (.int (M 149 i)))) (gW sb ext) (thr M 0) 0 0) : EvP RO (d + 2) 216 [.ref 145, .int v] (gW sb ext) M Q := by
  refine EvP.wp [] 40 rfl ?_
  refine e_in.use ?_
  refine zb_if (fun h => ?_) (fun h => ?_)
  · refine e_refuse.use ?_
    exact h0 h
  · obtain ⟨i, hi, e⟩ := inB_c (n := 2) (by omega) h
    refine ⟨i, e, by omega, ?_⟩
    refine e_told.use ?_
    exact h1 i hi e
theorem e_count {v : Int32} (h0 : inB v 0 6 = false → Q (.inl (some (.int 0))) (gW sb ext) (thr M 1) 0 0) (h1 : ∀ i, i < 7 → v = Int32.ofNat i → Q (.inl (some (.int (M 149 (8 + i))))) (gW sb ext) (thr M 0) 0 0) : EvP RO (d + 2) 143 [.ref 145, .int v] (gW sb ext) M Q := by
  refine EvP.wp [] 40 rfl ?_
  refine e_in.use ?_
  refine zb_if (fun h => ?_) (fun h => ?_)
  · refine e_refuse.use ?_
    exact h0 h
  · obtain ⟨i, hi, e⟩ := inB_c (n := 6) (by omega) h
    subst e
    refine ⟨8 + i, i_add 8 i, by omega, ?_⟩
    refine e_told.use ?_
    exact h1 i hi rfl
theorem e_sack {S : Nat} {v w : Int32} (hS : S ≤ 16) (hN : M 149 4 = Int32.ofNat S) (h0 : inB v 0 (M 149 4 - 1) = false → Q (.inl (some (.int 0))) (gW sb ext) (thr M 1) 0 0) (h1 : ∀ i, i < S → v = Int32.ofNat i → inB w 0 7 = false → Q (.inl (some (.int 0))) (gW sb ext) (thr M 2) 0 0) (h2 : ∀ i j, i < S → v = Int32.ofNat i → j < 8 → w = Int32.ofNat j → Q (.inl (some (.int (M 149 (63 + 8 * i + j))))) (gW sb ext) (thr M 0) 0 0) : EvP RO (d + 3) 212 [.ref 145, .int v, .int w] (gW sb ext) M Q := by
  refine EvP.wp [] 40 rfl ?_
  refine e_isSack.use ?_
  refine zb_if (fun h => ?_) (fun h => ?_)
  · refine e_refuse.use ?_
    exact h0 h
  · obtain ⟨i, hi, e⟩ := inB_n (by omega) hN h
    subst e
    refine e_in.use ?_
    refine zb_if (fun h3 => ?_) (fun h3 => ?_)
    · refine e_refuse.use ?_
      exact h1 i hi rfl h3
    · obtain ⟨j, hj, e⟩ := inB_c (n := 7) (by omega) h3
      subst e
      refine e_s.use ?_
      refine ⟨63 + 8 * i + j, i_add _ j, by omega, ?_⟩
      refine e_told.use ?_
      exact h2 i j hi rfl hj rfl
theorem e_stage {t : Nat} {v w : Int32} (ht : t ≤ 8) (hN : M 149 5 = Int32.ofNat t) (h0 : inB v 0 (M 149 5 - 1) = false → Q (.inl (some (.int 0))) (gW sb ext) (thr M 1) 0 0) (h1 : ∀ i, i < t → v = Int32.ofNat i → inB w 0 1 = false → Q (.inl (some (.int 0))) (gW sb ext) (thr M 2) 0 0) (h2 : ∀ i j, i < t → v = Int32.ofNat i → j < 2 → w = Int32.ofNat j → Q (.inl (some (.int (M 149 (191 + 2 * i + j))))) (gW sb ext) (thr M 0) 0 0) : EvP RO (d + 3) 219 [.ref 145, .int v, .int w] (gW sb ext) M Q := by
  refine EvP.wp [] 40 rfl ?_
  refine e_isStage.use ?_
  refine zb_if (fun h => ?_) (fun h => ?_)
  · refine e_refuse.use ?_
    exact h0 h
  · obtain ⟨i, hi, e⟩ := inB_n (by omega) hN h
    subst e
    refine e_in.use ?_
    refine zb_if (fun h3 => ?_) (fun h3 => ?_)
    · refine e_refuse.use ?_
      exact h1 i hi rfl h3
    · obtain ⟨j, hj, e⟩ := inB_c (n := 1) (by omega) h3
      subst e
      refine e_t.use ?_
      refine ⟨191 + 2 * i + j, i_add _ j, by omega, ?_⟩
      refine e_told.use ?_
      exact h2 i j hi rfl hj rfl
theorem e_nameByte {m : Nat} {v w : Int32} (hm : m ≤ 6) (hN : M 149 3 = Int32.ofNat m) (h0 : inB v 0 (M 149 3 - 1) = false → Q (.inl (some (.int 0))) (gW sb ext) (thr M 1) 0 0) (h1 : ∀ i, i < m → v = Int32.ofNat i → inB w 0 (Int32.ofNat (lettN (M 149) i) - 1) = false → Q (.inl (some (.int (-1)))) (gW sb ext) (thr M 0) 0 0) (h2 : ∀ i j, i < m → v = Int32.ofNat i → j < lettN (M 149) i → w = Int32.ofNat j → Q (.inl (some (.int (M 149 (15 + 8 * i + 2 + j))))) (gW sb ext) (thr M 0) 0 0) : EvP RO (d + 3) 187 [.ref 145, .int v, .int w] (gW sb ext) M Q := by
  refine EvP.wp [] 60 rfl ?_
  refine e_isMule.use ?_
  refine zb_if (fun h => ?_) (fun h => ?_)
  · refine e_refuse.use ?_
    exact h0 h
  · obtain ⟨i, hi, e⟩ := inB_n (by omega) hN h
    subst e
    refine (e_lettersOf (by omega)).use ?_
    refine e_in.use ?_
    have hl := lettN_le (N := M 149) (i := i)
    refine zb_if (fun h3 => ?_) (fun h3 => ?_)
    · refine e_told.use ?_
      exact h1 i hi rfl h3
    · obtain ⟨j, hj, e⟩ := inB_n (by omega) rfl h3
      subst e
      refine e_m.use ?_
      refine ⟨15 + 8 * i + 2 + j, ?_, by omega, ?_⟩
      · show Int32.ofNat (15 + 8 * i) + Int32.ofNat 2 + Int32.ofNat j = _
        rw [i_add, i_add]
      refine e_told.use ?_
      exact h2 i j hi rfl hj rfl
theorem e_whyNot {m S : Nat} {v w : Int32} (hS : S ≤ 16) (hm : m ≤ 6) (hN : M 149 4 = Int32.ofNat S) (hN3 : M 149 3 = Int32.ofNat m) (h0 : inB v 0 (M 149 4 - 1) = false ∨ inB w 0 (M 149 3 - 1) = false → Q (.inl (some (.int 0))) (gW sb ext) (thr M 1) 0 0) (h1 : ∀ k i, k < S → v = Int32.ofNat k → i < m → w = Int32.ofNat i → Q (.inl (some (.int (prN (M 149) k i S)))) (gW sb ext) (thr M 0) 0 0) : EvP RO (d + 6) 240 [.ref 145, .int v, .int w] (gW sb ext) M Q := by
  refine EvP.wp [] 40 rfl ?_
  refine e_isSack.use ?_
  refine zb_if (fun h => ?_) (fun h => ?_)
  · refine e_refuse.use ?_
    exact h0 (Or.inl h)
  · obtain ⟨k, hk, e⟩ := inB_n (by omega) hN h
    subst e
    refine e_isMule.use ?_
    refine zb_if (fun h3 => ?_) (fun h3 => ?_)
    · refine e_refuse.use ?_
      exact h0 (Or.inr h3)
    · obtain ⟨i, hi, e⟩ := inB_n (by omega) hN3 h3
      subst e
      refine (e_packReason hS hN (by omega) (by omega)).use ?_
      refine e_told.use ?_
      exact h1 k i hk rfl hi rfl
theorem e_whyNoTrip {m S : Nat} {v : Int32} (hS : S ≤ 16) (hm : m ≤ 6) (hN : M 149 4 = Int32.ofNat S) (hN3 : M 149 3 = Int32.ofNat m) (h0 : inB v 0 1 = false → Q (.inl (some (.int 0))) (gW sb ext) (thr M 1) 0 0) (h1 : v = 0 → Q (.inl (some (.int (whyN (M 149) m S)))) (gW sb ext) (thr M 0) 0 0) (h2 : v = 1 → Q (.inl (some (.int (bif decide (whyN (M 149) m S = 2) then enc (tiltedI (M 149) S m) else -1)))) (gW sb ext) (thr M 0) 0 0) : EvP RO (d + 8) 239 [.ref 145, .int v] (gW sb ext) M Q := by
  refine EvP.wp [] 60 rfl ?_
  refine e_in.use ?_
  refine zb_if (fun h => ?_) (fun h => ?_)
  · refine e_refuse.use ?_
    exact h0 h
  · obtain ⟨i, hi, e⟩ := inB_c (n := 1) (by omega) h
    refine (e_tripReason hS hm hN hN3).use ?_
    refine ⟨fun h3 => ?_, fun h3 => ?_⟩
    · refine e_told.use ?_
      exact h1 h3
    · have hv : v = 1 := by
        rcases (show i = 0 ∨ i = 1 by omega) with rfl | rfl
        · exact absurd e h3
        · exact e
      have h2 := h2 hv
      refine de_if (fun h4 => ?_) (fun h4 => ?_)
      · refine (e_firstTilted hS hm hN hN3).use ?_
        refine e_told.use ?_
        rw [h4] at h2
        exact h2
      · refine e_told.use ?_
        rw [h4] at h2
        exact h2
theorem e_bestSack {m S : Nat} {v : Int32} (hS : S ≤ 16) (hm : m ≤ 6) (hN : M 149 4 = Int32.ofNat S) (hN3 : M 149 3 = Int32.ofNat m) (h0 : inB v 0 (M 149 3 - 1) = false → Q (.inl (some (.int 0))) (gW sb ext) (thr M 1) 0 0) (h1 : ∀ i, i < m → v = Int32.ofNat i → Q (.inl (some (.int (enc (bestI (M 149) i S S))))) (gW sb ext) (thr M 0) 0 0) : EvP RO (d + 7) 139 [.ref 145, .int v] (gW sb ext) M Q := by
  refine EvP.wp [] 40 rfl ?_
  refine e_isMule.use ?_
  refine zb_if (fun h => ?_) (fun h => ?_)
  · refine e_refuse.use ?_
    exact h0 h
  · obtain ⟨i, hi, e⟩ := inB_n (by omega) hN3 h
    subst e
    refine (e_bestFor hS (by omega) hN).use ?_
    refine e_told.use ?_
    exact h1 i hi rfl
theorem e_lighter {m S : Nat} {v : Int32} (hS : S ≤ 16) (hm : m ≤ 6) (hN : M 149 4 = Int32.ofNat S) (hN3 : M 149 3 = Int32.ofNat m) (h0 : inB v 0 (M 149 3 - 1) = false → Q (.inl (some (.int 0))) (gW sb ext) (thr M 1) 0 0) (h1 : ∀ i, i < m → v = Int32.ofNat i → Q (.inl (some (.int (lightN (M 149) (Int32.ofNat i) S)))) (gW sb ext) (thr M 0) 0 0) : EvP RO (d + 5) 179 [.ref 145, .int v] (gW sb ext) M Q := by
  refine EvP.wp [] 40 rfl ?_
  refine e_isMule.use ?_
  refine zb_if (fun h => ?_) (fun h => ?_)
  · refine e_refuse.use ?_
    exact h0 h
  · obtain ⟨i, hi, e⟩ := inB_n (by omega) hN3 h
    subst e
    refine (e_lighterOf hS hN).use ?_
    refine e_told.use ?_
    exact h1 i hi rfl
def freshN (N : Nat → Int32) (i : Nat) : Int32 := bif decide (N (15 + 8 * i + 1) = 0) then 0 else bif decide (N 1 = 0) then -1 else (N (15 + 8 * i + 1) + N 1 - 1) / N 1
theorem e_freshIn {m : Nat} {v : Int32} (hm : m ≤ 6) (hN3 : M 149 3 = Int32.ofNat m) (h0 : inB v 0 (M 149 3 - 1) = false → Q (.inl (some (.int 0))) (gW sb ext) (thr M 1) 0 0) (h1 : ∀ i, i < m → v = Int32.ofNat i → Q (.inl (some (.int (freshN (M 149) i)))) (gW sb ext) (thr M 0) 0 0) : EvP RO (d + 3) 159 [.ref 145, .int v] (gW sb ext) M Q := by
  refine EvP.wp [] 60 rfl ?_
  refine e_isMule.use ?_
  refine zb_if (fun h => ?_) (fun h => ?_)
  · refine e_refuse.use ?_
    exact h0 h
  · obtain ⟨i, hi, e⟩ := inB_n (by omega) hN3 h
    subst e
    have h1 := h1 i hi rfl
    rw [freshN] at h1
    refine e_m.use ?_
    refine ⟨15 + 8 * i + 1, i_add _ 1, by omega, ?_⟩
    refine de_if (fun h2 => ?_) (fun h2 => ?_)
    · rw [show decide (M 149 (15 + 8 * i + 1) = 0) = true from h2] at h1
      refine ⟨fun _ => ?_, fun h3 => absurd (of_decide_eq_true h2) h3⟩
      refine e_told.use ?_
      exact h1
    · rw [show decide (M 149 (15 + 8 * i + 1) = 0) = false from h2] at h1
      refine ⟨1, rfl, by omega, ?_⟩
      refine de_if (fun h3 => ?_) (fun h3 => ?_)
      · rw [show decide (M 149 1 = 0) = true from h3] at h1
        refine ⟨fun h4 => absurd h4 (of_decide_eq_false h2), fun _ => ?_⟩
        refine e_told.use ?_
        exact h1
      · rw [show decide (M 149 1 = 0) = false from h3] at h1
        refine ⟨1, rfl, by omega, ?_⟩
        refine ⟨1, rfl, by omega, ?_⟩
        refine ⟨of_decide_eq_false h3, ?_⟩
        refine e_told.use ?_
        exact h1
end MDL
