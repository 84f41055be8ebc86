/-! the mule of a name -/
def nmEq (B : Nat → Nat) (s p : Nat) (N : Nat → Int32) (i : Nat) : Bool := Nat.beq (lettN N i) (p - s) && (List.range (p - s)).all (fun j => decide (N (15 + 8 * i + 2 + j) = Int32.ofNat (B (s + j))))
theorem nmEq_on {B : Nat → Nat} {s p i : Nat} {N : Nat → Int32} (h1 : lettN N i = p - s) (h2 : ∀ j, j < p - s → N (15 + 8 * i + 2 + j) = Int32.ofNat (B (s + j))) : nmEq B s p N i = true := by
  rw [nmEq, h1, Nat.beq_refl, Bool.true_and]
  exact List.all_eq_true.mpr (fun j hj => decide_eq_true (h2 j (List.mem_range.mp hj)))
theorem nmEq_len {B : Nat → Nat} {s p i : Nat} {N : Nat → Int32} (h : ¬ lettN N i = p - s) : nmEq B s p N i = false := by
  rw [nmEq, nbf h]; rfl
theorem nmEq_off {B : Nat → Nat} {s p i j : Nat} {N : Nat → Int32} (hj : j < p - s) (h : ¬ N (15 + 8 * i + 2 + j) = Int32.ofNat (B (s + j))) : nmEq B s p N i = false := by
  rw [nmEq]
  cases h9 : (List.range (p - s)).all (fun j => decide (N (15 + 8 * i + 2 + j) = Int32.ofNat (B (s + j)))) with
  | false => rw [Bool.and_false]
  | true => exact absurd (of_decide_eq_true (List.all_eq_true.mp h9 j (List.mem_range.mpr hj))) h
theorem nmEq_yes {B : Nat → Nat} {s p i : Nat} {N : Nat → Int32} (h : nmEq B s p N i = true) : lettN N i = p - s ∧ ∀ j, j < p - s → N (15 + 8 * i + 2 + j) = Int32.ofNat (B (s + j)) := by
  rw [nmEq, Bool.and_eq_true] at h
  exact ⟨Nat.eq_of_beq_eq_true h.1, fun j hj => of_decide_eq_true (List.all_eq_true.mp h.2 j (List.mem_range.mpr hj))⟩
/-- the first mule of this name, or m -/
def mulIx (B : Nat → Nat) (s p : Nat) (N : Nat → Int32) (m : Nat) : Nat := rt (fun i => !nmEq B s p N i) m 0
def mulV (B : Nat → Nat) (s p : Nat) (N : Nat → Int32) (m : Nat) : Int32 := if mulIx B s p N m < m then Int32.ofNat (mulIx B s p N m) else -1
section MULE
variable {RO : List mE} {d n m S t : Nat} {GG : List sh} {M : mM} {Q : mQ} {B : Nat → Nat} {N : Nat → Int32}
theorem c_isNameOf {s p i : Nat} (hG0 : pw GG) (hP : PC M n B) (hT : TrN M 3 N m S t) (hi : i < m) (h5 : M 1 5 = Int32.ofNat s) (h4 : M 1 4 = Int32.ofNat p) (sp : s ≤ p) (pn : p ≤ n) : EvR RO (d + 3) 9 [.ref 1, .int (Int32.ofNat i)] GG M (some (.int (zb (nmEq B s p N i)))) M := by
  obtain ⟨c9, r9, rfl⟩ := hG0
  have hG : pw (gX c9 r9) := pw_X
  have hn := hP.1
  have hL := lettN_le (N := N) (i := i)
  refine EvR.of (fun Q hQ => ?_)
  have yes : nmEq B s p N i = true → Q (.inl (some (.int 1))) (gX c9 r9) M 0 0 := fun h => by rw [h] at hQ; exact hQ
  have no : nmEq B s p N i = false → Q (.inl (some (.int 0))) (gX c9 r9) M 0 0 := fun h => by rw [h] at hQ; exact hQ
  clear hQ
  have hlen : M 1 4 - M 1 5 = Int32.ofNat (p - s) := by rw [h4, h5, i_sub sp]
  obtain ⟨-, -, k2, -⟩ := hT.2.2.2.2.2.2.2.2.1 i hi
  have at2 := fun d => c_atM (RO := RO) (d := d) (GG := gX c9 r9) (c := 2) bas_X hT hi (by omega)
  simp only [k2] at at2
  have loop : lettN N i = p - s → GoP RO (d + 2) 9 [.ref 1, .int (Int32.ofNat i), .int (Int32.ofNat 0)] [] (gX c9 r9) M 28 0 0 Q := fun hl => by
    have key := up_ind (S := p - s) (H := fun j => (∀ x, x < j → N (15 + 8 * i + 2 + x) = Int32.ofNat (B (s + x))) → GoP RO (d + 2) 9 [.ref 1, .int (Int32.ofNat i), .int (Int32.ofNat j)] [] (gX c9 r9) M 28 0 0 Q) (fun hall => ?_) (fun j hj ih hall => ?_) 0 (by omega)
    · exact key (fun x hx => absurd hx (by omega))
    · refine wp_sound [28] 60 _ _ _ _ _ _ _ ?_
      refine lt_if rfl hlen (by omega) (by omega) (fun h => absurd h (by omega)) (fun _ => ?_)
      exact ⟨by decide +kernel, yes (nmEq_on hl hall)⟩
    · have hle := fun d => c_letterOf (RO := RO) (d := d) (GG := gX c9 r9) (v := Int32.ofNat j) bas_X hT hi
      have hlb : letB N i (Int32.ofNat j) = N (15 + 8 * i + 2 + j) := by
        rw [letB, inB_in (x := Int32.ofNat (lettN N i)) (by omega) rfl (by omega : j < lettN N i) rfl, cond_true, clamp_nn (by omega)]
      simp only [hlb] at hle
      have hb : ∀ d, EvR RO (d + 1) 5 [.ref 1, .int (M 1 5 + Int32.ofNat j)] (gX c9 r9) M (some (.int (Int32.ofNat (B (s + j))))) M := fun d => by
        have h9 := c_byteAt (RO := RO) (d := d) (j := s + j) hG hP (by omega)
        rw [bA_in (by omega)] at h9
        rw [h5, i_add]
        exact h9
      refine wp_sound [28] 60 _ _ _ _ _ _ _ ?_
      refine lt_if rfl hlen (by omega) (by omega) (fun _ => ?_) (fun h => absurd h (by omega))
      refine (hle _).use ?_
      refine (hb _).use ?_
      refine ⟨fun h => ?_, fun h => ?_⟩
      · refine GoP.eq2 (ih (fun x hx => ?_)) (by rw [i_inc]) rfl
        by_cases e : x = j
        · rw [e]; exact h
        · exact hall x (by omega)
      · exact ⟨by decide +kernel, no (nmEq_off hj h)⟩
  refine EvP.wp [28] 60 rfl ?_
  refine (at2 _).use ?_
  refine eq_if rfl hlen (by omega) (by omega) (fun h => ?_) (fun h => ?_)
  · exact loop h
  · exact ⟨by decide +kernel, no (nmEq_len h)⟩
theorem mulV_at {s p i : Nat} (hi : i < m) (hb : ∀ j, j < i → nmEq B s p N j = false) (h : nmEq B s p N i = true) : mulV B s p N m = Int32.ofNat i := by
  have key : ∀ k, k ≤ i → rt (fun i => !nmEq B s p N i) m k = i := up_ind (rt_stop (Or.inr (by rw [h]; rfl))) (fun k hk ih => by rw [rt_step (by omega) (by rw [hb k hk]; rfl), ih])
  have h9 : mulIx B s p N m = i := key 0 (by omega)
  rw [mulV, h9, if_pos hi]
theorem mulV_no {s p : Nat} (hb : ∀ j, j < m → nmEq B s p N j = false) : mulV B s p N m = -1 := by
  have key : ∀ k, k ≤ m → rt (fun i => !nmEq B s p N i) m k = m := up_ind (rt_stop (Or.inl (Nat.le_refl _))) (fun k hk ih => by rw [rt_step hk (by rw [hb k hk]; rfl), ih])
  have h9 : mulIx B s p N m = m := key 0 (by omega)
  rw [mulV, h9, if_neg (by omega)]
theorem c_muleOfName {s p : Nat} (hG0 : pw GG) (hP : PC M n B) (hT : TrN M 3 N m S t) (h5 : M 1 5 = Int32.ofNat s) (h4 : M 1 4 = Int32.ofNat p) (sp : s ≤ p) (pn : p ≤ n) : EvR RO (d + 4) 11 [.ref 1] GG M (some (.int (mulV B s p N m))) M := by
  obtain ⟨c9, r9, rfl⟩ := hG0
  have hG : pw (gX c9 r9) := pw_X
  have hm := hT.1.2.2.2.1
  have hu : M 6 2 = Int32.ofNat m := hT.2.2.2.1.2
  refine EvR.of (fun Q hQ => ?_)
  have key := up_ind (S := m) (H := fun i => (∀ j, j < i → nmEq B s p N j = false) → GoP RO (d + 3) 11 [.ref 1, .int (Int32.ofNat i)] [] (gX c9 r9) M 2 0 0 Q) (fun hall => ?_) (fun i hi ih hall => ?_) 0 (by omega)
  · refine EvP.wp [2] 60 rfl ?_
    exact key (fun j hj => absurd hj (by omega))
  · rw [mulV_no hall] at hQ
    refine wp_sound [2] 60 _ _ _ _ _ _ _ ?_
    refine lt_if rfl hu (by omega) (by omega) (fun h => absurd h (by omega)) (fun _ => ?_)
    exact hQ
  · have hq := fun d => c_isNameOf (RO := RO) (d := d) (i := i) hG hP hT hi h5 h4 sp pn
    refine wp_sound [2] 60 _ _ _ _ _ _ _ ?_
    refine lt_if rfl hu (by omega) (by omega) (fun _ => ?_) (fun h => absurd h (by omega))
    refine (hq _).use ?_
    refine zb_if (fun h => ?_) (fun h => ?_)
    · refine GoP.eq2 (ih (fun j hj => ?_)) (by rw [i_inc]) rfl
      by_cases e : j = i
      · rw [e]; exact h
      · exact hall j (by omega)
    · rw [mulV_at hi hall h] at hQ
      exact hQ
/-- the reference compares six places -/
def nm6 (B : Nat → Nat) (s p : Nat) (N : Nat → Int32) (i : Nat) : Nat → Bool
  | 0 => true
  | j + 1 => nm6 B s p N i j && decide (N (15 + 8 * i + 2 + j) = Int32.ofNat (if j < p - s then B (s + j) else 0))
theorem nm6_eq {s p i : Nat} (hL : lettersOk N i) (h6 : p - s ≤ 6) (hlet : ∀ j, s ≤ j → j < p → 97 ≤ B j ∧ B j ≤ 122) : nm6 B s p N i 6 = nmEq B s p N i := by
  have all : ∀ k, nm6 B s p N i k = true ↔ ∀ j, j < k → N (15 + 8 * i + 2 + j) = Int32.ofNat (if j < p - s then B (s + j) else 0) := by
    intro k
    induction k with
    | zero => exact ⟨fun _ j hj => absurd hj (by omega), fun _ => rfl⟩
    | succ k ih =>
      rw [nm6, Bool.and_eq_true, ih, decide_eq_true_eq]
      refine ⟨fun h j hj => ?_, fun h => ⟨fun j hj => h j (by omega), h k (by omega)⟩⟩
      by_cases e : j = k
      · rw [e]; exact h.2
      · exact h.1 j (by omega)
  have hl := letters_l hL
  have hl6 := lettN_le (N := N) (i := i)
  obtain ⟨L, l1, l2, l3, l4⟩ := hL
  have hlz : ∀ j, lettN N i ≤ j → j < 6 → N (15 + 8 * i + 2 + j) = 0 := fun j h1 h2 => by
    by_cases h : j < L
    · exfalso
      have hnz : ∀ x, x < L → decide (N (15 + 8 * i + 2 + x) = 0) = false := fun x hx => by
        obtain ⟨a, a1, a2, a3⟩ := l3 x hx
        refine decide_eq_false (fun e => ?_)
        rw [a3] at e
        have := i_inj (by omega) (by omega) (e.trans (show (0 : Int32) = Int32.ofNat 0 from rfl))
        omega
      have hno : ∀ x, x ≤ L → pick (fun n => decide (N (15 + 8 * i + 2 + n) = 0)) (fun _ _ => false) x = none := by
        intro x
        induction x with
        | zero => intro _; rfl
        | succ x ih => intro hx; rw [pick_off (hnz x (by omega))]; exact ih (by omega)
      have hle : L ≤ lettN N i := by
        rw [lettN, lettI]
        rcases Nat.lt_or_ge L 6 with h7 | h7
        · rw [pick_stays (pick_new (hno L (Nat.le_refl _)) (show (fun n => decide (N (15 + 8 * i + 2 + n) = 0)) L = true from decide_eq_true (l4 L (Nat.le_refl _) h7))) 6 (by omega)]
          exact Nat.le_refl _
        · rw [hno 6 (by omega)]
          exact (by omega : L ≤ 6)
      omega
    · exact l4 j (by omega) h2
  cases h9 : nmEq B s p N i with
  | true =>
    obtain ⟨e1, e2⟩ := nmEq_yes h9
    refine (all 6).mpr (fun j hj => ?_)
    by_cases h : j < p - s
    · rw [if_pos h]; exact e2 j h
    · rw [if_neg h]; exact hlz j (by omega) hj
  | false =>
    cases h8 : nm6 B s p N i 6 with
    | false => rfl
    | true =>
      exfalso
      have h7 := (all 6).mp h8
      have hlen : lettN N i = p - s := by
        rcases Nat.lt_trichotomy (lettN N i) (p - s) with h | h | h
        · have h5 := h7 (lettN N i) (by omega)
          rw [hlz _ (Nat.le_refl _) (by omega), if_pos h] at h5
          have hb := hlet (s + lettN N i) (by omega) (by omega)
          have := i_inj (by omega) (by omega) ((show Int32.ofNat 0 = (0 : Int32) from rfl).trans h5)
          omega
        · exact h
        · have h5 := h7 (p - s) (by omega)
          rw [if_neg (by omega)] at h5
          obtain ⟨a, a1, a2, a3⟩ := hl (p - s) h
          rw [a3] at h5
          have := i_inj (by omega) (by omega) h5
          omega
      rw [nmEq_on hlen (fun j hj => by have h5 := h7 j (by omega); rw [if_pos hj] at h5; exact h5)] at h9
      cases h9
end MULE
section MMULE
variable {RO : List mE} {d n sb m : Nat} {ext : List sh} {M : mM} {Q : mQ} {B : Nat → Nat}
end MMULE
